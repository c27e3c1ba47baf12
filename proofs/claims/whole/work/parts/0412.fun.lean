-- X12_timesAt
def f_X12_timesAt_L5 (n : Nat) (v1 : Int32) (v2 : Int32) (M : HMem) : Nat → Int32 → Int32 → Option Int32
  | 0, _, _ => none
  | k + 1, v3, v4 =>
    if hib v1 8 then
    if (M 78 (Int32.toNatClampNeg v1)) < v4 then
      (some v3)
    else
      (if hib ((97 * v1) + v4) 776 then
      if (M 81 (Int32.toNatClampNeg ((97 * v1) + v4))) = v2 then
        (f_X12_timesAt_L5 n v1 v2 M k (v3 + 1) (v4 + 1))
      else
        (f_X12_timesAt_L5 n v1 v2 M k v3 (v4 + 1))
      else none)
    else none
set_option maxRecDepth 20000 in
theorem w_X12_timesAt_L5 (d : Nat) (hd : 0 ≤ d) (n : Nat) (M : HMem) (v1 : Int32) (v2 : Int32) : ∀ (k : Nat) (v3 : Int32) (v4 : Int32), GX iX12_timesAt d (eP M) (f_X12_timesAt_L5 n v1 v2 M k v3 v4) 5 [some (.inr (some 74)), some (.inl v1), some (.inl v2), some (.inl v3), some (.inl v4)] [] M := by
  intro k
  induction k with
  | zero => intro v3 v4; exact gx_none
  | succ k ih =>
    intro v3 v4
    rw [f_X12_timesAt_L5]
    refine gx_iload dX12_timesAt_5 rfl ?_
    refine gx_aload_n dX12_timesAt_7 rfl ?_
    refine gx_getR fl_X12_19 sh74 rfl dX12_timesAt_8 ?_
    refine gx_iload_n dX12_timesAt_11 rfl ?_
    refine gx_iaload sh78 dX12_timesAt_12 ?_
    refine gx_icmp_gt (tgt := 42) dX12_timesAt_13 (by decide) ?_ ?_
    · refine gx_iload_n dX12_timesAt_42 rfl ?_
      exact gx_iret rfl rfl dX12_timesAt_43
    refine gx_aload_n dX12_timesAt_16 rfl ?_
    refine gx_getR fl_X12_28 sh74 rfl dX12_timesAt_17 ?_
    refine gx_bipush (x := 97) (by decide) dX12_timesAt_20 ?_
    refine gx_iload_n dX12_timesAt_22 rfl ?_
    refine gx_imul dX12_timesAt_23 ?_
    refine gx_iload dX12_timesAt_24 rfl ?_
    refine gx_iadd dX12_timesAt_26 ?_
    refine gx_iaload sh81 dX12_timesAt_27 ?_
    refine gx_iload_n dX12_timesAt_28 rfl ?_
    refine gx_icmp_ne (tgt := 36) dX12_timesAt_29 (by decide) ?_ ?_
    · refine gx_iinc (y := v4 + 1) (lv' := [some (.inr (some 74)), some (.inl v1), some (.inl v2), some (.inl v3), some (.inl (v4 + 1))]) dX12_timesAt_36 rfl rfl (by decide) rfl ?_
      refine gx_goto (tgt := 5) dX12_timesAt_39 (by decide) ?_
      refine gx_mk (lv' := [some (.inr (some 74)), some (.inl v1), some (.inl v2), some (.inl v3), some (.inl (v4 + 1))]) [true, true, true, true, true] rfl ?_
      exact ih v3 (v4 + 1)
    refine gx_iload_n dX12_timesAt_32 rfl ?_
    refine gx_iconst (x := 1) (by decide) dX12_timesAt_33 ?_
    refine gx_iadd dX12_timesAt_34 ?_
    refine gx_istore_n (lv' := [some (.inr (some 74)), some (.inl v1), some (.inl v2), some (.inl (v3 + 1)), some (.inl v4)]) dX12_timesAt_35 (by decide) rfl ?_
    refine gx_iinc (y := v4 + 1) (lv' := [some (.inr (some 74)), some (.inl v1), some (.inl v2), some (.inl (v3 + 1)), some (.inl (v4 + 1))]) dX12_timesAt_36 rfl rfl (by decide) rfl ?_
    refine gx_goto (tgt := 5) dX12_timesAt_39 (by decide) ?_
    refine gx_mk (lv' := [some (.inr (some 74)), some (.inl v1), some (.inl v2), some (.inl (v3 + 1)), some (.inl (v4 + 1))]) [true, true, true, true, true] rfl ?_
    exact ih (v3 + 1) (v4 + 1)
def f_X12_timesAt (n : Nat) (v1 : Int32) (v2 : Int32) (M : HMem) : Option Int32 :=
  f_X12_timesAt_L5 n v1 v2 M n 0 0
set_option maxRecDepth 20000 in
theorem w_X12_timesAt (d : Nat) (hd : 0 ≤ d) (n : Nat) (v1 : Int32) (v2 : Int32) (M : HMem) : GX iX12_timesAt d (eP M) (f_X12_timesAt n v1 v2 M) 0 [some (.inr (some 74)), some (.inl v1), some (.inl v2), none, none] [] M := by
  rw [f_X12_timesAt]
  refine gx_iconst (x := 0) (by decide) dX12_timesAt_0 ?_
  refine gx_istore_n (lv' := [some (.inr (some 74)), some (.inl v1), some (.inl v2), some (.inl 0), none]) dX12_timesAt_1 (by decide) rfl ?_
  refine gx_iconst (x := 0) (by decide) dX12_timesAt_2 ?_
  refine gx_istore (lv' := [some (.inr (some 74)), some (.inl v1), some (.inl v2), some (.inl 0), some (.inl 0)]) dX12_timesAt_3 (by decide) rfl ?_
  refine gx_mk (lv' := [some (.inr (some 74)), some (.inl v1), some (.inl v2), some (.inl 0), some (.inl 0)]) [true, true, true, true, true] rfl ?_
  exact w_X12_timesAt_L5 d hd n M v1 v2 n 0 0
theorem c_X12_timesAt (d : Nat) (hd : 0 ≤ d) (n : Nat) (v1 : Int32) (v2 : Int32) (M : HMem) : MX iX12_timesAt d [.inr (some 74), .inl v1, .inl v2] M (eP M) (f_X12_timesAt n v1 v2 M) := mx_of (by decide +kernel) (Nat.le_of_ble_eq_true rfl) rfl (w_X12_timesAt d hd n v1 v2 M)
-- X12_staysAt
def f_X12_staysAt_J44 (n : Nat) (r5 : Int32 → Int32 → Option Int32) (v1 : Int32) (v2 : Int32) (v3 : Int32) (v4 : Int32) (s0 : Int32) (M : HMem) : Option Int32 :=
  if hib ((97 * v1) + v4) 776 then
  if (M 81 (Int32.toNatClampNeg ((97 * v1) + v4))) = v2 then
    (if s0 = 0 then
      (r5 (v3 + 1) (v4 + 1))
    else
      (r5 v3 (v4 + 1)))
  else
    (r5 v3 (v4 + 1))
  else none
set_option maxRecDepth 20000 in
theorem w_X12_staysAt_J44 (d : Nat) (hd : 0 ≤ d) (n : Nat) (r5 : Int32 → Int32 → Option Int32) (M : HMem) (v1 : Int32) (v2 : Int32) (v3 : Int32) (v4 : Int32) (s0 : Int32) (hr5 : ∀ (v3 : Int32) (v4 : Int32), GX iX12_staysAt d (eP M) (r5 v3 v4) 5 [some (.inr (some 74)), some (.inl v1), some (.inl v2), some (.inl v3), some (.inl v4), none] [] M) : GX iX12_staysAt d (eP M) (f_X12_staysAt_J44 n r5 v1 v2 v3 v4 s0 M) 44 [some (.inr (some 74)), some (.inl v1), some (.inl v2), some (.inl v3), some (.inl v4), none] [.inl s0] M := by
  rw [f_X12_staysAt_J44]
  refine gx_istore (lv' := [some (.inr (some 74)), some (.inl v1), some (.inl v2), some (.inl v3), some (.inl v4), some (.inl s0)]) dX12_staysAt_44 (by decide) rfl ?_
  refine gx_aload_n dX12_staysAt_46 rfl ?_
  refine gx_getR fl_X12_28 sh74 rfl dX12_staysAt_47 ?_
  refine gx_bipush (x := 97) (by decide) dX12_staysAt_50 ?_
  refine gx_iload_n dX12_staysAt_52 rfl ?_
  refine gx_imul dX12_staysAt_53 ?_
  refine gx_iload dX12_staysAt_54 rfl ?_
  refine gx_iadd dX12_staysAt_56 ?_
  refine gx_iaload sh81 dX12_staysAt_57 ?_
  refine gx_iload_n dX12_staysAt_58 rfl ?_
  refine gx_icmp_ne (tgt := 71) dX12_staysAt_59 (by decide) ?_ ?_
  · refine gx_iinc (y := v4 + 1) (lv' := [some (.inr (some 74)), some (.inl v1), some (.inl v2), some (.inl v3), some (.inl (v4 + 1)), some (.inl s0)]) dX12_staysAt_71 rfl rfl (by decide) rfl ?_
    refine gx_goto (tgt := 5) dX12_staysAt_74 (by decide) ?_
    refine gx_mk (lv' := [some (.inr (some 74)), some (.inl v1), some (.inl v2), some (.inl v3), some (.inl (v4 + 1)), none]) [true, true, true, true, true, false] rfl ?_
    exact hr5 v3 (v4 + 1)
  refine gx_iload dX12_staysAt_62 rfl ?_
  refine gx_if_ne (tgt := 71) dX12_staysAt_64 (by decide) ?_ ?_
  · refine gx_iinc (y := v4 + 1) (lv' := [some (.inr (some 74)), some (.inl v1), some (.inl v2), some (.inl v3), some (.inl (v4 + 1)), some (.inl s0)]) dX12_staysAt_71 rfl rfl (by decide) rfl ?_
    refine gx_goto (tgt := 5) dX12_staysAt_74 (by decide) ?_
    refine gx_mk (lv' := [some (.inr (some 74)), some (.inl v1), some (.inl v2), some (.inl v3), some (.inl (v4 + 1)), none]) [true, true, true, true, true, false] rfl ?_
    exact hr5 v3 (v4 + 1)
  refine gx_iload_n dX12_staysAt_67 rfl ?_
  refine gx_iconst (x := 1) (by decide) dX12_staysAt_68 ?_
  refine gx_iadd dX12_staysAt_69 ?_
  refine gx_istore_n (lv' := [some (.inr (some 74)), some (.inl v1), some (.inl v2), some (.inl (v3 + 1)), some (.inl v4), some (.inl s0)]) dX12_staysAt_70 (by decide) rfl ?_
  refine gx_iinc (y := v4 + 1) (lv' := [some (.inr (some 74)), some (.inl v1), some (.inl v2), some (.inl (v3 + 1)), some (.inl (v4 + 1)), some (.inl s0)]) dX12_staysAt_71 rfl rfl (by decide) rfl ?_
  refine gx_goto (tgt := 5) dX12_staysAt_74 (by decide) ?_
  refine gx_mk (lv' := [some (.inr (some 74)), some (.inl v1), some (.inl v2), some (.inl (v3 + 1)), some (.inl (v4 + 1)), none]) [true, true, true, true, true, false] rfl ?_
  exact hr5 (v3 + 1) (v4 + 1)
def f_X12_staysAt_L5 (n : Nat) (v1 : Int32) (v2 : Int32) (M : HMem) : Nat → Int32 → Int32 → Option Int32
  | 0, _, _ => none
  | k + 1, v3, v4 =>
    if hib v1 8 then
    if (M 78 (Int32.toNatClampNeg v1)) < v4 then
      (some v3)
    else
      (if v4 ≤ 0 then
        (f_X12_staysAt_J44 n (f_X12_staysAt_L5 n v1 v2 M k) v1 v2 v3 v4 0 M)
      else
        (if hib (((97 * v1) + v4) - 1) 776 then
        if (M 81 (Int32.toNatClampNeg (((97 * v1) + v4) - 1))) = v2 then
          (f_X12_staysAt_J44 n (f_X12_staysAt_L5 n v1 v2 M k) v1 v2 v3 v4 1 M)
        else
          (f_X12_staysAt_J44 n (f_X12_staysAt_L5 n v1 v2 M k) v1 v2 v3 v4 0 M)
        else none))
    else none
set_option maxRecDepth 20000 in
theorem w_X12_staysAt_L5 (d : Nat) (hd : 0 ≤ d) (n : Nat) (M : HMem) (v1 : Int32) (v2 : Int32) : ∀ (k : Nat) (v3 : Int32) (v4 : Int32), GX iX12_staysAt d (eP M) (f_X12_staysAt_L5 n v1 v2 M k v3 v4) 5 [some (.inr (some 74)), some (.inl v1), some (.inl v2), some (.inl v3), some (.inl v4), none] [] M := by
  intro k
  induction k with
  | zero => intro v3 v4; exact gx_none
  | succ k ih =>
    intro v3 v4
    rw [f_X12_staysAt_L5]
    refine gx_iload dX12_staysAt_5 rfl ?_
    refine gx_aload_n dX12_staysAt_7 rfl ?_
    refine gx_getR fl_X12_19 sh74 rfl dX12_staysAt_8 ?_
    refine gx_iload_n dX12_staysAt_11 rfl ?_
    refine gx_iaload sh78 dX12_staysAt_12 ?_
    refine gx_icmp_gt (tgt := 77) dX12_staysAt_13 (by decide) ?_ ?_
    · refine gx_iload_n dX12_staysAt_77 rfl ?_
      exact gx_iret rfl rfl dX12_staysAt_78
    refine gx_iload dX12_staysAt_16 rfl ?_
    refine gx_if_le (tgt := 43) dX12_staysAt_18 (by decide) ?_ ?_
    · refine gx_iconst (x := 0) (by decide) dX12_staysAt_43 ?_
      refine gx_mk (lv' := [some (.inr (some 74)), some (.inl v1), some (.inl v2), some (.inl v3), some (.inl v4), none]) [true, true, true, true, true, false] rfl ?_
      exact w_X12_staysAt_J44 d hd n (f_X12_staysAt_L5 n v1 v2 M k) M v1 v2 v3 v4 0 ih
    refine gx_aload_n dX12_staysAt_21 rfl ?_
    refine gx_getR fl_X12_28 sh74 rfl dX12_staysAt_22 ?_
    refine gx_bipush (x := 97) (by decide) dX12_staysAt_25 ?_
    refine gx_iload_n dX12_staysAt_27 rfl ?_
    refine gx_imul dX12_staysAt_28 ?_
    refine gx_iload dX12_staysAt_29 rfl ?_
    refine gx_iadd dX12_staysAt_31 ?_
    refine gx_iconst (x := 1) (by decide) dX12_staysAt_32 ?_
    refine gx_isub dX12_staysAt_33 ?_
    refine gx_iaload sh81 dX12_staysAt_34 ?_
    refine gx_iload_n dX12_staysAt_35 rfl ?_
    refine gx_icmp_ne (tgt := 43) dX12_staysAt_36 (by decide) ?_ ?_
    · refine gx_iconst (x := 0) (by decide) dX12_staysAt_43 ?_
      refine gx_mk (lv' := [some (.inr (some 74)), some (.inl v1), some (.inl v2), some (.inl v3), some (.inl v4), none]) [true, true, true, true, true, false] rfl ?_
      exact w_X12_staysAt_J44 d hd n (f_X12_staysAt_L5 n v1 v2 M k) M v1 v2 v3 v4 0 ih
    refine gx_iconst (x := 1) (by decide) dX12_staysAt_39 ?_
    refine gx_goto (tgt := 44) dX12_staysAt_40 (by decide) ?_
    refine gx_mk (lv' := [some (.inr (some 74)), some (.inl v1), some (.inl v2), some (.inl v3), some (.inl v4), none]) [true, true, true, true, true, false] rfl ?_
    exact w_X12_staysAt_J44 d hd n (f_X12_staysAt_L5 n v1 v2 M k) M v1 v2 v3 v4 1 ih
def f_X12_staysAt (n : Nat) (v1 : Int32) (v2 : Int32) (M : HMem) : Option Int32 :=
  f_X12_staysAt_L5 n v1 v2 M n 0 0
set_option maxRecDepth 20000 in
theorem w_X12_staysAt (d : Nat) (hd : 0 ≤ d) (n : Nat) (v1 : Int32) (v2 : Int32) (M : HMem) : GX iX12_staysAt d (eP M) (f_X12_staysAt n v1 v2 M) 0 [some (.inr (some 74)), some (.inl v1), some (.inl v2), none, none, none] [] M := by
  rw [f_X12_staysAt]
  refine gx_iconst (x := 0) (by decide) dX12_staysAt_0 ?_
  refine gx_istore_n (lv' := [some (.inr (some 74)), some (.inl v1), some (.inl v2), some (.inl 0), none, none]) dX12_staysAt_1 (by decide) rfl ?_
  refine gx_iconst (x := 0) (by decide) dX12_staysAt_2 ?_
  refine gx_istore (lv' := [some (.inr (some 74)), some (.inl v1), some (.inl v2), some (.inl 0), some (.inl 0), none]) dX12_staysAt_3 (by decide) rfl ?_
  refine gx_mk (lv' := [some (.inr (some 74)), some (.inl v1), some (.inl v2), some (.inl 0), some (.inl 0), none]) [true, true, true, true, true, false] rfl ?_
  exact w_X12_staysAt_L5 d hd n M v1 v2 n 0 0
theorem c_X12_staysAt (d : Nat) (hd : 0 ≤ d) (n : Nat) (v1 : Int32) (v2 : Int32) (M : HMem) : MX iX12_staysAt d [.inr (some 74), .inl v1, .inl v2] M (eP M) (f_X12_staysAt n v1 v2 M) := mx_of (by decide +kernel) (Nat.le_of_ble_eq_true rfl) rfl (w_X12_staysAt d hd n v1 v2 M)
-- X12_stayed
def f_X12_stayed_L91 (n : Nat) (v1 : Int32) (v2 : Int32) (v3 : Int32) (v4 : Int32) (M : HMem) : Nat → Int32 → Int32 → Option Int32
  | 0, _, _ => none
  | k + 1, v5, v6 =>
    if 192 ≤ v6 then
      (if v2 = 0 then
        (some v3)
      else
        (if v2 = 1 then
          (some v4)
        else
          (some v5)))
    else
      (hb1 (f_X12_staysAt n v1 v6 M) (fun x101 =>
      if x101 ≤ 1 then
        (f_X12_stayed_L91 n v1 v2 v3 v4 M k v5 (v6 + 1))
      else
        (f_X12_stayed_L91 n v1 v2 v3 v4 M k (v5 + 1) (v6 + 1))))
set_option maxRecDepth 20000 in
theorem w_X12_stayed_L91 (d : Nat) (hd : 2 ≤ d) (n : Nat) (M : HMem) (v1 : Int32) (v2 : Int32) (v3 : Int32) (v4 : Int32) : ∀ (k : Nat) (v5 : Int32) (v6 : Int32), GX iX12_stayed d (eP M) (f_X12_stayed_L91 n v1 v2 v3 v4 M k v5 v6) 91 [some (.inr (some 74)), some (.inl v1), some (.inl v2), some (.inl v3), some (.inl v4), some (.inl v5), some (.inl v6)] [] M := by
  intro k
  induction k with
  | zero => intro v5 v6; exact gx_none
  | succ k ih =>
    intro v5 v6
    rw [f_X12_stayed_L91]
    refine gx_iload dX12_stayed_91 rfl ?_
    refine gx_sipush (x := 192) (by decide) dX12_stayed_93 ?_
    refine gx_icmp_ge (tgt := 122) dX12_stayed_96 (by decide) ?_ ?_
    · refine gx_iload_n dX12_stayed_122 rfl ?_
      refine gx_if_ne (tgt := 130) dX12_stayed_123 (by decide) ?_ ?_
      · refine gx_iload_n dX12_stayed_130 rfl ?_
        refine gx_iconst (x := 1) (by decide) dX12_stayed_131 ?_
        refine gx_icmp_ne (tgt := 140) dX12_stayed_132 (by decide) ?_ ?_
        · refine gx_iload dX12_stayed_140 rfl ?_
          exact gx_iret rfl rfl dX12_stayed_142
        refine gx_iload dX12_stayed_135 rfl ?_
        refine gx_goto (tgt := 142) dX12_stayed_137 (by decide) ?_
        exact gx_iret rfl rfl dX12_stayed_142
      refine gx_iload_n dX12_stayed_126 rfl ?_
      refine gx_goto (tgt := 142) dX12_stayed_127 (by decide) ?_
      exact gx_iret rfl rfl dX12_stayed_142
    refine gx_aload_n dX12_stayed_99 rfl ?_
    refine gx_iload_n dX12_stayed_100 rfl ?_
    refine gx_iload dX12_stayed_101 rfl ?_
    refine gx_cV_ip (av := [.inl v1, .inl v6]) (st := []) ml_X12_377 (by omega) sh74 (c_X12_staysAt (d - 1) (by omega) n v1 v6 M) rfl rfl (Nat.le_of_ble_eq_true rfl) dX12_stayed_103 (fun x101 => ?_)
    refine gx_iconst (x := 1) (by decide) dX12_stayed_106 ?_
    refine gx_icmp_le (tgt := 116) dX12_stayed_107 (by decide) ?_ ?_
    · refine gx_iinc (y := v6 + 1) (lv' := [some (.inr (some 74)), some (.inl v1), some (.inl v2), some (.inl v3), some (.inl v4), some (.inl v5), some (.inl (v6 + 1))]) dX12_stayed_116 rfl rfl (by decide) rfl ?_
      refine gx_goto (tgt := 91) dX12_stayed_119 (by decide) ?_
      refine gx_mk (lv' := [some (.inr (some 74)), some (.inl v1), some (.inl v2), some (.inl v3), some (.inl v4), some (.inl v5), some (.inl (v6 + 1))]) [true, true, true, true, true, true, true] rfl ?_
      exact ih v5 (v6 + 1)
    refine gx_iload dX12_stayed_110 rfl ?_
    refine gx_iconst (x := 1) (by decide) dX12_stayed_112 ?_
    refine gx_iadd dX12_stayed_113 ?_
    refine gx_istore (lv' := [some (.inr (some 74)), some (.inl v1), some (.inl v2), some (.inl v3), some (.inl v4), some (.inl (v5 + 1)), some (.inl v6)]) dX12_stayed_114 (by decide) rfl ?_
    refine gx_iinc (y := v6 + 1) (lv' := [some (.inr (some 74)), some (.inl v1), some (.inl v2), some (.inl v3), some (.inl v4), some (.inl (v5 + 1)), some (.inl (v6 + 1))]) dX12_stayed_116 rfl rfl (by decide) rfl ?_
    refine gx_goto (tgt := 91) dX12_stayed_119 (by decide) ?_
    refine gx_mk (lv' := [some (.inr (some 74)), some (.inl v1), some (.inl v2), some (.inl v3), some (.inl v4), some (.inl (v5 + 1)), some (.inl (v6 + 1))]) [true, true, true, true, true, true, true] rfl ?_
    exact ih (v5 + 1) (v6 + 1)
def f_X12_stayed_L27 (n : Nat) (v1 : Int32) (v2 : Int32) (M : HMem) : Nat → Int32 → Int32 → Int32 → Option Int32
  | 0, _, _, _ => none
  | k + 1, v3, v4, v5 =>
    if hib v1 8 then
    if (M 78 (Int32.toNatClampNeg v1)) < v5 then
      (f_X12_stayed_L91 n v1 v2 v3 v4 M n 0 0)
    else
      (if hib ((97 * v1) + v5) 776 then
      hb1 (f_X12_timesAt n v1 (M 81 (Int32.toNatClampNeg ((97 * v1) + v5))) M) (fun x101 =>
      if v4 < x101 then
        (hb1 (f_X12_timesAt n v1 (M 81 (Int32.toNatClampNeg ((97 * v1) + v5))) M) (fun x102 =>
        f_X12_stayed_L27 n v1 v2 M k (M 81 (Int32.toNatClampNeg ((97 * v1) + v5))) x102 (v5 + 1)))
      else
        (f_X12_stayed_L27 n v1 v2 M k v3 v4 (v5 + 1)))
      else none)
    else none
set_option maxRecDepth 20000 in
theorem w_X12_stayed_L27 (d : Nat) (hd : 2 ≤ d) (n : Nat) (M : HMem) (v1 : Int32) (v2 : Int32) : ∀ (k : Nat) (v3 : Int32) (v4 : Int32) (v5 : Int32), GX iX12_stayed d (eP M) (f_X12_stayed_L27 n v1 v2 M k v3 v4 v5) 27 [some (.inr (some 74)), some (.inl v1), some (.inl v2), some (.inl v3), some (.inl v4), some (.inl v5), none] [] M := by
  intro k
  induction k with
  | zero => intro v3 v4 v5; exact gx_none
  | succ k ih =>
    intro v3 v4 v5
    rw [f_X12_stayed_L27]
    refine gx_iload dX12_stayed_27 rfl ?_
    refine gx_aload_n dX12_stayed_29 rfl ?_
    refine gx_getR fl_X12_19 sh74 rfl dX12_stayed_30 ?_
    refine gx_iload_n dX12_stayed_33 rfl ?_
    refine gx_iaload sh78 dX12_stayed_34 ?_
    refine gx_icmp_gt (tgt := 85) dX12_stayed_35 (by decide) ?_ ?_
    · refine gx_iconst (x := 0) (by decide) dX12_stayed_85 ?_
      refine gx_istore (lv' := [some (.inr (some 74)), some (.inl v1), some (.inl v2), some (.inl v3), some (.inl v4), some (.inl 0), none]) dX12_stayed_86 (by decide) rfl ?_
      refine gx_iconst (x := 0) (by decide) dX12_stayed_88 ?_
      refine gx_istore (lv' := [some (.inr (some 74)), some (.inl v1), some (.inl v2), some (.inl v3), some (.inl v4), some (.inl 0), some (.inl 0)]) dX12_stayed_89 (by decide) rfl ?_
      refine gx_mk (lv' := [some (.inr (some 74)), some (.inl v1), some (.inl v2), some (.inl v3), some (.inl v4), some (.inl 0), some (.inl 0)]) [true, true, true, true, true, true, true] rfl ?_
      exact w_X12_stayed_L91 d hd n M v1 v2 v3 v4 n 0 0
    refine gx_aload_n dX12_stayed_38 rfl ?_
    refine gx_getR fl_X12_28 sh74 rfl dX12_stayed_39 ?_
    refine gx_bipush (x := 97) (by decide) dX12_stayed_42 ?_
    refine gx_iload_n dX12_stayed_44 rfl ?_
    refine gx_imul dX12_stayed_45 ?_
    refine gx_iload dX12_stayed_46 rfl ?_
    refine gx_iadd dX12_stayed_48 ?_
    refine gx_iaload sh81 dX12_stayed_49 ?_
    refine gx_istore (lv' := [some (.inr (some 74)), some (.inl v1), some (.inl v2), some (.inl v3), some (.inl v4), some (.inl v5), some (.inl (M 81 (Int32.toNatClampNeg ((97 * v1) + v5))))]) dX12_stayed_50 (by decide) rfl ?_
    refine gx_aload_n dX12_stayed_52 rfl ?_
    refine gx_iload_n dX12_stayed_53 rfl ?_
    refine gx_iload dX12_stayed_54 rfl ?_
    refine gx_cV_ip (av := [.inl v1, .inl (M 81 (Int32.toNatClampNeg ((97 * v1) + v5)))]) (st := []) ml_X12_374 (by omega) sh74 (c_X12_timesAt (d - 1) (by omega) n v1 (M 81 (Int32.toNatClampNeg ((97 * v1) + v5))) M) rfl rfl (Nat.le_of_ble_eq_true rfl) dX12_stayed_56 (fun x101 => ?_)
    refine gx_iload dX12_stayed_59 rfl ?_
    refine gx_icmp_gt (tgt := 67) dX12_stayed_61 (by decide) ?_ ?_
    · refine gx_aload_n dX12_stayed_67 rfl ?_
      refine gx_iload_n dX12_stayed_68 rfl ?_
      refine gx_iload dX12_stayed_69 rfl ?_
      refine gx_cV_ip (av := [.inl v1, .inl (M 81 (Int32.toNatClampNeg ((97 * v1) + v5)))]) (st := []) ml_X12_374 (by omega) sh74 (c_X12_timesAt (d - 1) (by omega) n v1 (M 81 (Int32.toNatClampNeg ((97 * v1) + v5))) M) rfl rfl (Nat.le_of_ble_eq_true rfl) dX12_stayed_71 (fun x102 => ?_)
      refine gx_istore (lv' := [some (.inr (some 74)), some (.inl v1), some (.inl v2), some (.inl v3), some (.inl x102), some (.inl v5), some (.inl (M 81 (Int32.toNatClampNeg ((97 * v1) + v5))))]) dX12_stayed_74 (by decide) rfl ?_
      refine gx_iload dX12_stayed_76 rfl ?_
      refine gx_istore_n (lv' := [some (.inr (some 74)), some (.inl v1), some (.inl v2), some (.inl (M 81 (Int32.toNatClampNeg ((97 * v1) + v5)))), some (.inl x102), some (.inl v5), some (.inl (M 81 (Int32.toNatClampNeg ((97 * v1) + v5))))]) dX12_stayed_78 (by decide) rfl ?_
      refine gx_iinc (y := v5 + 1) (lv' := [some (.inr (some 74)), some (.inl v1), some (.inl v2), some (.inl (M 81 (Int32.toNatClampNeg ((97 * v1) + v5)))), some (.inl x102), some (.inl (v5 + 1)), some (.inl (M 81 (Int32.toNatClampNeg ((97 * v1) + v5))))]) dX12_stayed_79 rfl rfl (by decide) rfl ?_
      refine gx_goto (tgt := 27) dX12_stayed_82 (by decide) ?_
      refine gx_mk (lv' := [some (.inr (some 74)), some (.inl v1), some (.inl v2), some (.inl (M 81 (Int32.toNatClampNeg ((97 * v1) + v5)))), some (.inl x102), some (.inl (v5 + 1)), none]) [true, true, true, true, true, true, false] rfl ?_
      exact ih (M 81 (Int32.toNatClampNeg ((97 * v1) + v5))) x102 (v5 + 1)
    refine gx_goto (tgt := 79) dX12_stayed_64 (by decide) ?_
    refine gx_iinc (y := v5 + 1) (lv' := [some (.inr (some 74)), some (.inl v1), some (.inl v2), some (.inl v3), some (.inl v4), some (.inl (v5 + 1)), some (.inl (M 81 (Int32.toNatClampNeg ((97 * v1) + v5))))]) dX12_stayed_79 rfl rfl (by decide) rfl ?_
    refine gx_goto (tgt := 27) dX12_stayed_82 (by decide) ?_
    refine gx_mk (lv' := [some (.inr (some 74)), some (.inl v1), some (.inl v2), some (.inl v3), some (.inl v4), some (.inl (v5 + 1)), none]) [true, true, true, true, true, true, false] rfl ?_
    exact ih v3 v4 (v5 + 1)
def f_X12_stayed (n : Nat) (v1 : Int32) (v2 : Int32) (M : HMem) : Option Int32 :=
  hb1 (f_X12_hasLine v1 M) (fun x101 =>
  if x101 = 0 then
    (some (-1))
  else
    (if (f_X12_in v2 0 2) = 0 then
      (some (-1))
    else
      (f_X12_stayed_L27 n v1 v2 M n (-1) 0 0)))
set_option maxRecDepth 20000 in
theorem w_X12_stayed (d : Nat) (hd : 2 ≤ d) (n : Nat) (v1 : Int32) (v2 : Int32) (M : HMem) : GX iX12_stayed d (eP M) (f_X12_stayed n v1 v2 M) 0 [some (.inr (some 74)), some (.inl v1), some (.inl v2), none, none, none, none] [] M := by
  rw [f_X12_stayed]
  refine gx_aload_n dX12_stayed_0 rfl ?_
  refine gx_iload_n dX12_stayed_1 rfl ?_
  refine gx_cV_ip (av := [.inl v1]) (st := []) ml_X12_122 (by omega) sh74 (c_X12_hasLine (d - 1) (by omega) v1 M) rfl rfl (Nat.le_of_ble_eq_true rfl) dX12_stayed_2 (fun x101 => ?_)
  refine gx_if_eq (tgt := 17) dX12_stayed_5 (by decide) ?_ ?_
  · refine gx_iconst (x := (-1)) (by decide) dX12_stayed_17 ?_
    exact gx_iret rfl rfl dX12_stayed_18
  refine gx_iload_n dX12_stayed_8 rfl ?_
  refine gx_iconst (x := 0) (by decide) dX12_stayed_9 ?_
  refine gx_iconst (x := 2) (by decide) dX12_stayed_10 ?_
  refine gx_cS_it (av := [.inl v2, .inl 0, .inl 2]) (st := []) ml_X12_118 (by omega) (c_X12_in (d - 1) (by omega) v2 0 2 M) rfl rfl (Nat.le_of_ble_eq_true rfl) dX12_stayed_11 ?_
  refine gx_if_ne (tgt := 19) dX12_stayed_14 (by decide) ?_ ?_
  · refine gx_iconst (x := (-1)) (by decide) dX12_stayed_19 ?_
    refine gx_istore_n (lv' := [some (.inr (some 74)), some (.inl v1), some (.inl v2), some (.inl (-1)), none, none, none]) dX12_stayed_20 (by decide) rfl ?_
    refine gx_iconst (x := 0) (by decide) dX12_stayed_21 ?_
    refine gx_istore (lv' := [some (.inr (some 74)), some (.inl v1), some (.inl v2), some (.inl (-1)), some (.inl 0), none, none]) dX12_stayed_22 (by decide) rfl ?_
    refine gx_iconst (x := 0) (by decide) dX12_stayed_24 ?_
    refine gx_istore (lv' := [some (.inr (some 74)), some (.inl v1), some (.inl v2), some (.inl (-1)), some (.inl 0), some (.inl 0), none]) dX12_stayed_25 (by decide) rfl ?_
    refine gx_mk (lv' := [some (.inr (some 74)), some (.inl v1), some (.inl v2), some (.inl (-1)), some (.inl 0), some (.inl 0), none]) [true, true, true, true, true, true, false] rfl ?_
    exact w_X12_stayed_L27 d hd n M v1 v2 n (-1) 0 0
  refine gx_iconst (x := (-1)) (by decide) dX12_stayed_17 ?_
  exact gx_iret rfl rfl dX12_stayed_18
theorem c_X12_stayed (d : Nat) (hd : 2 ≤ d) (n : Nat) (v1 : Int32) (v2 : Int32) (M : HMem) : MX iX12_stayed d [.inr (some 74), .inl v1, .inl v2] M (eP M) (f_X12_stayed n v1 v2 M) := mx_of (by decide +kernel) (Nat.le_of_ble_eq_true rfl) rfl (w_X12_stayed d hd n v1 v2 M)
-- X12_unlooped
def f_X12_unlooped_J82 (n : Nat) (r31 : Int32 → Int32 → HMem → Option (Int32 × HMem)) (v1 : Int32) (v2 : Int32) (v4 : Int32) (v5 : Int32) (M : HMem) : Option (Int32 × HMem) :=
  if hib ((97 * v1) + v4) 776 then
  if hib v5 97 then
  r31 (v5 + 1) (v4 + 1) (hset M 104 (Int32.toNatClampNeg v5) (M 81 (Int32.toNatClampNeg ((97 * v1) + v4))))
  else none
  else none
set_option maxRecDepth 20000 in
theorem w_X12_unlooped_J82 (d : Nat) (hd : 2 ≤ d) (n : Nat) (r31 : Int32 → Int32 → HMem → Option (Int32 × HMem)) (M : HMem) (v1 : Int32) (v2 : Int32) (v4 : Int32) (v5 : Int32) (hr31 : ∀ (v3 : Int32) (v4 : Int32) (M : HMem), GX iX12_unlooped d eI (r31 v3 v4 M) 31 [some (.inr (some 74)), some (.inl v1), some (.inl v2), some (.inl v3), some (.inl v4), none] [] M) : GX iX12_unlooped d eI (f_X12_unlooped_J82 n r31 v1 v2 v4 v5 M) 82 [some (.inr (some 74)), some (.inl v1), some (.inl v2), none, some (.inl v4), some (.inl v5)] [] M := by
  rw [f_X12_unlooped_J82]
  refine gx_aload_n dX12_unlooped_82 rfl ?_
  refine gx_getR fl_X12_98 sh74 rfl dX12_unlooped_83 ?_
  refine gx_iload dX12_unlooped_86 rfl ?_
  refine gx_aload_n dX12_unlooped_88 rfl ?_
  refine gx_getR fl_X12_28 sh74 rfl dX12_unlooped_89 ?_
  refine gx_bipush (x := 97) (by decide) dX12_unlooped_92 ?_
  refine gx_iload_n dX12_unlooped_94 rfl ?_
  refine gx_imul dX12_unlooped_95 ?_
  refine gx_iload dX12_unlooped_96 rfl ?_
  refine gx_iadd dX12_unlooped_98 ?_
  refine gx_iaload sh81 dX12_unlooped_99 ?_
  refine gx_iastore sh104 dX12_unlooped_100 ?_
  refine gx_iload dX12_unlooped_101 rfl ?_
  refine gx_iconst (x := 1) (by decide) dX12_unlooped_103 ?_
  refine gx_iadd dX12_unlooped_104 ?_
  refine gx_istore_n (lv' := [some (.inr (some 74)), some (.inl v1), some (.inl v2), some (.inl (v5 + 1)), some (.inl v4), some (.inl v5)]) dX12_unlooped_105 (by decide) rfl ?_
  refine gx_iinc (y := v4 + 1) (lv' := [some (.inr (some 74)), some (.inl v1), some (.inl v2), some (.inl (v5 + 1)), some (.inl (v4 + 1)), some (.inl v5)]) dX12_unlooped_106 rfl rfl (by decide) rfl ?_
  refine gx_goto (tgt := 31) dX12_unlooped_109 (by decide) ?_
  refine gx_mk (lv' := [some (.inr (some 74)), some (.inl v1), some (.inl v2), some (.inl (v5 + 1)), some (.inl (v4 + 1)), none]) [true, true, true, true, true, false] rfl ?_
  exact hr31 (v5 + 1) (v4 + 1) (hset M 104 (Int32.toNatClampNeg v5) (M 81 (Int32.toNatClampNeg ((97 * v1) + v4))))
def f_X12_unlooped_L45 (n : Nat) (r31 : Int32 → Int32 → HMem → Option (Int32 × HMem)) (v1 : Int32) (v2 : Int32) (v3 : Int32) (v4 : Int32) (M : HMem) : Nat → Int32 → Option (Int32 × HMem)
  | 0, _ => none
  | k + 1, v5 =>
    if v3 ≤ v5 then
      (f_X12_unlooped_J82 n r31 v1 v2 v4 v5 M)
    else
      (if hib v5 97 then
      if hib ((97 * v1) + v4) 776 then
      if (M 104 (Int32.toNatClampNeg v5)) = (M 81 (Int32.toNatClampNeg ((97 * v1) + v4))) then
        (f_X12_unlooped_J82 n r31 v1 v2 v4 v5 M)
      else
        (f_X12_unlooped_L45 n r31 v1 v2 v3 v4 M k (v5 + 1))
      else none
      else none)
set_option maxRecDepth 20000 in
theorem w_X12_unlooped_L45 (d : Nat) (hd : 2 ≤ d) (n : Nat) (r31 : Int32 → Int32 → HMem → Option (Int32 × HMem)) (M : HMem) (v1 : Int32) (v2 : Int32) (v3 : Int32) (v4 : Int32) (hr31 : ∀ (v3 : Int32) (v4 : Int32) (M : HMem), GX iX12_unlooped d eI (r31 v3 v4 M) 31 [some (.inr (some 74)), some (.inl v1), some (.inl v2), some (.inl v3), some (.inl v4), none] [] M) : ∀ (k : Nat) (v5 : Int32), GX iX12_unlooped d eI (f_X12_unlooped_L45 n r31 v1 v2 v3 v4 M k v5) 45 [some (.inr (some 74)), some (.inl v1), some (.inl v2), some (.inl v3), some (.inl v4), some (.inl v5)] [] M := by
  intro k
  induction k with
  | zero => intro v5; exact gx_none
  | succ k ih =>
    intro v5
    rw [f_X12_unlooped_L45]
    refine gx_iload dX12_unlooped_45 rfl ?_
    refine gx_iload_n dX12_unlooped_47 rfl ?_
    refine gx_icmp_ge (tgt := 82) dX12_unlooped_48 (by decide) ?_ ?_
    · refine gx_mk (lv' := [some (.inr (some 74)), some (.inl v1), some (.inl v2), none, some (.inl v4), some (.inl v5)]) [true, true, true, false, true, true] rfl ?_
      exact w_X12_unlooped_J82 d hd n r31 M v1 v2 v4 v5 hr31
    refine gx_aload_n dX12_unlooped_51 rfl ?_
    refine gx_getR fl_X12_98 sh74 rfl dX12_unlooped_52 ?_
    refine gx_iload dX12_unlooped_55 rfl ?_
    refine gx_iaload sh104 dX12_unlooped_57 ?_
    refine gx_aload_n dX12_unlooped_58 rfl ?_
    refine gx_getR fl_X12_28 sh74 rfl dX12_unlooped_59 ?_
    refine gx_bipush (x := 97) (by decide) dX12_unlooped_62 ?_
    refine gx_iload_n dX12_unlooped_64 rfl ?_
    refine gx_imul dX12_unlooped_65 ?_
    refine gx_iload dX12_unlooped_66 rfl ?_
    refine gx_iadd dX12_unlooped_68 ?_
    refine gx_iaload sh81 dX12_unlooped_69 ?_
    refine gx_icmp_eq (tgt := 82) dX12_unlooped_70 (by decide) ?_ ?_
    · refine gx_mk (lv' := [some (.inr (some 74)), some (.inl v1), some (.inl v2), none, some (.inl v4), some (.inl v5)]) [true, true, true, false, true, true] rfl ?_
      exact w_X12_unlooped_J82 d hd n r31 M v1 v2 v4 v5 hr31
    refine gx_iload dX12_unlooped_73 rfl ?_
    refine gx_iconst (x := 1) (by decide) dX12_unlooped_75 ?_
    refine gx_iadd dX12_unlooped_76 ?_
    refine gx_istore (lv' := [some (.inr (some 74)), some (.inl v1), some (.inl v2), some (.inl v3), some (.inl v4), some (.inl (v5 + 1))]) dX12_unlooped_77 (by decide) rfl ?_
    refine gx_goto (tgt := 45) dX12_unlooped_79 (by decide) ?_
    refine gx_mk (lv' := [some (.inr (some 74)), some (.inl v1), some (.inl v2), some (.inl v3), some (.inl v4), some (.inl (v5 + 1))]) [true, true, true, true, true, true] rfl ?_
    exact ih (v5 + 1)
def f_X12_unlooped_L31 (n : Nat) (v1 : Int32) (v2 : Int32) : Nat → Int32 → Int32 → HMem → Option (Int32 × HMem)
  | 0, _, _, _ => none
  | k + 1, v3, v4, M =>
    if hib v1 8 then
    if (M 78 (Int32.toNatClampNeg v1)) < v4 then
      (if v2 = 100 then
        (some (v3, M))
      else
        (if v3 ≤ v2 then
          (some ((-4), M))
        else
          (if hib v2 97 then
          some (M 104 (Int32.toNatClampNeg v2), M)
          else none)))
    else
      (f_X12_unlooped_L45 n (f_X12_unlooped_L31 n v1 v2 k) v1 v2 v3 v4 M n 0)
    else none
set_option maxRecDepth 20000 in
theorem w_X12_unlooped_L31 (d : Nat) (hd : 2 ≤ d) (n : Nat) (v1 : Int32) (v2 : Int32) : ∀ (k : Nat) (v3 : Int32) (v4 : Int32) (M : HMem), GX iX12_unlooped d eI (f_X12_unlooped_L31 n v1 v2 k v3 v4 M) 31 [some (.inr (some 74)), some (.inl v1), some (.inl v2), some (.inl v3), some (.inl v4), none] [] M := by
  intro k
  induction k with
  | zero => intro v3 v4 M; exact gx_none
  | succ k ih =>
    intro v3 v4 M
    rw [f_X12_unlooped_L31]
    refine gx_iload dX12_unlooped_31 rfl ?_
    refine gx_aload_n dX12_unlooped_33 rfl ?_
    refine gx_getR fl_X12_19 sh74 rfl dX12_unlooped_34 ?_
    refine gx_iload_n dX12_unlooped_37 rfl ?_
    refine gx_iaload sh78 dX12_unlooped_38 ?_
    refine gx_icmp_gt (tgt := 112) dX12_unlooped_39 (by decide) ?_ ?_
    · refine gx_iload_n dX12_unlooped_112 rfl ?_
      refine gx_bipush (x := 100) (by decide) dX12_unlooped_113 ?_
      refine gx_icmp_ne (tgt := 122) dX12_unlooped_115 (by decide) ?_ ?_
      · refine gx_iload_n dX12_unlooped_122 rfl ?_
        refine gx_iload_n dX12_unlooped_123 rfl ?_
        refine gx_icmp_ge (tgt := 136) dX12_unlooped_124 (by decide) ?_ ?_
        · refine gx_bipush (x := (-4)) (by decide) dX12_unlooped_136 ?_
          exact gx_iret rfl rfl dX12_unlooped_138
        refine gx_aload_n dX12_unlooped_127 rfl ?_
        refine gx_getR fl_X12_98 sh74 rfl dX12_unlooped_128 ?_
        refine gx_iload_n dX12_unlooped_131 rfl ?_
        refine gx_iaload sh104 dX12_unlooped_132 ?_
        refine gx_goto (tgt := 138) dX12_unlooped_133 (by decide) ?_
        exact gx_iret rfl rfl dX12_unlooped_138
      refine gx_iload_n dX12_unlooped_118 rfl ?_
      refine gx_goto (tgt := 138) dX12_unlooped_119 (by decide) ?_
      exact gx_iret rfl rfl dX12_unlooped_138
    refine gx_iconst (x := 0) (by decide) dX12_unlooped_42 ?_
    refine gx_istore (lv' := [some (.inr (some 74)), some (.inl v1), some (.inl v2), some (.inl v3), some (.inl v4), some (.inl 0)]) dX12_unlooped_43 (by decide) rfl ?_
    refine gx_mk (lv' := [some (.inr (some 74)), some (.inl v1), some (.inl v2), some (.inl v3), some (.inl v4), some (.inl 0)]) [true, true, true, true, true, true] rfl ?_
    exact w_X12_unlooped_L45 d hd n (f_X12_unlooped_L31 n v1 v2 k) M v1 v2 v3 v4 ih n 0
def f_X12_unlooped (n : Nat) (v1 : Int32) (v2 : Int32) (M : HMem) : Option (Int32 × HMem) :=
  hb1 (f_X12_hasLine v1 M) (fun x101 =>
  if x101 = 0 then
    (some ((-1), M))
  else
    (if (f_X12_in v2 0 96) = 0 then
      (if v2 = 100 then
        (f_X12_unlooped_L31 n v1 v2 n 0 0 M)
      else
        (some ((-1), M)))
    else
      (f_X12_unlooped_L31 n v1 v2 n 0 0 M)))
set_option maxRecDepth 20000 in
theorem w_X12_unlooped (d : Nat) (hd : 2 ≤ d) (n : Nat) (v1 : Int32) (v2 : Int32) (M : HMem) : GX iX12_unlooped d eI (f_X12_unlooped n v1 v2 M) 0 [some (.inr (some 74)), some (.inl v1), some (.inl v2), none, none, none] [] M := by
  rw [f_X12_unlooped]
  refine gx_aload_n dX12_unlooped_0 rfl ?_
  refine gx_iload_n dX12_unlooped_1 rfl ?_
  refine gx_cV_ip (av := [.inl v1]) (st := []) ml_X12_122 (by omega) sh74 (c_X12_hasLine (d - 1) (by omega) v1 M) rfl rfl (Nat.le_of_ble_eq_true rfl) dX12_unlooped_2 (fun x101 => ?_)
  refine gx_if_eq (tgt := 24) dX12_unlooped_5 (by decide) ?_ ?_
  · refine gx_iconst (x := (-1)) (by decide) dX12_unlooped_24 ?_
    exact gx_iret rfl rfl dX12_unlooped_25
  refine gx_iload_n dX12_unlooped_8 rfl ?_
  refine gx_iconst (x := 0) (by decide) dX12_unlooped_9 ?_
  refine gx_bipush (x := 96) (by decide) dX12_unlooped_10 ?_
  refine gx_cS_it (av := [.inl v2, .inl 0, .inl 96]) (st := []) ml_X12_118 (by omega) (c_X12_in (d - 1) (by omega) v2 0 96 M) rfl rfl (Nat.le_of_ble_eq_true rfl) dX12_unlooped_12 ?_
  refine gx_if_ne (tgt := 26) dX12_unlooped_15 (by decide) ?_ ?_
  · refine gx_iconst (x := 0) (by decide) dX12_unlooped_26 ?_
    refine gx_istore_n (lv' := [some (.inr (some 74)), some (.inl v1), some (.inl v2), some (.inl 0), none, none]) dX12_unlooped_27 (by decide) rfl ?_
    refine gx_iconst (x := 0) (by decide) dX12_unlooped_28 ?_
    refine gx_istore (lv' := [some (.inr (some 74)), some (.inl v1), some (.inl v2), some (.inl 0), some (.inl 0), none]) dX12_unlooped_29 (by decide) rfl ?_
    refine gx_mk (lv' := [some (.inr (some 74)), some (.inl v1), some (.inl v2), some (.inl 0), some (.inl 0), none]) [true, true, true, true, true, false] rfl ?_
    exact w_X12_unlooped_L31 d hd n v1 v2 n 0 0 M
  refine gx_iload_n dX12_unlooped_18 rfl ?_
  refine gx_bipush (x := 100) (by decide) dX12_unlooped_19 ?_
  refine gx_icmp_eq (tgt := 26) dX12_unlooped_21 (by decide) ?_ ?_
  · refine gx_iconst (x := 0) (by decide) dX12_unlooped_26 ?_
    refine gx_istore_n (lv' := [some (.inr (some 74)), some (.inl v1), some (.inl v2), some (.inl 0), none, none]) dX12_unlooped_27 (by decide) rfl ?_
    refine gx_iconst (x := 0) (by decide) dX12_unlooped_28 ?_
    refine gx_istore (lv' := [some (.inr (some 74)), some (.inl v1), some (.inl v2), some (.inl 0), some (.inl 0), none]) dX12_unlooped_29 (by decide) rfl ?_
    refine gx_mk (lv' := [some (.inr (some 74)), some (.inl v1), some (.inl v2), some (.inl 0), some (.inl 0), none]) [true, true, true, true, true, false] rfl ?_
    exact w_X12_unlooped_L31 d hd n v1 v2 n 0 0 M
  refine gx_iconst (x := (-1)) (by decide) dX12_unlooped_24 ?_
  exact gx_iret rfl rfl dX12_unlooped_25
theorem c_X12_unlooped (d : Nat) (hd : 2 ≤ d) (n : Nat) (v1 : Int32) (v2 : Int32) (M : HMem) : MX iX12_unlooped d [.inr (some 74), .inl v1, .inl v2] M eI (f_X12_unlooped n v1 v2 M) := mx_of (by decide +kernel) (Nat.le_of_ble_eq_true rfl) rfl (w_X12_unlooped d hd n v1 v2 M)
-- X12_charges
def f_X12_charges_L131 (n : Nat) (v2 : Int32) (v3 : Int32) (M : HMem) : Nat → Int32 → Int32 → Int32 → Option (Int32 × HMem)
  | 0, _, _, _ => none
  | k + 1, v4, v5, v6 =>
    if 10 ≤ v6 then
      (if v2 = 0 then
        (some (v3, M))
      else
        (if v2 = 1 then
          (some (v4, M))
        else
          (some (v5, M))))
    else
      (if hib v6 10 then
      if v5 < (M 105 (Int32.toNatClampNeg v6)) then
        (if hib v6 10 then
        f_X12_charges_L131 n v2 v3 M k (v6 - 2) (M 105 (Int32.toNatClampNeg v6)) (v6 + 1)
        else none)
      else
        (f_X12_charges_L131 n v2 v3 M k v4 v5 (v6 + 1))
      else none)
set_option maxRecDepth 20000 in
theorem w_X12_charges_L131 (d : Nat) (hd : 2 ≤ d) (n : Nat) (M : HMem) (v2 : Int32) (v3 : Int32) : ∀ (k : Nat) (v4 : Int32) (v5 : Int32) (v6 : Int32), GX iX12_charges d eI (f_X12_charges_L131 n v2 v3 M k v4 v5 v6) 131 [some (.inr (some 74)), none, some (.inl v2), some (.inl v3), some (.inl v4), some (.inl v5), some (.inl v6)] [] M := by
  intro k
  induction k with
  | zero => intro v4 v5 v6; exact gx_none
  | succ k ih =>
    intro v4 v5 v6
    rw [f_X12_charges_L131]
    refine gx_iload dX12_charges_131 rfl ?_
    refine gx_bipush (x := 10) (by decide) dX12_charges_133 ?_
    refine gx_icmp_ge (tgt := 174) dX12_charges_135 (by decide) ?_ ?_
    · refine gx_iload_n dX12_charges_174 rfl ?_
      refine gx_if_ne (tgt := 182) dX12_charges_175 (by decide) ?_ ?_
      · refine gx_iload_n dX12_charges_182 rfl ?_
        refine gx_iconst (x := 1) (by decide) dX12_charges_183 ?_
        refine gx_icmp_ne (tgt := 192) dX12_charges_184 (by decide) ?_ ?_
        · refine gx_iload dX12_charges_192 rfl ?_
          exact gx_iret rfl rfl dX12_charges_194
        refine gx_iload dX12_charges_187 rfl ?_
        refine gx_goto (tgt := 194) dX12_charges_189 (by decide) ?_
        exact gx_iret rfl rfl dX12_charges_194
      refine gx_iload_n dX12_charges_178 rfl ?_
      refine gx_goto (tgt := 194) dX12_charges_179 (by decide) ?_
      exact gx_iret rfl rfl dX12_charges_194
    refine gx_aload_n dX12_charges_138 rfl ?_
    refine gx_getR fl_X12_101 sh74 rfl dX12_charges_139 ?_
    refine gx_iload dX12_charges_142 rfl ?_
    refine gx_iaload sh105 dX12_charges_144 ?_
    refine gx_iload dX12_charges_145 rfl ?_
    refine gx_icmp_gt (tgt := 153) dX12_charges_147 (by decide) ?_ ?_
    · refine gx_aload_n dX12_charges_153 rfl ?_
      refine gx_getR fl_X12_101 sh74 rfl dX12_charges_154 ?_
      refine gx_iload dX12_charges_157 rfl ?_
      refine gx_iaload sh105 dX12_charges_159 ?_
      refine gx_istore (lv' := [some (.inr (some 74)), none, some (.inl v2), some (.inl v3), some (.inl v4), some (.inl (M 105 (Int32.toNatClampNeg v6))), some (.inl v6)]) dX12_charges_160 (by decide) rfl ?_
      refine gx_iload dX12_charges_162 rfl ?_
      refine gx_iconst (x := 2) (by decide) dX12_charges_164 ?_
      refine gx_isub dX12_charges_165 ?_
      refine gx_istore (lv' := [some (.inr (some 74)), none, some (.inl v2), some (.inl v3), some (.inl (v6 - 2)), some (.inl (M 105 (Int32.toNatClampNeg v6))), some (.inl v6)]) dX12_charges_166 (by decide) rfl ?_
      refine gx_iinc (y := v6 + 1) (lv' := [some (.inr (some 74)), none, some (.inl v2), some (.inl v3), some (.inl (v6 - 2)), some (.inl (M 105 (Int32.toNatClampNeg v6))), some (.inl (v6 + 1))]) dX12_charges_168 rfl rfl (by decide) rfl ?_
      refine gx_goto (tgt := 131) dX12_charges_171 (by decide) ?_
      refine gx_mk (lv' := [some (.inr (some 74)), none, some (.inl v2), some (.inl v3), some (.inl (v6 - 2)), some (.inl (M 105 (Int32.toNatClampNeg v6))), some (.inl (v6 + 1))]) [true, false, true, true, true, true, true] rfl ?_
      exact ih (v6 - 2) (M 105 (Int32.toNatClampNeg v6)) (v6 + 1)
    refine gx_goto (tgt := 168) dX12_charges_150 (by decide) ?_
    refine gx_iinc (y := v6 + 1) (lv' := [some (.inr (some 74)), none, some (.inl v2), some (.inl v3), some (.inl v4), some (.inl v5), some (.inl (v6 + 1))]) dX12_charges_168 rfl rfl (by decide) rfl ?_
    refine gx_goto (tgt := 131) dX12_charges_171 (by decide) ?_
    refine gx_mk (lv' := [some (.inr (some 74)), none, some (.inl v2), some (.inl v3), some (.inl v4), some (.inl v5), some (.inl (v6 + 1))]) [true, false, true, true, true, true, true] rfl ?_
    exact ih v4 v5 (v6 + 1)
def f_X12_charges_L48 (n : Nat) (v1 : Int32) (v2 : Int32) : Nat → Int32 → Int32 → HMem → Option (Int32 × HMem)
  | 0, _, _, _ => none
  | k + 1, v3, v4, M =>
    if hib v1 8 then
    if (M 78 (Int32.toNatClampNeg v1)) < v4 then
      (f_X12_charges_L131 n v2 v3 M n (-2) 0 2)
    else
      (if hib ((97 * v1) + v4) 776 then
      if hib (M 81 (Int32.toNatClampNeg ((97 * v1) + v4))) 192 then
      hb1 (some (v3 + (M 83 (Int32.toNatClampNeg (M 81 (Int32.toNatClampNeg ((97 * v1) + v4))))))) (fun x101 =>
      if hib (M 81 (Int32.toNatClampNeg ((97 * v1) + v4))) 192 then
      if hib (M 81 (Int32.toNatClampNeg ((97 * v1) + v4))) 192 then
      if hib (M 82 (Int32.toNatClampNeg (M 81 (Int32.toNatClampNeg ((97 * v1) + v4))))) 10 then
      if hib (M 81 (Int32.toNatClampNeg ((97 * v1) + v4))) 192 then
      if hib (M 82 (Int32.toNatClampNeg (M 81 (Int32.toNatClampNeg ((97 * v1) + v4))))) 10 then
      f_X12_charges_L48 n v1 v2 k x101 (v4 + 1) (hset M 105 (Int32.toNatClampNeg (M 82 (Int32.toNatClampNeg (M 81 (Int32.toNatClampNeg ((97 * v1) + v4)))))) ((M 105 (Int32.toNatClampNeg (M 82 (Int32.toNatClampNeg (M 81 (Int32.toNatClampNeg ((97 * v1) + v4))))))) + (M 83 (Int32.toNatClampNeg (M 81 (Int32.toNatClampNeg ((97 * v1) + v4)))))))
      else none
      else none
      else none
      else none
      else none)
      else none
      else none)
    else none
set_option maxRecDepth 20000 in
theorem w_X12_charges_L48 (d : Nat) (hd : 2 ≤ d) (n : Nat) (v1 : Int32) (v2 : Int32) : ∀ (k : Nat) (v3 : Int32) (v4 : Int32) (M : HMem), GX iX12_charges d eI (f_X12_charges_L48 n v1 v2 k v3 v4 M) 48 [some (.inr (some 74)), some (.inl v1), some (.inl v2), some (.inl v3), some (.inl v4), none, none] [] M := by
  intro k
  induction k with
  | zero => intro v3 v4 M; exact gx_none
  | succ k ih =>
    intro v3 v4 M
    rw [f_X12_charges_L48]
    refine gx_iload dX12_charges_48 rfl ?_
    refine gx_aload_n dX12_charges_50 rfl ?_
    refine gx_getR fl_X12_19 sh74 rfl dX12_charges_51 ?_
    refine gx_iload_n dX12_charges_54 rfl ?_
    refine gx_iaload sh78 dX12_charges_55 ?_
    refine gx_icmp_gt (tgt := 121) dX12_charges_56 (by decide) ?_ ?_
    · refine gx_bipush (x := (-2)) (by decide) dX12_charges_121 ?_
      refine gx_istore (lv' := [some (.inr (some 74)), some (.inl v1), some (.inl v2), some (.inl v3), some (.inl (-2)), none, none]) dX12_charges_123 (by decide) rfl ?_
      refine gx_iconst (x := 0) (by decide) dX12_charges_125 ?_
      refine gx_istore (lv' := [some (.inr (some 74)), some (.inl v1), some (.inl v2), some (.inl v3), some (.inl (-2)), some (.inl 0), none]) dX12_charges_126 (by decide) rfl ?_
      refine gx_iconst (x := 2) (by decide) dX12_charges_128 ?_
      refine gx_istore (lv' := [some (.inr (some 74)), some (.inl v1), some (.inl v2), some (.inl v3), some (.inl (-2)), some (.inl 0), some (.inl 2)]) dX12_charges_129 (by decide) rfl ?_
      refine gx_mk (lv' := [some (.inr (some 74)), none, some (.inl v2), some (.inl v3), some (.inl (-2)), some (.inl 0), some (.inl 2)]) [true, false, true, true, true, true, true] rfl ?_
      exact w_X12_charges_L131 d hd n M v2 v3 n (-2) 0 2
    refine gx_aload_n dX12_charges_59 rfl ?_
    refine gx_getR fl_X12_28 sh74 rfl dX12_charges_60 ?_
    refine gx_bipush (x := 97) (by decide) dX12_charges_63 ?_
    refine gx_iload_n dX12_charges_65 rfl ?_
    refine gx_imul dX12_charges_66 ?_
    refine gx_iload dX12_charges_67 rfl ?_
    refine gx_iadd dX12_charges_69 ?_
    refine gx_iaload sh81 dX12_charges_70 ?_
    refine gx_istore (lv' := [some (.inr (some 74)), some (.inl v1), some (.inl v2), some (.inl v3), some (.inl v4), some (.inl (M 81 (Int32.toNatClampNeg ((97 * v1) + v4)))), none]) dX12_charges_71 (by decide) rfl ?_
    refine gx_iload_n dX12_charges_73 rfl ?_
    refine gx_aload_n dX12_charges_74 rfl ?_
    refine gx_getR fl_X12_34 sh74 rfl dX12_charges_75 ?_
    refine gx_iload dX12_charges_78 rfl ?_
    refine gx_iaload sh83 dX12_charges_80 ?_
    refine gx_iadd dX12_charges_81 ?_
    refine gx_ni (fun x101 => ?_)
    refine gx_istore_n (lv' := [some (.inr (some 74)), some (.inl v1), some (.inl v2), some (.inl x101), some (.inl v4), some (.inl (M 81 (Int32.toNatClampNeg ((97 * v1) + v4)))), none]) dX12_charges_82 (by decide) rfl ?_
    refine gx_aload_n dX12_charges_83 rfl ?_
    refine gx_getR fl_X12_101 sh74 rfl dX12_charges_84 ?_
    refine gx_aload_n dX12_charges_87 rfl ?_
    refine gx_getR fl_X12_31 sh74 rfl dX12_charges_88 ?_
    refine gx_iload dX12_charges_91 rfl ?_
    refine gx_iaload sh82 dX12_charges_93 ?_
    refine gx_aload_n dX12_charges_94 rfl ?_
    refine gx_getR fl_X12_101 sh74 rfl dX12_charges_95 ?_
    refine gx_aload_n dX12_charges_98 rfl ?_
    refine gx_getR fl_X12_31 sh74 rfl dX12_charges_99 ?_
    refine gx_iload dX12_charges_102 rfl ?_
    refine gx_iaload sh82 dX12_charges_104 ?_
    refine gx_iaload sh105 dX12_charges_105 ?_
    refine gx_aload_n dX12_charges_106 rfl ?_
    refine gx_getR fl_X12_34 sh74 rfl dX12_charges_107 ?_
    refine gx_iload dX12_charges_110 rfl ?_
    refine gx_iaload sh83 dX12_charges_112 ?_
    refine gx_iadd dX12_charges_113 ?_
    refine gx_iastore sh105 dX12_charges_114 ?_
    refine gx_iinc (y := v4 + 1) (lv' := [some (.inr (some 74)), some (.inl v1), some (.inl v2), some (.inl x101), some (.inl (v4 + 1)), some (.inl (M 81 (Int32.toNatClampNeg ((97 * v1) + v4)))), none]) dX12_charges_115 rfl rfl (by decide) rfl ?_
    refine gx_goto (tgt := 48) dX12_charges_118 (by decide) ?_
    refine gx_mk (lv' := [some (.inr (some 74)), some (.inl v1), some (.inl v2), some (.inl x101), some (.inl (v4 + 1)), none, none]) [true, true, true, true, true, false, false] rfl ?_
    exact ih x101 (v4 + 1) (hset M 105 (Int32.toNatClampNeg (M 82 (Int32.toNatClampNeg (M 81 (Int32.toNatClampNeg ((97 * v1) + v4)))))) ((M 105 (Int32.toNatClampNeg (M 82 (Int32.toNatClampNeg (M 81 (Int32.toNatClampNeg ((97 * v1) + v4))))))) + (M 83 (Int32.toNatClampNeg (M 81 (Int32.toNatClampNeg ((97 * v1) + v4)))))))
def f_X12_charges_L24 (n : Nat) (v1 : Int32) (v2 : Int32) (v3 : Int32) : Nat → Int32 → HMem → Option (Int32 × HMem)
  | 0, _, _ => none
  | k + 1, v4, M =>
    if 10 ≤ v4 then
      (f_X12_charges_L48 n v1 v2 n v3 0 M)
    else
      (if hib v4 10 then
      f_X12_charges_L24 n v1 v2 v3 k (v4 + 1) (hset M 105 (Int32.toNatClampNeg v4) 0)
      else none)
set_option maxRecDepth 20000 in
theorem w_X12_charges_L24 (d : Nat) (hd : 2 ≤ d) (n : Nat) (v1 : Int32) (v2 : Int32) (v3 : Int32) : ∀ (k : Nat) (v4 : Int32) (M : HMem), GX iX12_charges d eI (f_X12_charges_L24 n v1 v2 v3 k v4 M) 24 [some (.inr (some 74)), some (.inl v1), some (.inl v2), some (.inl v3), some (.inl v4), none, none] [] M := by
  intro k
  induction k with
  | zero => intro v4 M; exact gx_none
  | succ k ih =>
    intro v4 M
    rw [f_X12_charges_L24]
    refine gx_iload dX12_charges_24 rfl ?_
    refine gx_bipush (x := 10) (by decide) dX12_charges_26 ?_
    refine gx_icmp_ge (tgt := 45) dX12_charges_28 (by decide) ?_ ?_
    · refine gx_iconst (x := 0) (by decide) dX12_charges_45 ?_
      refine gx_istore (lv' := [some (.inr (some 74)), some (.inl v1), some (.inl v2), some (.inl v3), some (.inl 0), none, none]) dX12_charges_46 (by decide) rfl ?_
      refine gx_mk (lv' := [some (.inr (some 74)), some (.inl v1), some (.inl v2), some (.inl v3), some (.inl 0), none, none]) [true, true, true, true, true, false, false] rfl ?_
      exact w_X12_charges_L48 d hd n v1 v2 n v3 0 M
    refine gx_aload_n dX12_charges_31 rfl ?_
    refine gx_getR fl_X12_101 sh74 rfl dX12_charges_32 ?_
    refine gx_iload dX12_charges_35 rfl ?_
    refine gx_iconst (x := 0) (by decide) dX12_charges_37 ?_
    refine gx_iastore sh105 dX12_charges_38 ?_
    refine gx_iinc (y := v4 + 1) (lv' := [some (.inr (some 74)), some (.inl v1), some (.inl v2), some (.inl v3), some (.inl (v4 + 1)), none, none]) dX12_charges_39 rfl rfl (by decide) rfl ?_
    refine gx_goto (tgt := 24) dX12_charges_42 (by decide) ?_
    refine gx_mk (lv' := [some (.inr (some 74)), some (.inl v1), some (.inl v2), some (.inl v3), some (.inl (v4 + 1)), none, none]) [true, true, true, true, true, false, false] rfl ?_
    exact ih (v4 + 1) (hset M 105 (Int32.toNatClampNeg v4) 0)
def f_X12_charges (n : Nat) (v1 : Int32) (v2 : Int32) (M : HMem) : Option (Int32 × HMem) :=
  hb1 (f_X12_hasLine v1 M) (fun x101 =>
  if x101 = 0 then
    (some ((-1), M))
  else
    (if (f_X12_in v2 0 2) = 0 then
      (some ((-1), M))
    else
      (f_X12_charges_L24 n v1 v2 0 n 0 M)))
set_option maxRecDepth 20000 in
theorem w_X12_charges (d : Nat) (hd : 2 ≤ d) (n : Nat) (v1 : Int32) (v2 : Int32) (M : HMem) : GX iX12_charges d eI (f_X12_charges n v1 v2 M) 0 [some (.inr (some 74)), some (.inl v1), some (.inl v2), none, none, none, none] [] M := by
  rw [f_X12_charges]
  refine gx_aload_n dX12_charges_0 rfl ?_
  refine gx_iload_n dX12_charges_1 rfl ?_
  refine gx_cV_ip (av := [.inl v1]) (st := []) ml_X12_122 (by omega) sh74 (c_X12_hasLine (d - 1) (by omega) v1 M) rfl rfl (Nat.le_of_ble_eq_true rfl) dX12_charges_2 (fun x101 => ?_)
  refine gx_if_eq (tgt := 17) dX12_charges_5 (by decide) ?_ ?_
  · refine gx_iconst (x := (-1)) (by decide) dX12_charges_17 ?_
    exact gx_iret rfl rfl dX12_charges_18
  refine gx_iload_n dX12_charges_8 rfl ?_
  refine gx_iconst (x := 0) (by decide) dX12_charges_9 ?_
  refine gx_iconst (x := 2) (by decide) dX12_charges_10 ?_
  refine gx_cS_it (av := [.inl v2, .inl 0, .inl 2]) (st := []) ml_X12_118 (by omega) (c_X12_in (d - 1) (by omega) v2 0 2 M) rfl rfl (Nat.le_of_ble_eq_true rfl) dX12_charges_11 ?_
  refine gx_if_ne (tgt := 19) dX12_charges_14 (by decide) ?_ ?_
  · refine gx_iconst (x := 0) (by decide) dX12_charges_19 ?_
    refine gx_istore_n (lv' := [some (.inr (some 74)), some (.inl v1), some (.inl v2), some (.inl 0), none, none, none]) dX12_charges_20 (by decide) rfl ?_
    refine gx_iconst (x := 0) (by decide) dX12_charges_21 ?_
    refine gx_istore (lv' := [some (.inr (some 74)), some (.inl v1), some (.inl v2), some (.inl 0), some (.inl 0), none, none]) dX12_charges_22 (by decide) rfl ?_
    refine gx_mk (lv' := [some (.inr (some 74)), some (.inl v1), some (.inl v2), some (.inl 0), some (.inl 0), none, none]) [true, true, true, true, true, false, false] rfl ?_
    exact w_X12_charges_L24 d hd n v1 v2 0 n 0 M
  refine gx_iconst (x := (-1)) (by decide) dX12_charges_17 ?_
  exact gx_iret rfl rfl dX12_charges_18
theorem c_X12_charges (d : Nat) (hd : 2 ≤ d) (n : Nat) (v1 : Int32) (v2 : Int32) (M : HMem) : MX iX12_charges d [.inr (some 74), .inl v1, .inl v2] M eI (f_X12_charges n v1 v2 M) := mx_of (by decide +kernel) (Nat.le_of_ble_eq_true rfl) rfl (w_X12_charges d hd n v1 v2 M)
-- X12_walksFrom
def f_X12_walksFrom_L48 (n : Nat) (r40 : Int32 → Int32 → HMem → Option HMem) (v3 : Int32) : Nat → Int32 → Int32 → HMem → Option HMem
  | 0, _, _, _ => none
  | k + 1, v2, v4, M =>
    if 4 ≤ v4 then
      (r40 v2 (v3 + 1) M)
    else
      (if hib v3 192 then
      if hib (f_X12_beside (M 107 (Int32.toNatClampNeg v3)) v4) 192 then
      if (M 108 (Int32.toNatClampNeg (f_X12_beside (M 107 (Int32.toNatClampNeg v3)) v4))) = 0 then
        (if hib (f_X12_beside (M 107 (Int32.toNatClampNeg v3)) v4) 192 then
        if (M 106 (Int32.toNatClampNeg (f_X12_beside (M 107 (Int32.toNatClampNeg v3)) v4))) = (-1) then
          (if hib v3 192 then
          if hib (M 107 (Int32.toNatClampNeg v3)) 192 then
          if hib (f_X12_beside (M 107 (Int32.toNatClampNeg v3)) v4) 192 then
          if hib v2 192 then
          f_X12_walksFrom_L48 n r40 v3 k (v2 + 1) (v4 + 1) (hset (hset M 106 (Int32.toNatClampNeg (f_X12_beside (M 107 (Int32.toNatClampNeg v3)) v4)) ((M 106 (Int32.toNatClampNeg (M 107 (Int32.toNatClampNeg v3)))) + 1)) 107 (Int32.toNatClampNeg v2) (f_X12_beside (M 107 (Int32.toNatClampNeg v3)) v4))
          else none
          else none
          else none
          else none)
        else
          (f_X12_walksFrom_L48 n r40 v3 k v2 (v4 + 1) M)
        else none)
      else
        (f_X12_walksFrom_L48 n r40 v3 k v2 (v4 + 1) M)
      else none
      else none)
set_option maxRecDepth 20000 in
theorem w_X12_walksFrom_L48 (d : Nat) (hd : 3 ≤ d) (n : Nat) (r40 : Int32 → Int32 → HMem → Option HMem) (v3 : Int32) (hr40 : ∀ (v2 : Int32) (v3 : Int32) (M : HMem), GX iX12_walksFrom d eV (r40 v2 v3 M) 40 [some (.inr (some 74)), none, some (.inl v2), some (.inl v3), none, none] [] M) : ∀ (k : Nat) (v2 : Int32) (v4 : Int32) (M : HMem), GX iX12_walksFrom d eV (f_X12_walksFrom_L48 n r40 v3 k v2 v4 M) 48 [some (.inr (some 74)), none, some (.inl v2), some (.inl v3), some (.inl v4), none] [] M := by
  intro k
  induction k with
  | zero => intro v2 v4 M; exact gx_none
  | succ k ih =>
    intro v2 v4 M
    rw [f_X12_walksFrom_L48]
    refine gx_iload dX12_walksFrom_48 rfl ?_
    refine gx_iconst (x := 4) (by decide) dX12_walksFrom_50 ?_
    refine gx_icmp_ge (tgt := 129) dX12_walksFrom_51 (by decide) ?_ ?_
    · refine gx_iinc (y := v3 + 1) (lv' := [some (.inr (some 74)), none, some (.inl v2), some (.inl (v3 + 1)), some (.inl v4), none]) dX12_walksFrom_129 rfl rfl (by decide) rfl ?_
      refine gx_goto (tgt := 40) dX12_walksFrom_132 (by decide) ?_
      refine gx_mk (lv' := [some (.inr (some 74)), none, some (.inl v2), some (.inl (v3 + 1)), none, none]) [true, false, true, true, false, false] rfl ?_
      exact hr40 v2 (v3 + 1) M
    refine gx_aload_n dX12_walksFrom_54 rfl ?_
    refine gx_getR fl_X12_107 sh74 rfl dX12_walksFrom_55 ?_
    refine gx_iload_n dX12_walksFrom_58 rfl ?_
    refine gx_iaload sh107 dX12_walksFrom_59 ?_
    refine gx_iload dX12_walksFrom_60 rfl ?_
    refine gx_cS_it (av := [.inl (M 107 (Int32.toNatClampNeg v3)), .inl v4]) (st := []) ml_X12_265 (by omega) (c_X12_beside (d - 1) (by omega) (M 107 (Int32.toNatClampNeg v3)) v4 M) rfl rfl (Nat.le_of_ble_eq_true rfl) dX12_walksFrom_62 ?_
    refine gx_istore (lv' := [some (.inr (some 74)), none, some (.inl v2), some (.inl v3), some (.inl v4), some (.inl (f_X12_beside (M 107 (Int32.toNatClampNeg v3)) v4))]) dX12_walksFrom_65 (by decide) rfl ?_
    refine gx_aload_n dX12_walksFrom_67 rfl ?_
    refine gx_getR fl_X12_110 sh74 rfl dX12_walksFrom_68 ?_
    refine gx_iload dX12_walksFrom_71 rfl ?_
    refine gx_zaload sh108 dX12_walksFrom_73 ?_
    refine gx_if_ne (tgt := 123) dX12_walksFrom_74 (by decide) ?_ ?_
    · refine gx_iinc (y := v4 + 1) (lv' := [some (.inr (some 74)), none, some (.inl v2), some (.inl v3), some (.inl (v4 + 1)), some (.inl (f_X12_beside (M 107 (Int32.toNatClampNeg v3)) v4))]) dX12_walksFrom_123 rfl rfl (by decide) rfl ?_
      refine gx_goto (tgt := 48) dX12_walksFrom_126 (by decide) ?_
      refine gx_mk (lv' := [some (.inr (some 74)), none, some (.inl v2), some (.inl v3), some (.inl (v4 + 1)), none]) [true, false, true, true, true, false] rfl ?_
      exact ih v2 (v4 + 1) M
    refine gx_aload_n dX12_walksFrom_77 rfl ?_
    refine gx_getR fl_X12_104 sh74 rfl dX12_walksFrom_78 ?_
    refine gx_iload dX12_walksFrom_81 rfl ?_
    refine gx_iaload sh106 dX12_walksFrom_83 ?_
    refine gx_iconst (x := (-1)) (by decide) dX12_walksFrom_84 ?_
    refine gx_icmp_eq (tgt := 91) dX12_walksFrom_85 (by decide) ?_ ?_
    · refine gx_aload_n dX12_walksFrom_91 rfl ?_
      refine gx_getR fl_X12_104 sh74 rfl dX12_walksFrom_92 ?_
      refine gx_iload dX12_walksFrom_95 rfl ?_
      refine gx_aload_n dX12_walksFrom_97 rfl ?_
      refine gx_getR fl_X12_104 sh74 rfl dX12_walksFrom_98 ?_
      refine gx_aload_n dX12_walksFrom_101 rfl ?_
      refine gx_getR fl_X12_107 sh74 rfl dX12_walksFrom_102 ?_
      refine gx_iload_n dX12_walksFrom_105 rfl ?_
      refine gx_iaload sh107 dX12_walksFrom_106 ?_
      refine gx_iaload sh106 dX12_walksFrom_107 ?_
      refine gx_iconst (x := 1) (by decide) dX12_walksFrom_108 ?_
      refine gx_iadd dX12_walksFrom_109 ?_
      refine gx_iastore sh106 dX12_walksFrom_110 ?_
      refine gx_aload_n dX12_walksFrom_111 rfl ?_
      refine gx_getR fl_X12_107 sh74 rfl dX12_walksFrom_112 ?_
      refine gx_iload_n dX12_walksFrom_115 rfl ?_
      refine gx_iload dX12_walksFrom_116 rfl ?_
      refine gx_iastore sh107 dX12_walksFrom_118 ?_
      refine gx_iload_n dX12_walksFrom_119 rfl ?_
      refine gx_iconst (x := 1) (by decide) dX12_walksFrom_120 ?_
      refine gx_iadd dX12_walksFrom_121 ?_
      refine gx_istore_n (lv' := [some (.inr (some 74)), none, some (.inl (v2 + 1)), some (.inl v3), some (.inl v4), some (.inl (f_X12_beside (M 107 (Int32.toNatClampNeg v3)) v4))]) dX12_walksFrom_122 (by decide) rfl ?_
      refine gx_iinc (y := v4 + 1) (lv' := [some (.inr (some 74)), none, some (.inl (v2 + 1)), some (.inl v3), some (.inl (v4 + 1)), some (.inl (f_X12_beside (M 107 (Int32.toNatClampNeg v3)) v4))]) dX12_walksFrom_123 rfl rfl (by decide) rfl ?_
      refine gx_goto (tgt := 48) dX12_walksFrom_126 (by decide) ?_
      refine gx_mk (lv' := [some (.inr (some 74)), none, some (.inl (v2 + 1)), some (.inl v3), some (.inl (v4 + 1)), none]) [true, false, true, true, true, false] rfl ?_
      exact ih (v2 + 1) (v4 + 1) (hset (hset M 106 (Int32.toNatClampNeg (f_X12_beside (M 107 (Int32.toNatClampNeg v3)) v4)) ((M 106 (Int32.toNatClampNeg (M 107 (Int32.toNatClampNeg v3)))) + 1)) 107 (Int32.toNatClampNeg v2) (f_X12_beside (M 107 (Int32.toNatClampNeg v3)) v4))
    refine gx_goto (tgt := 123) dX12_walksFrom_88 (by decide) ?_
    refine gx_iinc (y := v4 + 1) (lv' := [some (.inr (some 74)), none, some (.inl v2), some (.inl v3), some (.inl (v4 + 1)), some (.inl (f_X12_beside (M 107 (Int32.toNatClampNeg v3)) v4))]) dX12_walksFrom_123 rfl rfl (by decide) rfl ?_
    refine gx_goto (tgt := 48) dX12_walksFrom_126 (by decide) ?_
    refine gx_mk (lv' := [some (.inr (some 74)), none, some (.inl v2), some (.inl v3), some (.inl (v4 + 1)), none]) [true, false, true, true, true, false] rfl ?_
    exact ih v2 (v4 + 1) M
def f_X12_walksFrom_L40 (n : Nat)  : Nat → Int32 → Int32 → HMem → Option HMem
  | 0, _, _, _ => none
  | k + 1, v2, v3, M =>
    if v2 ≤ v3 then
      (some M)
    else
      (f_X12_walksFrom_L48 n (f_X12_walksFrom_L40 n k) v3 n v2 0 M)
set_option maxRecDepth 20000 in
theorem w_X12_walksFrom_L40 (d : Nat) (hd : 3 ≤ d) (n : Nat)  : ∀ (k : Nat) (v2 : Int32) (v3 : Int32) (M : HMem), GX iX12_walksFrom d eV (f_X12_walksFrom_L40 n k v2 v3 M) 40 [some (.inr (some 74)), none, some (.inl v2), some (.inl v3), none, none] [] M := by
  intro k
  induction k with
  | zero => intro v2 v3 M; exact gx_none
  | succ k ih =>
    intro v2 v3 M
    rw [f_X12_walksFrom_L40]
    refine gx_iload_n dX12_walksFrom_40 rfl ?_
    refine gx_iload_n dX12_walksFrom_41 rfl ?_
    refine gx_icmp_ge (tgt := 135) dX12_walksFrom_42 (by decide) ?_ ?_
    · exact gx_vret rfl rfl dX12_walksFrom_135
    refine gx_iconst (x := 0) (by decide) dX12_walksFrom_45 ?_
    refine gx_istore (lv' := [some (.inr (some 74)), none, some (.inl v2), some (.inl v3), some (.inl 0), none]) dX12_walksFrom_46 (by decide) rfl ?_
    refine gx_mk (lv' := [some (.inr (some 74)), none, some (.inl v2), some (.inl v3), some (.inl 0), none]) [true, false, true, true, true, false] rfl ?_
    exact w_X12_walksFrom_L48 d hd n (f_X12_walksFrom_L40 n k) v3 ih n v2 0 M
def f_X12_walksFrom_L2 (n : Nat) (v1 : Int32) : Nat → Int32 → HMem → Option HMem
  | 0, _, _ => none
  | k + 1, v2, M =>
    if 192 ≤ v2 then
      (if hib v1 192 then
      f_X12_walksFrom_L40 n n 1 0 (hset (hset M 106 (Int32.toNatClampNeg v1) 0) 107 0 v1)
      else none)
    else
      (if hib v2 192 then
      f_X12_walksFrom_L2 n v1 k (v2 + 1) (hset M 106 (Int32.toNatClampNeg v2) (-1))
      else none)
set_option maxRecDepth 20000 in
theorem w_X12_walksFrom_L2 (d : Nat) (hd : 3 ≤ d) (n : Nat) (v1 : Int32) : ∀ (k : Nat) (v2 : Int32) (M : HMem), GX iX12_walksFrom d eV (f_X12_walksFrom_L2 n v1 k v2 M) 2 [some (.inr (some 74)), some (.inl v1), some (.inl v2), none, none, none] [] M := by
  intro k
  induction k with
  | zero => intro v2 M; exact gx_none
  | succ k ih =>
    intro v2 M
    rw [f_X12_walksFrom_L2]
    refine gx_iload_n dX12_walksFrom_2 rfl ?_
    refine gx_sipush (x := 192) (by decide) dX12_walksFrom_3 ?_
    refine gx_icmp_ge (tgt := 22) dX12_walksFrom_6 (by decide) ?_ ?_
    · refine gx_aload_n dX12_walksFrom_22 rfl ?_
      refine gx_getR fl_X12_104 sh74 rfl dX12_walksFrom_23 ?_
      refine gx_iload_n dX12_walksFrom_26 rfl ?_
      refine gx_iconst (x := 0) (by decide) dX12_walksFrom_27 ?_
      refine gx_iastore sh106 dX12_walksFrom_28 ?_
      refine gx_aload_n dX12_walksFrom_29 rfl ?_
      refine gx_getR fl_X12_107 sh74 rfl dX12_walksFrom_30 ?_
      refine gx_iconst (x := 0) (by decide) dX12_walksFrom_33 ?_
      refine gx_iload_n dX12_walksFrom_34 rfl ?_
      refine gx_iastoreL (j := 0) sh107 (by decide) (by decide) dX12_walksFrom_35 ?_
      refine gx_iconst (x := 1) (by decide) dX12_walksFrom_36 ?_
      refine gx_istore_n (lv' := [some (.inr (some 74)), some (.inl v1), some (.inl 1), none, none, none]) dX12_walksFrom_37 (by decide) rfl ?_
      refine gx_iconst (x := 0) (by decide) dX12_walksFrom_38 ?_
      refine gx_istore_n (lv' := [some (.inr (some 74)), some (.inl v1), some (.inl 1), some (.inl 0), none, none]) dX12_walksFrom_39 (by decide) rfl ?_
      refine gx_mk (lv' := [some (.inr (some 74)), none, some (.inl 1), some (.inl 0), none, none]) [true, false, true, true, false, false] rfl ?_
      exact w_X12_walksFrom_L40 d hd n  n 1 0 (hset (hset M 106 (Int32.toNatClampNeg v1) 0) 107 0 v1)
    refine gx_aload_n dX12_walksFrom_9 rfl ?_
    refine gx_getR fl_X12_104 sh74 rfl dX12_walksFrom_10 ?_
    refine gx_iload_n dX12_walksFrom_13 rfl ?_
    refine gx_iconst (x := (-1)) (by decide) dX12_walksFrom_14 ?_
    refine gx_iastore sh106 dX12_walksFrom_15 ?_
    refine gx_iinc (y := v2 + 1) (lv' := [some (.inr (some 74)), some (.inl v1), some (.inl (v2 + 1)), none, none, none]) dX12_walksFrom_16 rfl rfl (by decide) rfl ?_
    refine gx_goto (tgt := 2) dX12_walksFrom_19 (by decide) ?_
    refine gx_mk (lv' := [some (.inr (some 74)), some (.inl v1), some (.inl (v2 + 1)), none, none, none]) [true, true, true, false, false, false] rfl ?_
    exact ih (v2 + 1) (hset M 106 (Int32.toNatClampNeg v2) (-1))
def f_X12_walksFrom (n : Nat) (v1 : Int32) (M : HMem) : Option HMem :=
  f_X12_walksFrom_L2 n v1 n 0 M
set_option maxRecDepth 20000 in
theorem w_X12_walksFrom (d : Nat) (hd : 3 ≤ d) (n : Nat) (v1 : Int32) (M : HMem) : GX iX12_walksFrom d eV (f_X12_walksFrom n v1 M) 0 [some (.inr (some 74)), some (.inl v1), none, none, none, none] [] M := by
  rw [f_X12_walksFrom]
  refine gx_iconst (x := 0) (by decide) dX12_walksFrom_0 ?_
  refine gx_istore_n (lv' := [some (.inr (some 74)), some (.inl v1), some (.inl 0), none, none, none]) dX12_walksFrom_1 (by decide) rfl ?_
  refine gx_mk (lv' := [some (.inr (some 74)), some (.inl v1), some (.inl 0), none, none, none]) [true, true, true, false, false, false] rfl ?_
  exact w_X12_walksFrom_L2 d hd n v1 n 0 M
theorem c_X12_walksFrom (d : Nat) (hd : 3 ≤ d) (n : Nat) (v1 : Int32) (M : HMem) : MX iX12_walksFrom d [.inr (some 74), .inl v1] M eV (f_X12_walksFrom n v1 M) := mx_of (by decide +kernel) (Nat.le_of_ble_eq_true rfl) rfl (w_X12_walksFrom d hd n v1 M)
-- X12_round
def f_X12_round_L26 (n : Nat) (v1 : Int32) (v2 : Int32) : Nat → Int32 → HMem → Option (Int32 × HMem)
  | 0, _, _ => none
  | k + 1, v3, M =>
    if 192 ≤ v3 then
      (if hib v1 192 then
      if (M 108 (Int32.toNatClampNeg v1)) = 0 then
        (if hib v2 192 then
        if (M 108 (Int32.toNatClampNeg v2)) = 0 then
          (hb1 (f_X12_walksFrom n v1 M) (fun M101 =>
          if hib v2 192 then
          if (M101 106 (Int32.toNatClampNeg v2)) = (-1) then
            (some ((-2), M101))
          else
            (if hib v2 192 then
            some (M101 106 (Int32.toNatClampNeg v2), M101)
            else none)
          else none))
        else
          (some ((-2), M))
        else none)
      else
        (some ((-2), M))
      else none)
    else
      (if hib v3 192 then
      if (M 82 (Int32.toNatClampNeg v3)) = 1 then
        (if hib v3 192 then
        f_X12_round_L26 n v1 v2 k (v3 + 1) (hset M 108 (Int32.toNatClampNeg v3) (1 &&& 1))
        else none)
      else
        (if hib v3 192 then
        f_X12_round_L26 n v1 v2 k (v3 + 1) (hset M 108 (Int32.toNatClampNeg v3) (0 &&& 1))
        else none)
      else none)
set_option maxRecDepth 20000 in
theorem w_X12_round_L26 (d : Nat) (hd : 4 ≤ d) (n : Nat) (v1 : Int32) (v2 : Int32) : ∀ (k : Nat) (v3 : Int32) (M : HMem), GX iX12_round d eI (f_X12_round_L26 n v1 v2 k v3 M) 26 [some (.inr (some 74)), some (.inl v1), some (.inl v2), some (.inl v3)] [] M := by
  intro k
  induction k with
  | zero => intro v3 M; exact gx_none
  | succ k ih =>
    intro v3 M
    rw [f_X12_round_L26]
    refine gx_iload_n dX12_round_26 rfl ?_
    refine gx_sipush (x := 192) (by decide) dX12_round_27 ?_
    refine gx_icmp_ge (tgt := 60) dX12_round_30 (by decide) ?_ ?_
    · refine gx_aload_n dX12_round_60 rfl ?_
      refine gx_getR fl_X12_110 sh74 rfl dX12_round_61 ?_
      refine gx_iload_n dX12_round_64 rfl ?_
      refine gx_zaload sh108 dX12_round_65 ?_
      refine gx_if_ne (tgt := 78) dX12_round_66 (by decide) ?_ ?_
      · refine gx_bipush (x := (-2)) (by decide) dX12_round_78 ?_
        exact gx_iret rfl rfl dX12_round_80
      refine gx_aload_n dX12_round_69 rfl ?_
      refine gx_getR fl_X12_110 sh74 rfl dX12_round_70 ?_
      refine gx_iload_n dX12_round_73 rfl ?_
      refine gx_zaload sh108 dX12_round_74 ?_
      refine gx_if_eq (tgt := 81) dX12_round_75 (by decide) ?_ ?_
      · refine gx_aload_n dX12_round_81 rfl ?_
        refine gx_iload_n dX12_round_82 rfl ?_
        refine gx_cV_vm (av := [.inl v1]) (st := []) ml_X12_380 (by omega) sh74 (c_X12_walksFrom (d - 1) (by omega) n v1 M) rfl rfl (Nat.le_of_ble_eq_true rfl) dX12_round_83 (fun M101 => ?_)
        refine gx_aload_n dX12_round_86 rfl ?_
        refine gx_getR fl_X12_104 sh74 rfl dX12_round_87 ?_
        refine gx_iload_n dX12_round_90 rfl ?_
        refine gx_iaload sh106 dX12_round_91 ?_
        refine gx_iconst (x := (-1)) (by decide) dX12_round_92 ?_
        refine gx_icmp_ne (tgt := 101) dX12_round_93 (by decide) ?_ ?_
        · refine gx_aload_n dX12_round_101 rfl ?_
          refine gx_getR fl_X12_104 sh74 rfl dX12_round_102 ?_
          refine gx_iload_n dX12_round_105 rfl ?_
          refine gx_iaload sh106 dX12_round_106 ?_
          exact gx_iret rfl rfl dX12_round_107
        refine gx_bipush (x := (-2)) (by decide) dX12_round_96 ?_
        refine gx_goto (tgt := 107) dX12_round_98 (by decide) ?_
        exact gx_iret rfl rfl dX12_round_107
      refine gx_bipush (x := (-2)) (by decide) dX12_round_78 ?_
      exact gx_iret rfl rfl dX12_round_80
    refine gx_aload_n dX12_round_33 rfl ?_
    refine gx_getR fl_X12_110 sh74 rfl dX12_round_34 ?_
    refine gx_iload_n dX12_round_37 rfl ?_
    refine gx_aload_n dX12_round_38 rfl ?_
    refine gx_getR fl_X12_31 sh74 rfl dX12_round_39 ?_
    refine gx_iload_n dX12_round_42 rfl ?_
    refine gx_iaload sh82 dX12_round_43 ?_
    refine gx_iconst (x := 1) (by decide) dX12_round_44 ?_
    refine gx_icmp_ne (tgt := 52) dX12_round_45 (by decide) ?_ ?_
    · refine gx_iconst (x := 0) (by decide) dX12_round_52 ?_
      refine gx_zastore sh108 dX12_round_53 ?_
      refine gx_iinc (y := v3 + 1) (lv' := [some (.inr (some 74)), some (.inl v1), some (.inl v2), some (.inl (v3 + 1))]) dX12_round_54 rfl rfl (by decide) rfl ?_
      refine gx_goto (tgt := 26) dX12_round_57 (by decide) ?_
      refine gx_mk (lv' := [some (.inr (some 74)), some (.inl v1), some (.inl v2), some (.inl (v3 + 1))]) [true, true, true, true] rfl ?_
      exact ih (v3 + 1) (hset M 108 (Int32.toNatClampNeg v3) (0 &&& 1))
    refine gx_iconst (x := 1) (by decide) dX12_round_48 ?_
    refine gx_goto (tgt := 53) dX12_round_49 (by decide) ?_
    refine gx_zastore sh108 dX12_round_53 ?_
    refine gx_iinc (y := v3 + 1) (lv' := [some (.inr (some 74)), some (.inl v1), some (.inl v2), some (.inl (v3 + 1))]) dX12_round_54 rfl rfl (by decide) rfl ?_
    refine gx_goto (tgt := 26) dX12_round_57 (by decide) ?_
    refine gx_mk (lv' := [some (.inr (some 74)), some (.inl v1), some (.inl v2), some (.inl (v3 + 1))]) [true, true, true, true] rfl ?_
    exact ih (v3 + 1) (hset M 108 (Int32.toNatClampNeg v3) (1 &&& 1))
def f_X12_round (n : Nat) (v1 : Int32) (v2 : Int32) (M : HMem) : Option (Int32 × HMem) :=
  if (f_X12_in v1 0 191) = 0 then
    (some ((-1), M))
  else
    (if (f_X12_in v2 0 191) = 0 then
      (some ((-1), M))
    else
      (f_X12_round_L26 n v1 v2 n 0 M))
set_option maxRecDepth 20000 in
theorem w_X12_round (d : Nat) (hd : 4 ≤ d) (n : Nat) (v1 : Int32) (v2 : Int32) (M : HMem) : GX iX12_round d eI (f_X12_round n v1 v2 M) 0 [some (.inr (some 74)), some (.inl v1), some (.inl v2), none] [] M := by
  rw [f_X12_round]
  refine gx_iload_n dX12_round_0 rfl ?_
  refine gx_iconst (x := 0) (by decide) dX12_round_1 ?_
  refine gx_sipush (x := 191) (by decide) dX12_round_2 ?_
  refine gx_cS_it (av := [.inl v1, .inl 0, .inl 191]) (st := []) ml_X12_118 (by omega) (c_X12_in (d - 1) (by omega) v1 0 191 M) rfl rfl (Nat.le_of_ble_eq_true rfl) dX12_round_5 ?_
  refine gx_if_eq (tgt := 22) dX12_round_8 (by decide) ?_ ?_
  · refine gx_iconst (x := (-1)) (by decide) dX12_round_22 ?_
    exact gx_iret rfl rfl dX12_round_23
  refine gx_iload_n dX12_round_11 rfl ?_
  refine gx_iconst (x := 0) (by decide) dX12_round_12 ?_
  refine gx_sipush (x := 191) (by decide) dX12_round_13 ?_
  refine gx_cS_it (av := [.inl v2, .inl 0, .inl 191]) (st := []) ml_X12_118 (by omega) (c_X12_in (d - 1) (by omega) v2 0 191 M) rfl rfl (Nat.le_of_ble_eq_true rfl) dX12_round_16 ?_
  refine gx_if_ne (tgt := 24) dX12_round_19 (by decide) ?_ ?_
  · refine gx_iconst (x := 0) (by decide) dX12_round_24 ?_
    refine gx_istore_n (lv' := [some (.inr (some 74)), some (.inl v1), some (.inl v2), some (.inl 0)]) dX12_round_25 (by decide) rfl ?_
    refine gx_mk (lv' := [some (.inr (some 74)), some (.inl v1), some (.inl v2), some (.inl 0)]) [true, true, true, true] rfl ?_
    exact w_X12_round_L26 d hd n v1 v2 n 0 M
  refine gx_iconst (x := (-1)) (by decide) dX12_round_22 ?_
  exact gx_iret rfl rfl dX12_round_23
theorem c_X12_round (d : Nat) (hd : 4 ≤ d) (n : Nat) (v1 : Int32) (v2 : Int32) (M : HMem) : MX iX12_round d [.inr (some 74), .inl v1, .inl v2] M eI (f_X12_round n v1 v2 M) := mx_of (by decide +kernel) (Nat.le_of_ble_eq_true rfl) rfl (w_X12_round d hd n v1 v2 M)
-- X12_cast
def f_X12_cast_L24 (n : Nat) (r15 : Int32 → Int32 → Option Int32) (v1 : Int32) (v3 : Int32) (M : HMem) : Nat → Int32 → Int32 → Option Int32
  | 0, _, _ => none
  | k + 1, v2, v4 =>
    if hib v3 8 then
    if (M 78 (Int32.toNatClampNeg v3)) < v4 then
      (r15 v2 (v3 + 1))
    else
      (hb1 (f_X12_hasLine v3 M) (fun x101 =>
      if x101 = 0 then
        (r15 v2 (v3 + 1))
      else
        (hb1 (f_X12_strengthOf v3 v4 M) (fun x102 =>
        if x102 = 0 then
          (f_X12_cast_L24 n r15 v1 v3 M k v2 (v4 + 1))
        else
          (if hib v3 8 then
          if hib (12 + v1) 32 then
          if ((M 79 (Int32.toNatClampNeg v3)) + v4) < (M 75 (Int32.toNatClampNeg (12 + v1))) then
            (if hib ((97 * v3) + v4) 776 then
            if hib (6 + v1) 32 then
            if hib (6 + v1) 32 then
            hb1 (some (f_X12_max (f_X12_size (((M 81 (Int32.toNatClampNeg ((97 * v3) + v4))) - (M 81 (Int32.toNatClampNeg ((97 * v3) + v4))) / 16 * 16) - ((M 75 (Int32.toNatClampNeg (6 + v1))) - (M 75 (Int32.toNatClampNeg (6 + v1))) / 16 * 16))) (f_X12_size (((M 81 (Int32.toNatClampNeg ((97 * v3) + v4))) / 16) - ((M 75 (Int32.toNatClampNeg (6 + v1))) / 16))))) (fun x103 =>
            if v2 = (-2) then
              (f_X12_cast_L24 n r15 v1 v3 M k x103 (v4 + 1))
            else
              (if v2 ≤ x103 then
                (f_X12_cast_L24 n r15 v1 v3 M k v2 (v4 + 1))
              else
                (f_X12_cast_L24 n r15 v1 v3 M k x103 (v4 + 1))))
            else none
            else none
            else none)
          else
            (f_X12_cast_L24 n r15 v1 v3 M k v2 (v4 + 1))
          else none
          else none)))))
    else none
set_option maxRecDepth 20000 in
theorem w_X12_cast_L24 (d : Nat) (hd : 2 ≤ d) (n : Nat) (r15 : Int32 → Int32 → Option Int32) (M : HMem) (v1 : Int32) (v3 : Int32) (hr15 : ∀ (v2 : Int32) (v3 : Int32), GX iX12_cast d (eP M) (r15 v2 v3) 15 [some (.inr (some 74)), some (.inl v1), some (.inl v2), some (.inl v3), none, none, none] [] M) : ∀ (k : Nat) (v2 : Int32) (v4 : Int32), GX iX12_cast d (eP M) (f_X12_cast_L24 n r15 v1 v3 M k v2 v4) 24 [some (.inr (some 74)), some (.inl v1), some (.inl v2), some (.inl v3), some (.inl v4), none, none] [] M := by
  intro k
  induction k with
  | zero => intro v2 v4; exact gx_none
  | succ k ih =>
    intro v2 v4
    rw [f_X12_cast_L24]
    refine gx_iload dX12_cast_24 rfl ?_
    refine gx_aload_n dX12_cast_26 rfl ?_
    refine gx_getR fl_X12_19 sh74 rfl dX12_cast_27 ?_
    refine gx_iload_n dX12_cast_30 rfl ?_
    refine gx_iaload sh78 dX12_cast_31 ?_
    refine gx_icmp_gt (tgt := 159) dX12_cast_32 (by decide) ?_ ?_
    · refine gx_iinc (y := v3 + 1) (lv' := [some (.inr (some 74)), some (.inl v1), some (.inl v2), some (.inl (v3 + 1)), some (.inl v4), none, none]) dX12_cast_159 rfl rfl (by decide) rfl ?_
      refine gx_goto (tgt := 15) dX12_cast_162 (by decide) ?_
      refine gx_mk (lv' := [some (.inr (some 74)), some (.inl v1), some (.inl v2), some (.inl (v3 + 1)), none, none, none]) [true, true, true, true, false, false, false] rfl ?_
      exact hr15 v2 (v3 + 1)
    refine gx_aload_n dX12_cast_35 rfl ?_
    refine gx_iload_n dX12_cast_36 rfl ?_
    refine gx_cV_ip (av := [.inl v3]) (st := []) ml_X12_122 (by omega) sh74 (c_X12_hasLine (d - 1) (by omega) v3 M) rfl rfl (Nat.le_of_ble_eq_true rfl) dX12_cast_37 (fun x101 => ?_)
    refine gx_if_eq (tgt := 159) dX12_cast_40 (by decide) ?_ ?_
    · refine gx_iinc (y := v3 + 1) (lv' := [some (.inr (some 74)), some (.inl v1), some (.inl v2), some (.inl (v3 + 1)), some (.inl v4), none, none]) dX12_cast_159 rfl rfl (by decide) rfl ?_
      refine gx_goto (tgt := 15) dX12_cast_162 (by decide) ?_
      refine gx_mk (lv' := [some (.inr (some 74)), some (.inl v1), some (.inl v2), some (.inl (v3 + 1)), none, none, none]) [true, true, true, true, false, false, false] rfl ?_
      exact hr15 v2 (v3 + 1)
    refine gx_aload_n dX12_cast_43 rfl ?_
    refine gx_iload_n dX12_cast_44 rfl ?_
    refine gx_iload dX12_cast_45 rfl ?_
    refine gx_cV_ip (av := [.inl v3, .inl v4]) (st := []) ml_X12_295 (by omega) sh74 (c_X12_strengthOf (d - 1) (by omega) v3 v4 M) rfl rfl (Nat.le_of_ble_eq_true rfl) dX12_cast_47 (fun x102 => ?_)
    refine gx_if_eq (tgt := 153) dX12_cast_50 (by decide) ?_ ?_
    · refine gx_iinc (y := v4 + 1) (lv' := [some (.inr (some 74)), some (.inl v1), some (.inl v2), some (.inl v3), some (.inl (v4 + 1)), none, none]) dX12_cast_153 rfl rfl (by decide) rfl ?_
      refine gx_goto (tgt := 24) dX12_cast_156 (by decide) ?_
      refine gx_mk (lv' := [some (.inr (some 74)), some (.inl v1), some (.inl v2), some (.inl v3), some (.inl (v4 + 1)), none, none]) [true, true, true, true, true, false, false] rfl ?_
      exact ih v2 (v4 + 1)
    refine gx_aload_n dX12_cast_53 rfl ?_
    refine gx_getR fl_X12_22 sh74 rfl dX12_cast_54 ?_
    refine gx_iload_n dX12_cast_57 rfl ?_
    refine gx_iaload sh79 dX12_cast_58 ?_
    refine gx_iload dX12_cast_59 rfl ?_
    refine gx_iadd dX12_cast_61 ?_
    refine gx_aload_n dX12_cast_62 rfl ?_
    refine gx_getR fl_X12_7 sh74 rfl dX12_cast_63 ?_
    refine gx_bipush (x := 12) (by decide) dX12_cast_66 ?_
    refine gx_iload_n dX12_cast_68 rfl ?_
    refine gx_iadd dX12_cast_69 ?_
    refine gx_iaload sh75 dX12_cast_70 ?_
    refine gx_icmp_lt (tgt := 77) dX12_cast_71 (by decide) ?_ ?_
    · refine gx_aload_n dX12_cast_77 rfl ?_
      refine gx_getR fl_X12_28 sh74 rfl dX12_cast_78 ?_
      refine gx_bipush (x := 97) (by decide) dX12_cast_81 ?_
      refine gx_iload_n dX12_cast_83 rfl ?_
      refine gx_imul dX12_cast_84 ?_
      refine gx_iload dX12_cast_85 rfl ?_
      refine gx_iadd dX12_cast_87 ?_
      refine gx_iaload sh81 dX12_cast_88 ?_
      refine gx_istore (lv' := [some (.inr (some 74)), some (.inl v1), some (.inl v2), some (.inl v3), some (.inl v4), some (.inl (M 81 (Int32.toNatClampNeg ((97 * v3) + v4)))), none]) dX12_cast_89 (by decide) rfl ?_
      refine gx_iload dX12_cast_91 rfl ?_
      refine gx_bipush (x := 16) (by decide) dX12_cast_93 ?_
      refine gx_iremL (by decide) dX12_cast_95 ?_
      refine gx_aload_n dX12_cast_96 rfl ?_
      refine gx_getR fl_X12_7 sh74 rfl dX12_cast_97 ?_
      refine gx_bipush (x := 6) (by decide) dX12_cast_100 ?_
      refine gx_iload_n dX12_cast_102 rfl ?_
      refine gx_iadd dX12_cast_103 ?_
      refine gx_iaload sh75 dX12_cast_104 ?_
      refine gx_bipush (x := 16) (by decide) dX12_cast_105 ?_
      refine gx_iremL (by decide) dX12_cast_107 ?_
      refine gx_isub dX12_cast_108 ?_
      refine gx_cS_it (av := [.inl (((M 81 (Int32.toNatClampNeg ((97 * v3) + v4))) - (M 81 (Int32.toNatClampNeg ((97 * v3) + v4))) / 16 * 16) - ((M 75 (Int32.toNatClampNeg (6 + v1))) - (M 75 (Int32.toNatClampNeg (6 + v1))) / 16 * 16))]) (st := []) ml_X12_359 (by omega) (c_X12_size (d - 1) (by omega) (((M 81 (Int32.toNatClampNeg ((97 * v3) + v4))) - (M 81 (Int32.toNatClampNeg ((97 * v3) + v4))) / 16 * 16) - ((M 75 (Int32.toNatClampNeg (6 + v1))) - (M 75 (Int32.toNatClampNeg (6 + v1))) / 16 * 16)) M) rfl rfl (Nat.le_of_ble_eq_true rfl) dX12_cast_109 ?_
      refine gx_iload dX12_cast_112 rfl ?_
      refine gx_bipush (x := 16) (by decide) dX12_cast_114 ?_
      refine gx_idivL (by decide) dX12_cast_116 ?_
      refine gx_aload_n dX12_cast_117 rfl ?_
      refine gx_getR fl_X12_7 sh74 rfl dX12_cast_118 ?_
      refine gx_bipush (x := 6) (by decide) dX12_cast_121 ?_
      refine gx_iload_n dX12_cast_123 rfl ?_
      refine gx_iadd dX12_cast_124 ?_
      refine gx_iaload sh75 dX12_cast_125 ?_
      refine gx_bipush (x := 16) (by decide) dX12_cast_126 ?_
      refine gx_idivL (by decide) dX12_cast_128 ?_
      refine gx_isub dX12_cast_129 ?_
      refine gx_cS_it (av := [.inl (((M 81 (Int32.toNatClampNeg ((97 * v3) + v4))) / 16) - ((M 75 (Int32.toNatClampNeg (6 + v1))) / 16))]) (st := [.inl (f_X12_size (((M 81 (Int32.toNatClampNeg ((97 * v3) + v4))) - (M 81 (Int32.toNatClampNeg ((97 * v3) + v4))) / 16 * 16) - ((M 75 (Int32.toNatClampNeg (6 + v1))) - (M 75 (Int32.toNatClampNeg (6 + v1))) / 16 * 16)))]) ml_X12_359 (by omega) (c_X12_size (d - 1) (by omega) (((M 81 (Int32.toNatClampNeg ((97 * v3) + v4))) / 16) - ((M 75 (Int32.toNatClampNeg (6 + v1))) / 16)) M) rfl rfl (Nat.le_of_ble_eq_true rfl) dX12_cast_130 ?_
      refine gx_cS_it (av := [.inl (f_X12_size (((M 81 (Int32.toNatClampNeg ((97 * v3) + v4))) - (M 81 (Int32.toNatClampNeg ((97 * v3) + v4))) / 16 * 16) - ((M 75 (Int32.toNatClampNeg (6 + v1))) - (M 75 (Int32.toNatClampNeg (6 + v1))) / 16 * 16))), .inl (f_X12_size (((M 81 (Int32.toNatClampNeg ((97 * v3) + v4))) / 16) - ((M 75 (Int32.toNatClampNeg (6 + v1))) / 16)))]) (st := []) ml_X12_283 (by omega) (c_X12_max (d - 1) (by omega) (f_X12_size (((M 81 (Int32.toNatClampNeg ((97 * v3) + v4))) - (M 81 (Int32.toNatClampNeg ((97 * v3) + v4))) / 16 * 16) - ((M 75 (Int32.toNatClampNeg (6 + v1))) - (M 75 (Int32.toNatClampNeg (6 + v1))) / 16 * 16))) (f_X12_size (((M 81 (Int32.toNatClampNeg ((97 * v3) + v4))) / 16) - ((M 75 (Int32.toNatClampNeg (6 + v1))) / 16))) M) rfl rfl (Nat.le_of_ble_eq_true rfl) dX12_cast_133 ?_
      refine gx_ni (fun x103 => ?_)
      refine gx_istore (lv' := [some (.inr (some 74)), some (.inl v1), some (.inl v2), some (.inl v3), some (.inl v4), some (.inl (M 81 (Int32.toNatClampNeg ((97 * v3) + v4)))), some (.inl x103)]) dX12_cast_136 (by decide) rfl ?_
      refine gx_iload_n dX12_cast_138 rfl ?_
      refine gx_bipush (x := (-2)) (by decide) dX12_cast_139 ?_
      refine gx_icmp_eq (tgt := 150) dX12_cast_141 (by decide) ?_ ?_
      · refine gx_iload dX12_cast_150 rfl ?_
        refine gx_istore_n (lv' := [some (.inr (some 74)), some (.inl v1), some (.inl x103), some (.inl v3), some (.inl v4), some (.inl (M 81 (Int32.toNatClampNeg ((97 * v3) + v4)))), some (.inl x103)]) dX12_cast_152 (by decide) rfl ?_
        refine gx_iinc (y := v4 + 1) (lv' := [some (.inr (some 74)), some (.inl v1), some (.inl x103), some (.inl v3), some (.inl (v4 + 1)), some (.inl (M 81 (Int32.toNatClampNeg ((97 * v3) + v4)))), some (.inl x103)]) dX12_cast_153 rfl rfl (by decide) rfl ?_
        refine gx_goto (tgt := 24) dX12_cast_156 (by decide) ?_
        refine gx_mk (lv' := [some (.inr (some 74)), some (.inl v1), some (.inl x103), some (.inl v3), some (.inl (v4 + 1)), none, none]) [true, true, true, true, true, false, false] rfl ?_
        exact ih x103 (v4 + 1)
      refine gx_iload dX12_cast_144 rfl ?_
      refine gx_iload_n dX12_cast_146 rfl ?_
      refine gx_icmp_ge (tgt := 153) dX12_cast_147 (by decide) ?_ ?_
      · refine gx_iinc (y := v4 + 1) (lv' := [some (.inr (some 74)), some (.inl v1), some (.inl v2), some (.inl v3), some (.inl (v4 + 1)), some (.inl (M 81 (Int32.toNatClampNeg ((97 * v3) + v4)))), some (.inl x103)]) dX12_cast_153 rfl rfl (by decide) rfl ?_
        refine gx_goto (tgt := 24) dX12_cast_156 (by decide) ?_
        refine gx_mk (lv' := [some (.inr (some 74)), some (.inl v1), some (.inl v2), some (.inl v3), some (.inl (v4 + 1)), none, none]) [true, true, true, true, true, false, false] rfl ?_
        exact ih v2 (v4 + 1)
      refine gx_iload dX12_cast_150 rfl ?_
      refine gx_istore_n (lv' := [some (.inr (some 74)), some (.inl v1), some (.inl x103), some (.inl v3), some (.inl v4), some (.inl (M 81 (Int32.toNatClampNeg ((97 * v3) + v4)))), some (.inl x103)]) dX12_cast_152 (by decide) rfl ?_
      refine gx_iinc (y := v4 + 1) (lv' := [some (.inr (some 74)), some (.inl v1), some (.inl x103), some (.inl v3), some (.inl (v4 + 1)), some (.inl (M 81 (Int32.toNatClampNeg ((97 * v3) + v4)))), some (.inl x103)]) dX12_cast_153 rfl rfl (by decide) rfl ?_
      refine gx_goto (tgt := 24) dX12_cast_156 (by decide) ?_
      refine gx_mk (lv' := [some (.inr (some 74)), some (.inl v1), some (.inl x103), some (.inl v3), some (.inl (v4 + 1)), none, none]) [true, true, true, true, true, false, false] rfl ?_
      exact ih x103 (v4 + 1)
    refine gx_goto (tgt := 153) dX12_cast_74 (by decide) ?_
    refine gx_iinc (y := v4 + 1) (lv' := [some (.inr (some 74)), some (.inl v1), some (.inl v2), some (.inl v3), some (.inl (v4 + 1)), none, none]) dX12_cast_153 rfl rfl (by decide) rfl ?_
    refine gx_goto (tgt := 24) dX12_cast_156 (by decide) ?_
    refine gx_mk (lv' := [some (.inr (some 74)), some (.inl v1), some (.inl v2), some (.inl v3), some (.inl (v4 + 1)), none, none]) [true, true, true, true, true, false, false] rfl ?_
    exact ih v2 (v4 + 1)
def f_X12_cast_L15 (n : Nat) (v1 : Int32) (M : HMem) : Nat → Int32 → Int32 → Option Int32
  | 0, _, _ => none
  | k + 1, v2, v3 =>
    if 8 ≤ v3 then
      (some v2)
    else
      (f_X12_cast_L24 n (f_X12_cast_L15 n v1 M k) v1 v3 M n v2 0)
set_option maxRecDepth 20000 in
theorem w_X12_cast_L15 (d : Nat) (hd : 2 ≤ d) (n : Nat) (M : HMem) (v1 : Int32) : ∀ (k : Nat) (v2 : Int32) (v3 : Int32), GX iX12_cast d (eP M) (f_X12_cast_L15 n v1 M k v2 v3) 15 [some (.inr (some 74)), some (.inl v1), some (.inl v2), some (.inl v3), none, none, none] [] M := by
  intro k
  induction k with
  | zero => intro v2 v3; exact gx_none
  | succ k ih =>
    intro v2 v3
    rw [f_X12_cast_L15]
    refine gx_iload_n dX12_cast_15 rfl ?_
    refine gx_bipush (x := 8) (by decide) dX12_cast_16 ?_
    refine gx_icmp_ge (tgt := 165) dX12_cast_18 (by decide) ?_ ?_
    · refine gx_iload_n dX12_cast_165 rfl ?_
      exact gx_iret rfl rfl dX12_cast_166
    refine gx_iconst (x := 0) (by decide) dX12_cast_21 ?_
    refine gx_istore (lv' := [some (.inr (some 74)), some (.inl v1), some (.inl v2), some (.inl v3), some (.inl 0), none, none]) dX12_cast_22 (by decide) rfl ?_
    refine gx_mk (lv' := [some (.inr (some 74)), some (.inl v1), some (.inl v2), some (.inl v3), some (.inl 0), none, none]) [true, true, true, true, true, false, false] rfl ?_
    exact w_X12_cast_L24 d hd n (f_X12_cast_L15 n v1 M k) M v1 v3 ih n v2 0
def f_X12_cast (n : Nat) (v1 : Int32) (M : HMem) : Option Int32 :=
  hb1 (f_X12_isHound v1 M) (fun x101 =>
  if x101 = 0 then
    (some (-1))
  else
    (f_X12_cast_L15 n v1 M n (-2) 0))
set_option maxRecDepth 20000 in
theorem w_X12_cast (d : Nat) (hd : 2 ≤ d) (n : Nat) (v1 : Int32) (M : HMem) : GX iX12_cast d (eP M) (f_X12_cast n v1 M) 0 [some (.inr (some 74)), some (.inl v1), none, none, none, none, none] [] M := by
  rw [f_X12_cast]
  refine gx_aload_n dX12_cast_0 rfl ?_
  refine gx_iload_n dX12_cast_1 rfl ?_
  refine gx_cV_ip (av := [.inl v1]) (st := []) ml_X12_286 (by omega) sh74 (c_X12_isHound (d - 1) (by omega) v1 M) rfl rfl (Nat.le_of_ble_eq_true rfl) dX12_cast_2 (fun x101 => ?_)
  refine gx_if_ne (tgt := 10) dX12_cast_5 (by decide) ?_ ?_
  · refine gx_bipush (x := (-2)) (by decide) dX12_cast_10 ?_
    refine gx_istore_n (lv' := [some (.inr (some 74)), some (.inl v1), some (.inl (-2)), none, none, none, none]) dX12_cast_12 (by decide) rfl ?_
    refine gx_iconst (x := 0) (by decide) dX12_cast_13 ?_
    refine gx_istore_n (lv' := [some (.inr (some 74)), some (.inl v1), some (.inl (-2)), some (.inl 0), none, none, none]) dX12_cast_14 (by decide) rfl ?_
    refine gx_mk (lv' := [some (.inr (some 74)), some (.inl v1), some (.inl (-2)), some (.inl 0), none, none, none]) [true, true, true, true, false, false, false] rfl ?_
    exact w_X12_cast_L15 d hd n M v1 n (-2) 0
  refine gx_iconst (x := (-1)) (by decide) dX12_cast_8 ?_
  exact gx_iret rfl rfl dX12_cast_9
theorem c_X12_cast (d : Nat) (hd : 2 ≤ d) (n : Nat) (v1 : Int32) (M : HMem) : MX iX12_cast d [.inr (some 74), .inl v1] M (eP M) (f_X12_cast n v1 M) := mx_of (by decide +kernel) (Nat.le_of_ble_eq_true rfl) rfl (w_X12_cast d hd n v1 M)
-- X12_huntable
def f_X12_huntable_L47 (n : Nat) (r38 : Int32 → Int32 → HMem → Option (Int32 × HMem)) (v1 : Int32) (v3 : Int32) : Nat → Int32 → Int32 → HMem → Option (Int32 × HMem)
  | 0, _, _, _ => none
  | k + 1, v2, v4, M =>
    if hib v3 8 then
    if (M 78 (Int32.toNatClampNeg v3)) < v4 then
      (r38 v2 (v3 + 1) M)
    else
      (hb1 (f_X12_hasLine v3 M) (fun x101 =>
      if x101 = 0 then
        (r38 v2 (v3 + 1) M)
      else
        (if hib ((97 * v3) + v4) 776 then
        hb1 (f_X12_strengthOf v3 v4 M) (fun x102 =>
        if x102 < v1 then
          (f_X12_huntable_L47 n r38 v1 v3 k v2 (v4 + 1) M)
        else
          (if hib (M 81 (Int32.toNatClampNeg ((97 * v3) + v4))) 192 then
          if (M 108 (Int32.toNatClampNeg (M 81 (Int32.toNatClampNeg ((97 * v3) + v4))))) = 0 then
            (if hib (M 81 (Int32.toNatClampNeg ((97 * v3) + v4))) 192 then
            f_X12_huntable_L47 n r38 v1 v3 k (v2 + 1) (v4 + 1) (hset M 108 (Int32.toNatClampNeg (M 81 (Int32.toNatClampNeg ((97 * v3) + v4)))) (1 &&& 1))
            else none)
          else
            (f_X12_huntable_L47 n r38 v1 v3 k v2 (v4 + 1) M)
          else none))
        else none)))
    else none
set_option maxRecDepth 20000 in
theorem w_X12_huntable_L47 (d : Nat) (hd : 2 ≤ d) (n : Nat) (r38 : Int32 → Int32 → HMem → Option (Int32 × HMem)) (v1 : Int32) (v3 : Int32) (hr38 : ∀ (v2 : Int32) (v3 : Int32) (M : HMem), GX iX12_huntable d eI (r38 v2 v3 M) 38 [some (.inr (some 74)), some (.inl v1), some (.inl v2), some (.inl v3), none, none] [] M) : ∀ (k : Nat) (v2 : Int32) (v4 : Int32) (M : HMem), GX iX12_huntable d eI (f_X12_huntable_L47 n r38 v1 v3 k v2 v4 M) 47 [some (.inr (some 74)), some (.inl v1), some (.inl v2), some (.inl v3), some (.inl v4), none] [] M := by
  intro k
  induction k with
  | zero => intro v2 v4 M; exact gx_none
  | succ k ih =>
    intro v2 v4 M
    rw [f_X12_huntable_L47]
    refine gx_iload dX12_huntable_47 rfl ?_
    refine gx_aload_n dX12_huntable_49 rfl ?_
    refine gx_getR fl_X12_19 sh74 rfl dX12_huntable_50 ?_
    refine gx_iload_n dX12_huntable_53 rfl ?_
    refine gx_iaload sh78 dX12_huntable_54 ?_
    refine gx_icmp_gt (tgt := 122) dX12_huntable_55 (by decide) ?_ ?_
    · refine gx_iinc (y := v3 + 1) (lv' := [some (.inr (some 74)), some (.inl v1), some (.inl v2), some (.inl (v3 + 1)), some (.inl v4), none]) dX12_huntable_122 rfl rfl (by decide) rfl ?_
      refine gx_goto (tgt := 38) dX12_huntable_125 (by decide) ?_
      refine gx_mk (lv' := [some (.inr (some 74)), some (.inl v1), some (.inl v2), some (.inl (v3 + 1)), none, none]) [true, true, true, true, false, false] rfl ?_
      exact hr38 v2 (v3 + 1) M
    refine gx_aload_n dX12_huntable_58 rfl ?_
    refine gx_iload_n dX12_huntable_59 rfl ?_
    refine gx_cV_ip (av := [.inl v3]) (st := []) ml_X12_122 (by omega) sh74 (c_X12_hasLine (d - 1) (by omega) v3 M) rfl rfl (Nat.le_of_ble_eq_true rfl) dX12_huntable_60 (fun x101 => ?_)
    refine gx_if_eq (tgt := 122) dX12_huntable_63 (by decide) ?_ ?_
    · refine gx_iinc (y := v3 + 1) (lv' := [some (.inr (some 74)), some (.inl v1), some (.inl v2), some (.inl (v3 + 1)), some (.inl v4), none]) dX12_huntable_122 rfl rfl (by decide) rfl ?_
      refine gx_goto (tgt := 38) dX12_huntable_125 (by decide) ?_
      refine gx_mk (lv' := [some (.inr (some 74)), some (.inl v1), some (.inl v2), some (.inl (v3 + 1)), none, none]) [true, true, true, true, false, false] rfl ?_
      exact hr38 v2 (v3 + 1) M
    refine gx_aload_n dX12_huntable_66 rfl ?_
    refine gx_getR fl_X12_28 sh74 rfl dX12_huntable_67 ?_
    refine gx_bipush (x := 97) (by decide) dX12_huntable_70 ?_
    refine gx_iload_n dX12_huntable_72 rfl ?_
    refine gx_imul dX12_huntable_73 ?_
    refine gx_iload dX12_huntable_74 rfl ?_
    refine gx_iadd dX12_huntable_76 ?_
    refine gx_iaload sh81 dX12_huntable_77 ?_
    refine gx_istore (lv' := [some (.inr (some 74)), some (.inl v1), some (.inl v2), some (.inl v3), some (.inl v4), some (.inl (M 81 (Int32.toNatClampNeg ((97 * v3) + v4))))]) dX12_huntable_78 (by decide) rfl ?_
    refine gx_aload_n dX12_huntable_80 rfl ?_
    refine gx_iload_n dX12_huntable_81 rfl ?_
    refine gx_iload dX12_huntable_82 rfl ?_
    refine gx_cV_ip (av := [.inl v3, .inl v4]) (st := []) ml_X12_295 (by omega) sh74 (c_X12_strengthOf (d - 1) (by omega) v3 v4 M) rfl rfl (Nat.le_of_ble_eq_true rfl) dX12_huntable_84 (fun x102 => ?_)
    refine gx_iload_n dX12_huntable_87 rfl ?_
    refine gx_icmp_lt (tgt := 116) dX12_huntable_88 (by decide) ?_ ?_
    · refine gx_iinc (y := v4 + 1) (lv' := [some (.inr (some 74)), some (.inl v1), some (.inl v2), some (.inl v3), some (.inl (v4 + 1)), some (.inl (M 81 (Int32.toNatClampNeg ((97 * v3) + v4))))]) dX12_huntable_116 rfl rfl (by decide) rfl ?_
      refine gx_goto (tgt := 47) dX12_huntable_119 (by decide) ?_
      refine gx_mk (lv' := [some (.inr (some 74)), some (.inl v1), some (.inl v2), some (.inl v3), some (.inl (v4 + 1)), none]) [true, true, true, true, true, false] rfl ?_
      exact ih v2 (v4 + 1) M
    refine gx_aload_n dX12_huntable_91 rfl ?_
    refine gx_getR fl_X12_110 sh74 rfl dX12_huntable_92 ?_
    refine gx_iload dX12_huntable_95 rfl ?_
    refine gx_zaload sh108 dX12_huntable_97 ?_
    refine gx_if_eq (tgt := 104) dX12_huntable_98 (by decide) ?_ ?_
    · refine gx_aload_n dX12_huntable_104 rfl ?_
      refine gx_getR fl_X12_110 sh74 rfl dX12_huntable_105 ?_
      refine gx_iload dX12_huntable_108 rfl ?_
      refine gx_iconst (x := 1) (by decide) dX12_huntable_110 ?_
      refine gx_zastore sh108 dX12_huntable_111 ?_
      refine gx_iload_n dX12_huntable_112 rfl ?_
      refine gx_iconst (x := 1) (by decide) dX12_huntable_113 ?_
      refine gx_iadd dX12_huntable_114 ?_
      refine gx_istore_n (lv' := [some (.inr (some 74)), some (.inl v1), some (.inl (v2 + 1)), some (.inl v3), some (.inl v4), some (.inl (M 81 (Int32.toNatClampNeg ((97 * v3) + v4))))]) dX12_huntable_115 (by decide) rfl ?_
      refine gx_iinc (y := v4 + 1) (lv' := [some (.inr (some 74)), some (.inl v1), some (.inl (v2 + 1)), some (.inl v3), some (.inl (v4 + 1)), some (.inl (M 81 (Int32.toNatClampNeg ((97 * v3) + v4))))]) dX12_huntable_116 rfl rfl (by decide) rfl ?_
      refine gx_goto (tgt := 47) dX12_huntable_119 (by decide) ?_
      refine gx_mk (lv' := [some (.inr (some 74)), some (.inl v1), some (.inl (v2 + 1)), some (.inl v3), some (.inl (v4 + 1)), none]) [true, true, true, true, true, false] rfl ?_
      exact ih (v2 + 1) (v4 + 1) (hset M 108 (Int32.toNatClampNeg (M 81 (Int32.toNatClampNeg ((97 * v3) + v4)))) (1 &&& 1))
    refine gx_goto (tgt := 116) dX12_huntable_101 (by decide) ?_
    refine gx_iinc (y := v4 + 1) (lv' := [some (.inr (some 74)), some (.inl v1), some (.inl v2), some (.inl v3), some (.inl (v4 + 1)), some (.inl (M 81 (Int32.toNatClampNeg ((97 * v3) + v4))))]) dX12_huntable_116 rfl rfl (by decide) rfl ?_
    refine gx_goto (tgt := 47) dX12_huntable_119 (by decide) ?_
    refine gx_mk (lv' := [some (.inr (some 74)), some (.inl v1), some (.inl v2), some (.inl v3), some (.inl (v4 + 1)), none]) [true, true, true, true, true, false] rfl ?_
    exact ih v2 (v4 + 1) M
def f_X12_huntable_L38 (n : Nat) (v1 : Int32) : Nat → Int32 → Int32 → HMem → Option (Int32 × HMem)
  | 0, _, _, _ => none
  | k + 1, v2, v3, M =>
    if 8 ≤ v3 then
      (some (v2, M))
    else
      (f_X12_huntable_L47 n (f_X12_huntable_L38 n v1 k) v1 v3 n v2 0 M)
set_option maxRecDepth 20000 in
theorem w_X12_huntable_L38 (d : Nat) (hd : 2 ≤ d) (n : Nat) (v1 : Int32) : ∀ (k : Nat) (v2 : Int32) (v3 : Int32) (M : HMem), GX iX12_huntable d eI (f_X12_huntable_L38 n v1 k v2 v3 M) 38 [some (.inr (some 74)), some (.inl v1), some (.inl v2), some (.inl v3), none, none] [] M := by
  intro k
  induction k with
  | zero => intro v2 v3 M; exact gx_none
  | succ k ih =>
    intro v2 v3 M
    rw [f_X12_huntable_L38]
    refine gx_iload_n dX12_huntable_38 rfl ?_
    refine gx_bipush (x := 8) (by decide) dX12_huntable_39 ?_
    refine gx_icmp_ge (tgt := 128) dX12_huntable_41 (by decide) ?_ ?_
    · refine gx_iload_n dX12_huntable_128 rfl ?_
      exact gx_iret rfl rfl dX12_huntable_129
    refine gx_iconst (x := 0) (by decide) dX12_huntable_44 ?_
    refine gx_istore (lv' := [some (.inr (some 74)), some (.inl v1), some (.inl v2), some (.inl v3), some (.inl 0), none]) dX12_huntable_45 (by decide) rfl ?_
    refine gx_mk (lv' := [some (.inr (some 74)), some (.inl v1), some (.inl v2), some (.inl v3), some (.inl 0), none]) [true, true, true, true, true, false] rfl ?_
    exact w_X12_huntable_L47 d hd n (f_X12_huntable_L38 n v1 k) v1 v3 ih n v2 0 M
def f_X12_huntable_L14 (n : Nat) (v1 : Int32) : Nat → Int32 → HMem → Option (Int32 × HMem)
  | 0, _, _ => none
  | k + 1, v2, M =>
    if 192 ≤ v2 then
      (f_X12_huntable_L38 n v1 n 0 0 M)
    else
      (if hib v2 192 then
      f_X12_huntable_L14 n v1 k (v2 + 1) (hset M 108 (Int32.toNatClampNeg v2) (0 &&& 1))
      else none)
set_option maxRecDepth 20000 in
theorem w_X12_huntable_L14 (d : Nat) (hd : 2 ≤ d) (n : Nat) (v1 : Int32) : ∀ (k : Nat) (v2 : Int32) (M : HMem), GX iX12_huntable d eI (f_X12_huntable_L14 n v1 k v2 M) 14 [some (.inr (some 74)), some (.inl v1), some (.inl v2), none, none, none] [] M := by
  intro k
  induction k with
  | zero => intro v2 M; exact gx_none
  | succ k ih =>
    intro v2 M
    rw [f_X12_huntable_L14]
    refine gx_iload_n dX12_huntable_14 rfl ?_
    refine gx_sipush (x := 192) (by decide) dX12_huntable_15 ?_
    refine gx_icmp_ge (tgt := 34) dX12_huntable_18 (by decide) ?_ ?_
    · refine gx_iconst (x := 0) (by decide) dX12_huntable_34 ?_
      refine gx_istore_n (lv' := [some (.inr (some 74)), some (.inl v1), some (.inl 0), none, none, none]) dX12_huntable_35 (by decide) rfl ?_
      refine gx_iconst (x := 0) (by decide) dX12_huntable_36 ?_
      refine gx_istore_n (lv' := [some (.inr (some 74)), some (.inl v1), some (.inl 0), some (.inl 0), none, none]) dX12_huntable_37 (by decide) rfl ?_
      refine gx_mk (lv' := [some (.inr (some 74)), some (.inl v1), some (.inl 0), some (.inl 0), none, none]) [true, true, true, true, false, false] rfl ?_
      exact w_X12_huntable_L38 d hd n v1 n 0 0 M
    refine gx_aload_n dX12_huntable_21 rfl ?_
    refine gx_getR fl_X12_110 sh74 rfl dX12_huntable_22 ?_
    refine gx_iload_n dX12_huntable_25 rfl ?_
    refine gx_iconst (x := 0) (by decide) dX12_huntable_26 ?_
    refine gx_zastore sh108 dX12_huntable_27 ?_
    refine gx_iinc (y := v2 + 1) (lv' := [some (.inr (some 74)), some (.inl v1), some (.inl (v2 + 1)), none, none, none]) dX12_huntable_28 rfl rfl (by decide) rfl ?_
    refine gx_goto (tgt := 14) dX12_huntable_31 (by decide) ?_
    refine gx_mk (lv' := [some (.inr (some 74)), some (.inl v1), some (.inl (v2 + 1)), none, none, none]) [true, true, true, false, false, false] rfl ?_
    exact ih (v2 + 1) (hset M 108 (Int32.toNatClampNeg v2) (0 &&& 1))
def f_X12_huntable (n : Nat) (v1 : Int32) (M : HMem) : Option (Int32 × HMem) :=
  if (f_X12_in v1 1 99) = 0 then
    (some ((-1), M))
  else
    (f_X12_huntable_L14 n v1 n 0 M)
set_option maxRecDepth 20000 in
theorem w_X12_huntable (d : Nat) (hd : 2 ≤ d) (n : Nat) (v1 : Int32) (M : HMem) : GX iX12_huntable d eI (f_X12_huntable n v1 M) 0 [some (.inr (some 74)), some (.inl v1), none, none, none, none] [] M := by
  rw [f_X12_huntable]
  refine gx_iload_n dX12_huntable_0 rfl ?_
  refine gx_iconst (x := 1) (by decide) dX12_huntable_1 ?_
  refine gx_bipush (x := 99) (by decide) dX12_huntable_2 ?_
  refine gx_cS_it (av := [.inl v1, .inl 1, .inl 99]) (st := []) ml_X12_118 (by omega) (c_X12_in (d - 1) (by omega) v1 1 99 M) rfl rfl (Nat.le_of_ble_eq_true rfl) dX12_huntable_4 ?_
  refine gx_if_ne (tgt := 12) dX12_huntable_7 (by decide) ?_ ?_
  · refine gx_iconst (x := 0) (by decide) dX12_huntable_12 ?_
    refine gx_istore_n (lv' := [some (.inr (some 74)), some (.inl v1), some (.inl 0), none, none, none]) dX12_huntable_13 (by decide) rfl ?_
    refine gx_mk (lv' := [some (.inr (some 74)), some (.inl v1), some (.inl 0), none, none, none]) [true, true, true, false, false, false] rfl ?_
    exact w_X12_huntable_L14 d hd n v1 n 0 M
  refine gx_iconst (x := (-1)) (by decide) dX12_huntable_10 ?_
  exact gx_iret rfl rfl dX12_huntable_11
theorem c_X12_huntable (d : Nat) (hd : 2 ≤ d) (n : Nat) (v1 : Int32) (M : HMem) : MX iX12_huntable d [.inr (some 74), .inl v1] M eI (f_X12_huntable n v1 M) := mx_of (by decide +kernel) (Nat.le_of_ble_eq_true rfl) rfl (w_X12_huntable d hd n v1 M)

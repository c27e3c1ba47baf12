-- X1_turns
def f_X1_turns_L6 (n : Nat) (o0 : Nat) (M : HMem) : Nat → Int32 → Int32 → Int32 → Option Int32
  | 0, _, _, _ => none
  | k + 1, v1, v2, v3 =>
    if (M o0 4) ≤ v3 then
      (some v1)
    else
      (if 96 ≤ v3 then
        (some v1)
      else
        (if hib v3 96 then
        if (M (o0 + 1) (Int32.toNatClampNeg v3)) = 0 then
          (f_X1_turns_L6 n o0 M k v1 v2 (v3 + 1))
        else
          (if v2 = 0 then
            (if hib v3 96 then
            f_X1_turns_L6 n o0 M k v1 (M (o0 + 1) (Int32.toNatClampNeg v3)) (v3 + 1)
            else none)
          else
            (if hib v3 96 then
            if (M (o0 + 1) (Int32.toNatClampNeg v3)) = v2 then
              (if hib v3 96 then
              f_X1_turns_L6 n o0 M k v1 (M (o0 + 1) (Int32.toNatClampNeg v3)) (v3 + 1)
              else none)
            else
              (if hib v3 96 then
              f_X1_turns_L6 n o0 M k (v1 + 1) (M (o0 + 1) (Int32.toNatClampNeg v3)) (v3 + 1)
              else none)
            else none))
        else none))
set_option maxRecDepth 20000 in
theorem w_X1_turns_L6 (d : Nat) (hd : 0 ≤ d) (n : Nat) (M : HMem) (o0 : Nat) (h0 : isCo o0) : ∀ (k : Nat) (v1 : Int32) (v2 : Int32) (v3 : Int32), GX iX1_turns d (eP M) (f_X1_turns_L6 n o0 M k v1 v2 v3) 6 [some (.inr (some o0)), some (.inl v1), some (.inl v2), some (.inl v3)] [] M := by
  intro k
  induction k with
  | zero => intro v1 v2 v3; exact gx_none
  | succ k ih =>
    intro v1 v2 v3
    rw [f_X1_turns_L6]
    refine gx_iload_n dX1_turns_6 rfl ?_
    refine gx_aload_n dX1_turns_7 rfl ?_
    refine gx_getI fl_X1_26 (shC h0) rfl dX1_turns_8 ?_
    refine gx_icmp_ge (tgt := 62) dX1_turns_11 (by decide) ?_ ?_
    · refine gx_iload_n dX1_turns_62 rfl ?_
      exact gx_iret rfl rfl dX1_turns_63
    refine gx_iload_n dX1_turns_14 rfl ?_
    refine gx_aload_n dX1_turns_15 rfl ?_
    refine gx_getR fl_X1_9 (shC h0) rfl dX1_turns_16 ?_
    refine gx_alen (x := 96) (shC1 h0) (by decide) (by decide) dX1_turns_19 ?_
    refine gx_icmp_ge (tgt := 62) dX1_turns_20 (by decide) ?_ ?_
    · refine gx_iload_n dX1_turns_62 rfl ?_
      exact gx_iret rfl rfl dX1_turns_63
    refine gx_aload_n dX1_turns_23 rfl ?_
    refine gx_getR fl_X1_9 (shC h0) rfl dX1_turns_24 ?_
    refine gx_iload_n dX1_turns_27 rfl ?_
    refine gx_iaload (shC1 h0) dX1_turns_28 ?_
    refine gx_if_eq (tgt := 56) dX1_turns_29 (by decide) ?_ ?_
    · refine gx_iinc (y := v3 + 1) (lv' := [some (.inr (some o0)), some (.inl v1), some (.inl v2), some (.inl (v3 + 1))]) dX1_turns_56 rfl rfl (by decide) rfl ?_
      refine gx_goto (tgt := 6) dX1_turns_59 (by decide) ?_
      refine gx_mk (lv' := [some (.inr (some o0)), some (.inl v1), some (.inl v2), some (.inl (v3 + 1))]) [true, true, true, true] rfl ?_
      exact ih v1 v2 (v3 + 1)
    refine gx_iload_n dX1_turns_32 rfl ?_
    refine gx_if_eq (tgt := 49) dX1_turns_33 (by decide) ?_ ?_
    · refine gx_aload_n dX1_turns_49 rfl ?_
      refine gx_getR fl_X1_9 (shC h0) rfl dX1_turns_50 ?_
      refine gx_iload_n dX1_turns_53 rfl ?_
      refine gx_iaload (shC1 h0) dX1_turns_54 ?_
      refine gx_istore_n (lv' := [some (.inr (some o0)), some (.inl v1), some (.inl (M (o0 + 1) (Int32.toNatClampNeg v3))), some (.inl v3)]) dX1_turns_55 (by decide) rfl ?_
      refine gx_iinc (y := v3 + 1) (lv' := [some (.inr (some o0)), some (.inl v1), some (.inl (M (o0 + 1) (Int32.toNatClampNeg v3))), some (.inl (v3 + 1))]) dX1_turns_56 rfl rfl (by decide) rfl ?_
      refine gx_goto (tgt := 6) dX1_turns_59 (by decide) ?_
      refine gx_mk (lv' := [some (.inr (some o0)), some (.inl v1), some (.inl (M (o0 + 1) (Int32.toNatClampNeg v3))), some (.inl (v3 + 1))]) [true, true, true, true] rfl ?_
      exact ih v1 (M (o0 + 1) (Int32.toNatClampNeg v3)) (v3 + 1)
    refine gx_aload_n dX1_turns_36 rfl ?_
    refine gx_getR fl_X1_9 (shC h0) rfl dX1_turns_37 ?_
    refine gx_iload_n dX1_turns_40 rfl ?_
    refine gx_iaload (shC1 h0) dX1_turns_41 ?_
    refine gx_iload_n dX1_turns_42 rfl ?_
    refine gx_icmp_eq (tgt := 49) dX1_turns_43 (by decide) ?_ ?_
    · refine gx_aload_n dX1_turns_49 rfl ?_
      refine gx_getR fl_X1_9 (shC h0) rfl dX1_turns_50 ?_
      refine gx_iload_n dX1_turns_53 rfl ?_
      refine gx_iaload (shC1 h0) dX1_turns_54 ?_
      refine gx_istore_n (lv' := [some (.inr (some o0)), some (.inl v1), some (.inl (M (o0 + 1) (Int32.toNatClampNeg v3))), some (.inl v3)]) dX1_turns_55 (by decide) rfl ?_
      refine gx_iinc (y := v3 + 1) (lv' := [some (.inr (some o0)), some (.inl v1), some (.inl (M (o0 + 1) (Int32.toNatClampNeg v3))), some (.inl (v3 + 1))]) dX1_turns_56 rfl rfl (by decide) rfl ?_
      refine gx_goto (tgt := 6) dX1_turns_59 (by decide) ?_
      refine gx_mk (lv' := [some (.inr (some o0)), some (.inl v1), some (.inl (M (o0 + 1) (Int32.toNatClampNeg v3))), some (.inl (v3 + 1))]) [true, true, true, true] rfl ?_
      exact ih v1 (M (o0 + 1) (Int32.toNatClampNeg v3)) (v3 + 1)
    refine gx_iinc (y := v1 + 1) (lv' := [some (.inr (some o0)), some (.inl (v1 + 1)), some (.inl v2), some (.inl v3)]) dX1_turns_46 rfl rfl (by decide) rfl ?_
    refine gx_aload_n dX1_turns_49 rfl ?_
    refine gx_getR fl_X1_9 (shC h0) rfl dX1_turns_50 ?_
    refine gx_iload_n dX1_turns_53 rfl ?_
    refine gx_iaload (shC1 h0) dX1_turns_54 ?_
    refine gx_istore_n (lv' := [some (.inr (some o0)), some (.inl (v1 + 1)), some (.inl (M (o0 + 1) (Int32.toNatClampNeg v3))), some (.inl v3)]) dX1_turns_55 (by decide) rfl ?_
    refine gx_iinc (y := v3 + 1) (lv' := [some (.inr (some o0)), some (.inl (v1 + 1)), some (.inl (M (o0 + 1) (Int32.toNatClampNeg v3))), some (.inl (v3 + 1))]) dX1_turns_56 rfl rfl (by decide) rfl ?_
    refine gx_goto (tgt := 6) dX1_turns_59 (by decide) ?_
    refine gx_mk (lv' := [some (.inr (some o0)), some (.inl (v1 + 1)), some (.inl (M (o0 + 1) (Int32.toNatClampNeg v3))), some (.inl (v3 + 1))]) [true, true, true, true] rfl ?_
    exact ih (v1 + 1) (M (o0 + 1) (Int32.toNatClampNeg v3)) (v3 + 1)
def f_X1_turns (n : Nat) (o0 : Nat) (M : HMem) : Option Int32 :=
  f_X1_turns_L6 n o0 M n 0 0 0
set_option maxRecDepth 20000 in
theorem w_X1_turns (d : Nat) (hd : 0 ≤ d) (n : Nat) (o0 : Nat) (h0 : isCo o0) (M : HMem) : GX iX1_turns d (eP M) (f_X1_turns n o0 M) 0 [some (.inr (some o0)), none, none, none] [] M := by
  rw [f_X1_turns]
  refine gx_iconst (x := 0) (by decide) dX1_turns_0 ?_
  refine gx_istore_n (lv' := [some (.inr (some o0)), some (.inl 0), none, none]) dX1_turns_1 (by decide) rfl ?_
  refine gx_iconst (x := 0) (by decide) dX1_turns_2 ?_
  refine gx_istore_n (lv' := [some (.inr (some o0)), some (.inl 0), some (.inl 0), none]) dX1_turns_3 (by decide) rfl ?_
  refine gx_iconst (x := 0) (by decide) dX1_turns_4 ?_
  refine gx_istore_n (lv' := [some (.inr (some o0)), some (.inl 0), some (.inl 0), some (.inl 0)]) dX1_turns_5 (by decide) rfl ?_
  refine gx_mk (lv' := [some (.inr (some o0)), some (.inl 0), some (.inl 0), some (.inl 0)]) [true, true, true, true] rfl ?_
  exact w_X1_turns_L6 d hd n M o0 h0 n 0 0 0
theorem c_X1_turns (d : Nat) (hd : 0 ≤ d) (n : Nat) (o0 : Nat) (h0 : isCo o0) (M : HMem) : MX iX1_turns d [.inr (some o0)] M (eP M) (f_X1_turns n o0 M) := mx_of (by decide +kernel) (Nat.le_of_ble_eq_true rfl) rfl (w_X1_turns d hd n o0 h0 M)
-- X1_longestStraight
def f_X1_longestStraight_J56 (n : Nat) (r9 : Int32 → Int32 → Int32 → Int32 → Option Int32) (o0 : Nat) (v1 : Int32) (v4 : Int32) (s0 : Int32) (M : HMem) : Option Int32 :=
  if hib v4 96 then
  r9 (hmax v1 s0) s0 (M (o0 + 1) (Int32.toNatClampNeg v4)) (v4 + 1)
  else none
set_option maxRecDepth 20000 in
theorem w_X1_longestStraight_J56 (d : Nat) (hd : 1 ≤ d) (n : Nat) (r9 : Int32 → Int32 → Int32 → Int32 → Option Int32) (M : HMem) (o0 : Nat) (h0 : isCo o0) (v1 : Int32) (v4 : Int32) (s0 : Int32) (hr9 : ∀ (v1 : Int32) (v2 : Int32) (v3 : Int32) (v4 : Int32), GX iX1_longestStraight d (eP M) (r9 v1 v2 v3 v4) 9 [some (.inr (some o0)), some (.inl v1), some (.inl v2), some (.inl v3), some (.inl v4)] [] M) : GX iX1_longestStraight d (eP M) (f_X1_longestStraight_J56 n r9 o0 v1 v4 s0 M) 56 [some (.inr (some o0)), some (.inl v1), none, none, some (.inl v4)] [.inl s0] M := by
  rw [f_X1_longestStraight_J56]
  refine gx_istore_n (lv' := [some (.inr (some o0)), some (.inl v1), some (.inl s0), none, some (.inl v4)]) dX1_longestStraight_56 (by decide) rfl ?_
  refine gx_aload_n dX1_longestStraight_57 rfl ?_
  refine gx_getR fl_X1_9 (shC h0) rfl dX1_longestStraight_58 ?_
  refine gx_iload dX1_longestStraight_61 rfl ?_
  refine gx_iaload (shC1 h0) dX1_longestStraight_63 ?_
  refine gx_istore_n (lv' := [some (.inr (some o0)), some (.inl v1), some (.inl s0), some (.inl (M (o0 + 1) (Int32.toNatClampNeg v4))), some (.inl v4)]) dX1_longestStraight_64 (by decide) rfl ?_
  refine gx_iload_n dX1_longestStraight_65 rfl ?_
  refine gx_iload_n dX1_longestStraight_66 rfl ?_
  refine gx_max mw1147 mw832 mw189 mcode_max (by omega) (Nat.le_of_ble_eq_true rfl) dX1_longestStraight_67 ?_
  refine gx_istore_n (lv' := [some (.inr (some o0)), some (.inl (hmax v1 s0)), some (.inl s0), some (.inl (M (o0 + 1) (Int32.toNatClampNeg v4))), some (.inl v4)]) dX1_longestStraight_70 (by decide) rfl ?_
  refine gx_iinc (y := v4 + 1) (lv' := [some (.inr (some o0)), some (.inl (hmax v1 s0)), some (.inl s0), some (.inl (M (o0 + 1) (Int32.toNatClampNeg v4))), some (.inl (v4 + 1))]) dX1_longestStraight_71 rfl rfl (by decide) rfl ?_
  refine gx_goto (tgt := 9) dX1_longestStraight_74 (by decide) ?_
  refine gx_mk (lv' := [some (.inr (some o0)), some (.inl (hmax v1 s0)), some (.inl s0), some (.inl (M (o0 + 1) (Int32.toNatClampNeg v4))), some (.inl (v4 + 1))]) [true, true, true, true, true] rfl ?_
  exact hr9 (hmax v1 s0) s0 (M (o0 + 1) (Int32.toNatClampNeg v4)) (v4 + 1)
def f_X1_longestStraight_L9 (n : Nat) (o0 : Nat) (M : HMem) : Nat → Int32 → Int32 → Int32 → Int32 → Option Int32
  | 0, _, _, _, _ => none
  | k + 1, v1, v2, v3, v4 =>
    if (M o0 4) ≤ v4 then
      (some v1)
    else
      (if 96 ≤ v4 then
        (some v1)
      else
        (if hib v4 96 then
        if (M (o0 + 1) (Int32.toNatClampNeg v4)) = 0 then
          (f_X1_longestStraight_L9 n o0 M k v1 v2 v3 (v4 + 1))
        else
          (if hib v4 96 then
          if (M (o0 + 1) (Int32.toNatClampNeg v4)) = v3 then
            (f_X1_longestStraight_J56 n (f_X1_longestStraight_L9 n o0 M k) o0 v1 v4 (v2 + 1) M)
          else
            (f_X1_longestStraight_J56 n (f_X1_longestStraight_L9 n o0 M k) o0 v1 v4 1 M)
          else none)
        else none))
set_option maxRecDepth 20000 in
theorem w_X1_longestStraight_L9 (d : Nat) (hd : 1 ≤ d) (n : Nat) (M : HMem) (o0 : Nat) (h0 : isCo o0) : ∀ (k : Nat) (v1 : Int32) (v2 : Int32) (v3 : Int32) (v4 : Int32), GX iX1_longestStraight d (eP M) (f_X1_longestStraight_L9 n o0 M k v1 v2 v3 v4) 9 [some (.inr (some o0)), some (.inl v1), some (.inl v2), some (.inl v3), some (.inl v4)] [] M := by
  intro k
  induction k with
  | zero => intro v1 v2 v3 v4; exact gx_none
  | succ k ih =>
    intro v1 v2 v3 v4
    rw [f_X1_longestStraight_L9]
    refine gx_iload dX1_longestStraight_9 rfl ?_
    refine gx_aload_n dX1_longestStraight_11 rfl ?_
    refine gx_getI fl_X1_26 (shC h0) rfl dX1_longestStraight_12 ?_
    refine gx_icmp_ge (tgt := 77) dX1_longestStraight_15 (by decide) ?_ ?_
    · refine gx_iload_n dX1_longestStraight_77 rfl ?_
      exact gx_iret rfl rfl dX1_longestStraight_78
    refine gx_iload dX1_longestStraight_18 rfl ?_
    refine gx_aload_n dX1_longestStraight_20 rfl ?_
    refine gx_getR fl_X1_9 (shC h0) rfl dX1_longestStraight_21 ?_
    refine gx_alen (x := 96) (shC1 h0) (by decide) (by decide) dX1_longestStraight_24 ?_
    refine gx_icmp_ge (tgt := 77) dX1_longestStraight_25 (by decide) ?_ ?_
    · refine gx_iload_n dX1_longestStraight_77 rfl ?_
      exact gx_iret rfl rfl dX1_longestStraight_78
    refine gx_aload_n dX1_longestStraight_28 rfl ?_
    refine gx_getR fl_X1_9 (shC h0) rfl dX1_longestStraight_29 ?_
    refine gx_iload dX1_longestStraight_32 rfl ?_
    refine gx_iaload (shC1 h0) dX1_longestStraight_34 ?_
    refine gx_if_eq (tgt := 71) dX1_longestStraight_35 (by decide) ?_ ?_
    · refine gx_iinc (y := v4 + 1) (lv' := [some (.inr (some o0)), some (.inl v1), some (.inl v2), some (.inl v3), some (.inl (v4 + 1))]) dX1_longestStraight_71 rfl rfl (by decide) rfl ?_
      refine gx_goto (tgt := 9) dX1_longestStraight_74 (by decide) ?_
      refine gx_mk (lv' := [some (.inr (some o0)), some (.inl v1), some (.inl v2), some (.inl v3), some (.inl (v4 + 1))]) [true, true, true, true, true] rfl ?_
      exact ih v1 v2 v3 (v4 + 1)
    refine gx_aload_n dX1_longestStraight_38 rfl ?_
    refine gx_getR fl_X1_9 (shC h0) rfl dX1_longestStraight_39 ?_
    refine gx_iload dX1_longestStraight_42 rfl ?_
    refine gx_iaload (shC1 h0) dX1_longestStraight_44 ?_
    refine gx_iload_n dX1_longestStraight_45 rfl ?_
    refine gx_icmp_ne (tgt := 55) dX1_longestStraight_46 (by decide) ?_ ?_
    · refine gx_iconst (x := 1) (by decide) dX1_longestStraight_55 ?_
      refine gx_mk (lv' := [some (.inr (some o0)), some (.inl v1), none, none, some (.inl v4)]) [true, true, false, false, true] rfl ?_
      exact w_X1_longestStraight_J56 d hd n (f_X1_longestStraight_L9 n o0 M k) M o0 h0 v1 v4 1 ih
    refine gx_iload_n dX1_longestStraight_49 rfl ?_
    refine gx_iconst (x := 1) (by decide) dX1_longestStraight_50 ?_
    refine gx_iadd dX1_longestStraight_51 ?_
    refine gx_goto (tgt := 56) dX1_longestStraight_52 (by decide) ?_
    refine gx_mk (lv' := [some (.inr (some o0)), some (.inl v1), none, none, some (.inl v4)]) [true, true, false, false, true] rfl ?_
    exact w_X1_longestStraight_J56 d hd n (f_X1_longestStraight_L9 n o0 M k) M o0 h0 v1 v4 (v2 + 1) ih
def f_X1_longestStraight (n : Nat) (o0 : Nat) (M : HMem) : Option Int32 :=
  f_X1_longestStraight_L9 n o0 M n 0 0 0 0
set_option maxRecDepth 20000 in
theorem w_X1_longestStraight (d : Nat) (hd : 1 ≤ d) (n : Nat) (o0 : Nat) (h0 : isCo o0) (M : HMem) : GX iX1_longestStraight d (eP M) (f_X1_longestStraight n o0 M) 0 [some (.inr (some o0)), none, none, none, none] [] M := by
  rw [f_X1_longestStraight]
  refine gx_iconst (x := 0) (by decide) dX1_longestStraight_0 ?_
  refine gx_istore_n (lv' := [some (.inr (some o0)), some (.inl 0), none, none, none]) dX1_longestStraight_1 (by decide) rfl ?_
  refine gx_iconst (x := 0) (by decide) dX1_longestStraight_2 ?_
  refine gx_istore_n (lv' := [some (.inr (some o0)), some (.inl 0), some (.inl 0), none, none]) dX1_longestStraight_3 (by decide) rfl ?_
  refine gx_iconst (x := 0) (by decide) dX1_longestStraight_4 ?_
  refine gx_istore_n (lv' := [some (.inr (some o0)), some (.inl 0), some (.inl 0), some (.inl 0), none]) dX1_longestStraight_5 (by decide) rfl ?_
  refine gx_iconst (x := 0) (by decide) dX1_longestStraight_6 ?_
  refine gx_istore (lv' := [some (.inr (some o0)), some (.inl 0), some (.inl 0), some (.inl 0), some (.inl 0)]) dX1_longestStraight_7 (by decide) rfl ?_
  refine gx_mk (lv' := [some (.inr (some o0)), some (.inl 0), some (.inl 0), some (.inl 0), some (.inl 0)]) [true, true, true, true, true] rfl ?_
  exact w_X1_longestStraight_L9 d hd n M o0 h0 n 0 0 0 0
theorem c_X1_longestStraight (d : Nat) (hd : 1 ≤ d) (n : Nat) (o0 : Nat) (h0 : isCo o0) (M : HMem) : MX iX1_longestStraight d [.inr (some o0)] M (eP M) (f_X1_longestStraight n o0 M) := mx_of (by decide +kernel) (Nat.le_of_ble_eq_true rfl) rfl (w_X1_longestStraight d hd n o0 h0 M)
-- X1_repeatsAfter
def f_X1_repeatsAfter_L6 (n : Nat) (o0 : Nat) (v1 : Int32) (M : HMem) : Nat → Int32 → Option Int32
  | 0, _ => none
  | k + 1, v2 =>
    if (M o0 4) ≤ v2 then
      (some 1)
    else
      (if 96 ≤ v2 then
        (some 1)
      else
        (if hib v2 96 then
        if hib (v2 - v1) 96 then
        if (M (o0 + 1) (Int32.toNatClampNeg v2)) = (M (o0 + 1) (Int32.toNatClampNeg (v2 - v1))) then
          (f_X1_repeatsAfter_L6 n o0 v1 M k (v2 + 1))
        else
          (some 0)
        else none
        else none))
set_option maxRecDepth 20000 in
theorem w_X1_repeatsAfter_L6 (d : Nat) (hd : 1 ≤ d) (n : Nat) (M : HMem) (o0 : Nat) (h0 : isCo o0) (v1 : Int32) : ∀ (k : Nat) (v2 : Int32), GX iX1_repeatsAfter d (eP M) (f_X1_repeatsAfter_L6 n o0 v1 M k v2) 6 [some (.inr (some o0)), some (.inl v1), some (.inl v2)] [] M := by
  intro k
  induction k with
  | zero => intro v2; exact gx_none
  | succ k ih =>
    intro v2
    rw [f_X1_repeatsAfter_L6]
    refine gx_iload_n dX1_repeatsAfter_6 rfl ?_
    refine gx_aload_n dX1_repeatsAfter_7 rfl ?_
    refine gx_getI fl_X1_26 (shC h0) rfl dX1_repeatsAfter_8 ?_
    refine gx_icmp_ge (tgt := 48) dX1_repeatsAfter_11 (by decide) ?_ ?_
    · refine gx_iconst (x := 1) (by decide) dX1_repeatsAfter_48 ?_
      exact gx_zret rfl (by decide) rfl dX1_repeatsAfter_49
    refine gx_iload_n dX1_repeatsAfter_14 rfl ?_
    refine gx_aload_n dX1_repeatsAfter_15 rfl ?_
    refine gx_getR fl_X1_9 (shC h0) rfl dX1_repeatsAfter_16 ?_
    refine gx_alen (x := 96) (shC1 h0) (by decide) (by decide) dX1_repeatsAfter_19 ?_
    refine gx_icmp_ge (tgt := 48) dX1_repeatsAfter_20 (by decide) ?_ ?_
    · refine gx_iconst (x := 1) (by decide) dX1_repeatsAfter_48 ?_
      exact gx_zret rfl (by decide) rfl dX1_repeatsAfter_49
    refine gx_aload_n dX1_repeatsAfter_23 rfl ?_
    refine gx_getR fl_X1_9 (shC h0) rfl dX1_repeatsAfter_24 ?_
    refine gx_iload_n dX1_repeatsAfter_27 rfl ?_
    refine gx_iaload (shC1 h0) dX1_repeatsAfter_28 ?_
    refine gx_aload_n dX1_repeatsAfter_29 rfl ?_
    refine gx_getR fl_X1_9 (shC h0) rfl dX1_repeatsAfter_30 ?_
    refine gx_iload_n dX1_repeatsAfter_33 rfl ?_
    refine gx_iload_n dX1_repeatsAfter_34 rfl ?_
    refine gx_isub dX1_repeatsAfter_35 ?_
    refine gx_iaload (shC1 h0) dX1_repeatsAfter_36 ?_
    refine gx_icmp_eq (tgt := 42) dX1_repeatsAfter_37 (by decide) ?_ ?_
    · refine gx_iinc (y := v2 + 1) (lv' := [some (.inr (some o0)), some (.inl v1), some (.inl (v2 + 1))]) dX1_repeatsAfter_42 rfl rfl (by decide) rfl ?_
      refine gx_goto (tgt := 6) dX1_repeatsAfter_45 (by decide) ?_
      refine gx_mk (lv' := [some (.inr (some o0)), some (.inl v1), some (.inl (v2 + 1))]) [true, true, true] rfl ?_
      exact ih (v2 + 1)
    refine gx_iconst (x := 0) (by decide) dX1_repeatsAfter_40 ?_
    exact gx_zret rfl (by decide) rfl dX1_repeatsAfter_41
def f_X1_repeatsAfter (n : Nat) (o0 : Nat) (v1 : Int32) (M : HMem) : Option Int32 :=
  f_X1_repeatsAfter_L6 n o0 v1 M n (hmax v1 0)
set_option maxRecDepth 20000 in
theorem w_X1_repeatsAfter (d : Nat) (hd : 1 ≤ d) (n : Nat) (o0 : Nat) (h0 : isCo o0) (v1 : Int32) (M : HMem) : GX iX1_repeatsAfter d (eP M) (f_X1_repeatsAfter n o0 v1 M) 0 [some (.inr (some o0)), some (.inl v1), none] [] M := by
  rw [f_X1_repeatsAfter]
  refine gx_iload_n dX1_repeatsAfter_0 rfl ?_
  refine gx_iconst (x := 0) (by decide) dX1_repeatsAfter_1 ?_
  refine gx_max mw1147 mw832 mw189 mcode_max (by omega) (Nat.le_of_ble_eq_true rfl) dX1_repeatsAfter_2 ?_
  refine gx_istore_n (lv' := [some (.inr (some o0)), some (.inl v1), some (.inl (hmax v1 0))]) dX1_repeatsAfter_5 (by decide) rfl ?_
  refine gx_mk (lv' := [some (.inr (some o0)), some (.inl v1), some (.inl (hmax v1 0))]) [true, true, true] rfl ?_
  exact w_X1_repeatsAfter_L6 d hd n M o0 h0 v1 n (hmax v1 0)
theorem c_X1_repeatsAfter (d : Nat) (hd : 1 ≤ d) (n : Nat) (o0 : Nat) (h0 : isCo o0) (v1 : Int32) (M : HMem) : MX iX1_repeatsAfter d [.inr (some o0), .inl v1] M (eP M) (f_X1_repeatsAfter n o0 v1 M) := mx_of (by decide +kernel) (Nat.le_of_ble_eq_true rfl) rfl (w_X1_repeatsAfter d hd n o0 h0 v1 M)
-- X1_period
def f_X1_period_L2 (n : Nat) (o0 : Nat) (M : HMem) : Nat → Int32 → Option Int32
  | 0, _ => none
  | k + 1, v1 =>
    if (M o0 4) ≤ v1 then
      (some (M o0 4))
    else
      (hb1 (f_X1_repeatsAfter n o0 v1 M) (fun x101 =>
      if x101 = 0 then
        (f_X1_period_L2 n o0 M k (v1 + 1))
      else
        (some v1)))
set_option maxRecDepth 20000 in
theorem w_X1_period_L2 (d : Nat) (hd : 2 ≤ d) (n : Nat) (M : HMem) (o0 : Nat) (h0 : isCo o0) : ∀ (k : Nat) (v1 : Int32), GX iX1_period d (eP M) (f_X1_period_L2 n o0 M k v1) 2 [some (.inr (some o0)), some (.inl v1)] [] M := by
  intro k
  induction k with
  | zero => intro v1; exact gx_none
  | succ k ih =>
    intro v1
    rw [f_X1_period_L2]
    refine gx_iload_n dX1_period_2 rfl ?_
    refine gx_aload_n dX1_period_3 rfl ?_
    refine gx_getI fl_X1_26 (shC h0) rfl dX1_period_4 ?_
    refine gx_icmp_ge (tgt := 26) dX1_period_7 (by decide) ?_ ?_
    · refine gx_aload_n dX1_period_26 rfl ?_
      refine gx_getI fl_X1_26 (shC h0) rfl dX1_period_27 ?_
      exact gx_iret rfl rfl dX1_period_30
    refine gx_aload_n dX1_period_10 rfl ?_
    refine gx_iload_n dX1_period_11 rfl ?_
    refine gx_cV_ip (av := [.inl v1]) (st := []) ml_X1_53 (by omega) (shC h0) (c_X1_repeatsAfter (d - 1) (by omega) n o0 h0 v1 M) rfl rfl (Nat.le_of_ble_eq_true rfl) dX1_period_12 (fun x101 => ?_)
    refine gx_if_eq (tgt := 20) dX1_period_15 (by decide) ?_ ?_
    · refine gx_iinc (y := v1 + 1) (lv' := [some (.inr (some o0)), some (.inl (v1 + 1))]) dX1_period_20 rfl rfl (by decide) rfl ?_
      refine gx_goto (tgt := 2) dX1_period_23 (by decide) ?_
      refine gx_mk (lv' := [some (.inr (some o0)), some (.inl (v1 + 1))]) [true, true] rfl ?_
      exact ih (v1 + 1)
    refine gx_iload_n dX1_period_18 rfl ?_
    exact gx_iret rfl rfl dX1_period_19
def f_X1_period (n : Nat) (o0 : Nat) (M : HMem) : Option Int32 :=
  f_X1_period_L2 n o0 M n 1
set_option maxRecDepth 20000 in
theorem w_X1_period (d : Nat) (hd : 2 ≤ d) (n : Nat) (o0 : Nat) (h0 : isCo o0) (M : HMem) : GX iX1_period d (eP M) (f_X1_period n o0 M) 0 [some (.inr (some o0)), none] [] M := by
  rw [f_X1_period]
  refine gx_iconst (x := 1) (by decide) dX1_period_0 ?_
  refine gx_istore_n (lv' := [some (.inr (some o0)), some (.inl 1)]) dX1_period_1 (by decide) rfl ?_
  refine gx_mk (lv' := [some (.inr (some o0)), some (.inl 1)]) [true, true] rfl ?_
  exact w_X1_period_L2 d hd n M o0 h0 n 1
theorem c_X1_period (d : Nat) (hd : 2 ≤ d) (n : Nat) (o0 : Nat) (h0 : isCo o0) (M : HMem) : MX iX1_period d [.inr (some o0)] M (eP M) (f_X1_period n o0 M) := mx_of (by decide +kernel) (Nat.le_of_ble_eq_true rfl) rfl (w_X1_period d hd n o0 h0 M)
-- X8_stateOf
def f_X8_stateOf (o0 : Nat) (v1 : Int32) (M : HMem) : Option Int32 :=
  if (f_X11_isWithin v1 5) = 0 then
    (some 3)
  else
    (if hib v1 6 then
    some (M (o0 + 4) (Int32.toNatClampNeg v1))
    else none)
set_option maxRecDepth 20000 in
theorem w_X8_stateOf (d : Nat) (hd : 1 ≤ d) (o0 : Nat) (h0 : isPk o0) (v1 : Int32) (M : HMem) : GX iX8_stateOf d (eP M) (f_X8_stateOf o0 v1 M) 0 [some (.inr (some o0)), some (.inl v1)] [] M := by
  rw [f_X8_stateOf]
  refine gx_iload_n dX8_stateOf_0 rfl ?_
  refine gx_iconst (x := 5) (by decide) dX8_stateOf_1 ?_
  refine gx_cS_it (av := [.inl v1, .inl 5]) (st := []) ml_X8_43 (by omega) (c_X11_isWithin (d - 1) (by omega) v1 5 M) rfl rfl (Nat.le_of_ble_eq_true rfl) dX8_stateOf_2 ?_
  refine gx_if_eq (tgt := 17) dX8_stateOf_5 (by decide) ?_ ?_
  · refine gx_iconst (x := 3) (by decide) dX8_stateOf_17 ?_
    exact gx_iret rfl rfl dX8_stateOf_18
  refine gx_aload_n dX8_stateOf_8 rfl ?_
  refine gx_getR fl_X8_21 (shP h0) rfl dX8_stateOf_9 ?_
  refine gx_iload_n dX8_stateOf_12 rfl ?_
  refine gx_iaload (shP4 h0) dX8_stateOf_13 ?_
  refine gx_goto (tgt := 18) dX8_stateOf_14 (by decide) ?_
  exact gx_iret rfl rfl dX8_stateOf_18
theorem c_X8_stateOf (d : Nat) (hd : 1 ≤ d) (o0 : Nat) (h0 : isPk o0) (v1 : Int32) (M : HMem) : MX iX8_stateOf d [.inr (some o0), .inl v1] M (eP M) (f_X8_stateOf o0 v1 M) := mx_of (by decide +kernel) (Nat.le_of_ble_eq_true rfl) rfl (w_X8_stateOf d hd o0 h0 v1 M)
-- X5_put
def f_X5_put (o0 : Nat) (v1 : Int32) (v2 : Int32) (M : HMem) : Option HMem :=
  if v1 < 0 then
    (some M)
  else
    (if 8 ≤ v1 then
      (some M)
    else
      (if hib v1 8 then
      some (hset M (o0 + 6) (Int32.toNatClampNeg v1) v2)
      else none))
set_option maxRecDepth 20000 in
theorem w_X5_put (d : Nat) (hd : 0 ≤ d) (o0 : Nat) (h0 : isLw o0) (v1 : Int32) (v2 : Int32) (M : HMem) : GX iX5_put d eV (f_X5_put o0 v1 v2 M) 0 [some (.inr (some o0)), some (.inl v1), some (.inl v2)] [] M := by
  rw [f_X5_put]
  refine gx_iload_n dX5_put_0 rfl ?_
  refine gx_if_lt (tgt := 17) dX5_put_1 (by decide) ?_ ?_
  · exact gx_vret rfl rfl dX5_put_17
  refine gx_iload_n dX5_put_4 rfl ?_
  refine gx_bipush (x := 8) (by decide) dX5_put_5 ?_
  refine gx_icmp_ge (tgt := 17) dX5_put_7 (by decide) ?_ ?_
  · exact gx_vret rfl rfl dX5_put_17
  refine gx_aload_n dX5_put_10 rfl ?_
  refine gx_getR fl_X5_34 (shW h0) rfl dX5_put_11 ?_
  refine gx_iload_n dX5_put_14 rfl ?_
  refine gx_iload_n dX5_put_15 rfl ?_
  refine gx_iastore (shW6 h0) dX5_put_16 ?_
  exact gx_vret rfl rfl dX5_put_17
theorem c_X5_put (d : Nat) (hd : 0 ≤ d) (o0 : Nat) (h0 : isLw o0) (v1 : Int32) (v2 : Int32) (M : HMem) : MX iX5_put d [.inr (some o0), .inl v1, .inl v2] M eV (f_X5_put o0 v1 v2 M) := mx_of (by decide +kernel) (Nat.le_of_ble_eq_true rfl) rfl (w_X5_put d hd o0 h0 v1 v2 M)
-- X8_faultsOf
def f_X8_faultsOf (o0 : Nat) (v1 : Int32) (M : HMem) : Option Int32 :=
  if (f_X11_isWithin v1 5) = 0 then
    (some 0)
  else
    (if hib v1 6 then
    some (M (o0 + 3) (Int32.toNatClampNeg v1))
    else none)
set_option maxRecDepth 20000 in
theorem w_X8_faultsOf (d : Nat) (hd : 1 ≤ d) (o0 : Nat) (h0 : isPk o0) (v1 : Int32) (M : HMem) : GX iX8_faultsOf d (eP M) (f_X8_faultsOf o0 v1 M) 0 [some (.inr (some o0)), some (.inl v1)] [] M := by
  rw [f_X8_faultsOf]
  refine gx_iload_n dX8_faultsOf_0 rfl ?_
  refine gx_iconst (x := 5) (by decide) dX8_faultsOf_1 ?_
  refine gx_cS_it (av := [.inl v1, .inl 5]) (st := []) ml_X8_43 (by omega) (c_X11_isWithin (d - 1) (by omega) v1 5 M) rfl rfl (Nat.le_of_ble_eq_true rfl) dX8_faultsOf_2 ?_
  refine gx_if_eq (tgt := 17) dX8_faultsOf_5 (by decide) ?_ ?_
  · refine gx_iconst (x := 0) (by decide) dX8_faultsOf_17 ?_
    exact gx_iret rfl rfl dX8_faultsOf_18
  refine gx_aload_n dX8_faultsOf_8 rfl ?_
  refine gx_getR fl_X8_18 (shP h0) rfl dX8_faultsOf_9 ?_
  refine gx_iload_n dX8_faultsOf_12 rfl ?_
  refine gx_iaload (shP3 h0) dX8_faultsOf_13 ?_
  refine gx_goto (tgt := 18) dX8_faultsOf_14 (by decide) ?_
  exact gx_iret rfl rfl dX8_faultsOf_18
theorem c_X8_faultsOf (d : Nat) (hd : 1 ≤ d) (o0 : Nat) (h0 : isPk o0) (v1 : Int32) (M : HMem) : MX iX8_faultsOf d [.inr (some o0), .inl v1] M (eP M) (f_X8_faultsOf o0 v1 M) := mx_of (by decide +kernel) (Nat.le_of_ble_eq_true rfl) rfl (w_X8_faultsOf d hd o0 h0 v1 M)
-- X8_placeOfHound
def f_X8_placeOfHound (o0 : Nat) (v1 : Int32) (M : HMem) : Option Int32 :=
  if (f_X11_isWithin v1 5) = 0 then
    (some 0)
  else
    (if hib v1 6 then
    some (M (o0 + 1) (Int32.toNatClampNeg v1))
    else none)
set_option maxRecDepth 20000 in
theorem w_X8_placeOfHound (d : Nat) (hd : 1 ≤ d) (o0 : Nat) (h0 : isPk o0) (v1 : Int32) (M : HMem) : GX iX8_placeOfHound d (eP M) (f_X8_placeOfHound o0 v1 M) 0 [some (.inr (some o0)), some (.inl v1)] [] M := by
  rw [f_X8_placeOfHound]
  refine gx_iload_n dX8_placeOfHound_0 rfl ?_
  refine gx_iconst (x := 5) (by decide) dX8_placeOfHound_1 ?_
  refine gx_cS_it (av := [.inl v1, .inl 5]) (st := []) ml_X8_43 (by omega) (c_X11_isWithin (d - 1) (by omega) v1 5 M) rfl rfl (Nat.le_of_ble_eq_true rfl) dX8_placeOfHound_2 ?_
  refine gx_if_eq (tgt := 17) dX8_placeOfHound_5 (by decide) ?_ ?_
  · refine gx_iconst (x := 0) (by decide) dX8_placeOfHound_17 ?_
    exact gx_iret rfl rfl dX8_placeOfHound_18
  refine gx_aload_n dX8_placeOfHound_8 rfl ?_
  refine gx_getR fl_X8_9 (shP h0) rfl dX8_placeOfHound_9 ?_
  refine gx_iload_n dX8_placeOfHound_12 rfl ?_
  refine gx_iaload (shP1 h0) dX8_placeOfHound_13 ?_
  refine gx_goto (tgt := 18) dX8_placeOfHound_14 (by decide) ?_
  exact gx_iret rfl rfl dX8_placeOfHound_18
theorem c_X8_placeOfHound (d : Nat) (hd : 1 ≤ d) (o0 : Nat) (h0 : isPk o0) (v1 : Int32) (M : HMem) : MX iX8_placeOfHound d [.inr (some o0), .inl v1] M (eP M) (f_X8_placeOfHound o0 v1 M) := mx_of (by decide +kernel) (Nat.le_of_ble_eq_true rfl) rfl (w_X8_placeOfHound d hd o0 h0 v1 M)
-- X8_houndsAt
def f_X8_houndsAt_L4 (n : Nat) (o0 : Nat) (v1 : Int32) (M : HMem) : Nat → Int32 → Int32 → Option Int32
  | 0, _, _ => none
  | k + 1, v2, v3 =>
    if 6 ≤ v3 then
      (some v2)
    else
      (if hib v3 6 then
      if (M (o0 + 4) (Int32.toNatClampNeg v3)) = 3 then
        (f_X8_houndsAt_L4 n o0 v1 M k v2 (v3 + 1))
      else
        (if hib v3 6 then
        if (M (o0 + 1) (Int32.toNatClampNeg v3)) = v1 then
          (f_X8_houndsAt_L4 n o0 v1 M k (v2 + 1) (v3 + 1))
        else
          (f_X8_houndsAt_L4 n o0 v1 M k v2 (v3 + 1))
        else none)
      else none)
set_option maxRecDepth 20000 in
theorem w_X8_houndsAt_L4 (d : Nat) (hd : 0 ≤ d) (n : Nat) (M : HMem) (o0 : Nat) (h0 : isPk o0) (v1 : Int32) : ∀ (k : Nat) (v2 : Int32) (v3 : Int32), GX iX8_houndsAt d (eP M) (f_X8_houndsAt_L4 n o0 v1 M k v2 v3) 4 [some (.inr (some o0)), some (.inl v1), some (.inl v2), some (.inl v3)] [] M := by
  intro k
  induction k with
  | zero => intro v2 v3; exact gx_none
  | succ k ih =>
    intro v2 v3
    rw [f_X8_houndsAt_L4]
    refine gx_iload_n dX8_houndsAt_4 rfl ?_
    refine gx_bipush (x := 6) (by decide) dX8_houndsAt_5 ?_
    refine gx_icmp_ge (tgt := 39) dX8_houndsAt_7 (by decide) ?_ ?_
    · refine gx_iload_n dX8_houndsAt_39 rfl ?_
      exact gx_iret rfl rfl dX8_houndsAt_40
    refine gx_aload_n dX8_houndsAt_10 rfl ?_
    refine gx_getR fl_X8_21 (shP h0) rfl dX8_houndsAt_11 ?_
    refine gx_iload_n dX8_houndsAt_14 rfl ?_
    refine gx_iaload (shP4 h0) dX8_houndsAt_15 ?_
    refine gx_iconst (x := 3) (by decide) dX8_houndsAt_16 ?_
    refine gx_icmp_eq (tgt := 33) dX8_houndsAt_17 (by decide) ?_ ?_
    · refine gx_iinc (y := v3 + 1) (lv' := [some (.inr (some o0)), some (.inl v1), some (.inl v2), some (.inl (v3 + 1))]) dX8_houndsAt_33 rfl rfl (by decide) rfl ?_
      refine gx_goto (tgt := 4) dX8_houndsAt_36 (by decide) ?_
      refine gx_mk (lv' := [some (.inr (some o0)), some (.inl v1), some (.inl v2), some (.inl (v3 + 1))]) [true, true, true, true] rfl ?_
      exact ih v2 (v3 + 1)
    refine gx_aload_n dX8_houndsAt_20 rfl ?_
    refine gx_getR fl_X8_9 (shP h0) rfl dX8_houndsAt_21 ?_
    refine gx_iload_n dX8_houndsAt_24 rfl ?_
    refine gx_iaload (shP1 h0) dX8_houndsAt_25 ?_
    refine gx_iload_n dX8_houndsAt_26 rfl ?_
    refine gx_icmp_ne (tgt := 33) dX8_houndsAt_27 (by decide) ?_ ?_
    · refine gx_iinc (y := v3 + 1) (lv' := [some (.inr (some o0)), some (.inl v1), some (.inl v2), some (.inl (v3 + 1))]) dX8_houndsAt_33 rfl rfl (by decide) rfl ?_
      refine gx_goto (tgt := 4) dX8_houndsAt_36 (by decide) ?_
      refine gx_mk (lv' := [some (.inr (some o0)), some (.inl v1), some (.inl v2), some (.inl (v3 + 1))]) [true, true, true, true] rfl ?_
      exact ih v2 (v3 + 1)
    refine gx_iinc (y := v2 + 1) (lv' := [some (.inr (some o0)), some (.inl v1), some (.inl (v2 + 1)), some (.inl v3)]) dX8_houndsAt_30 rfl rfl (by decide) rfl ?_
    refine gx_iinc (y := v3 + 1) (lv' := [some (.inr (some o0)), some (.inl v1), some (.inl (v2 + 1)), some (.inl (v3 + 1))]) dX8_houndsAt_33 rfl rfl (by decide) rfl ?_
    refine gx_goto (tgt := 4) dX8_houndsAt_36 (by decide) ?_
    refine gx_mk (lv' := [some (.inr (some o0)), some (.inl v1), some (.inl (v2 + 1)), some (.inl (v3 + 1))]) [true, true, true, true] rfl ?_
    exact ih (v2 + 1) (v3 + 1)
def f_X8_houndsAt (n : Nat) (o0 : Nat) (v1 : Int32) (M : HMem) : Option Int32 :=
  f_X8_houndsAt_L4 n o0 v1 M n 0 0
set_option maxRecDepth 20000 in
theorem w_X8_houndsAt (d : Nat) (hd : 0 ≤ d) (n : Nat) (o0 : Nat) (h0 : isPk o0) (v1 : Int32) (M : HMem) : GX iX8_houndsAt d (eP M) (f_X8_houndsAt n o0 v1 M) 0 [some (.inr (some o0)), some (.inl v1), none, none] [] M := by
  rw [f_X8_houndsAt]
  refine gx_iconst (x := 0) (by decide) dX8_houndsAt_0 ?_
  refine gx_istore_n (lv' := [some (.inr (some o0)), some (.inl v1), some (.inl 0), none]) dX8_houndsAt_1 (by decide) rfl ?_
  refine gx_iconst (x := 0) (by decide) dX8_houndsAt_2 ?_
  refine gx_istore_n (lv' := [some (.inr (some o0)), some (.inl v1), some (.inl 0), some (.inl 0)]) dX8_houndsAt_3 (by decide) rfl ?_
  refine gx_mk (lv' := [some (.inr (some o0)), some (.inl v1), some (.inl 0), some (.inl 0)]) [true, true, true, true] rfl ?_
  exact w_X8_houndsAt_L4 d hd n M o0 h0 v1 n 0 0
theorem c_X8_houndsAt (d : Nat) (hd : 0 ≤ d) (n : Nat) (o0 : Nat) (h0 : isPk o0) (v1 : Int32) (M : HMem) : MX iX8_houndsAt d [.inr (some o0), .inl v1] M (eP M) (f_X8_houndsAt n o0 v1 M) := mx_of (by decide +kernel) (Nat.le_of_ble_eq_true rfl) rfl (w_X8_houndsAt d hd n o0 h0 v1 M)
-- X5_valueOf
def f_X5_valueOf (o0 : Nat) (v1 : Int32) (M : HMem) : Option Int32 :=
  if v1 < 0 then
    (some 0)
  else
    (if 8 ≤ v1 then
      (some 0)
    else
      (if hib v1 8 then
      some (M (o0 + 6) (Int32.toNatClampNeg v1))
      else none))
set_option maxRecDepth 20000 in
theorem w_X5_valueOf (d : Nat) (hd : 0 ≤ d) (o0 : Nat) (h0 : isLw o0) (v1 : Int32) (M : HMem) : GX iX5_valueOf d (eP M) (f_X5_valueOf o0 v1 M) 0 [some (.inr (some o0)), some (.inl v1)] [] M := by
  rw [f_X5_valueOf]
  refine gx_iload_n dX5_valueOf_0 rfl ?_
  refine gx_if_lt (tgt := 19) dX5_valueOf_1 (by decide) ?_ ?_
  · refine gx_iconst (x := 0) (by decide) dX5_valueOf_19 ?_
    exact gx_iret rfl rfl dX5_valueOf_20
  refine gx_iload_n dX5_valueOf_4 rfl ?_
  refine gx_bipush (x := 8) (by decide) dX5_valueOf_5 ?_
  refine gx_icmp_ge (tgt := 19) dX5_valueOf_7 (by decide) ?_ ?_
  · refine gx_iconst (x := 0) (by decide) dX5_valueOf_19 ?_
    exact gx_iret rfl rfl dX5_valueOf_20
  refine gx_aload_n dX5_valueOf_10 rfl ?_
  refine gx_getR fl_X5_34 (shW h0) rfl dX5_valueOf_11 ?_
  refine gx_iload_n dX5_valueOf_14 rfl ?_
  refine gx_iaload (shW6 h0) dX5_valueOf_15 ?_
  refine gx_goto (tgt := 20) dX5_valueOf_16 (by decide) ?_
  exact gx_iret rfl rfl dX5_valueOf_20
theorem c_X5_valueOf (d : Nat) (hd : 0 ≤ d) (o0 : Nat) (h0 : isLw o0) (v1 : Int32) (M : HMem) : MX iX5_valueOf d [.inr (some o0), .inl v1] M (eP M) (f_X5_valueOf o0 v1 M) := mx_of (by decide +kernel) (Nat.le_of_ble_eq_true rfl) rfl (w_X5_valueOf d hd o0 h0 v1 M)
-- X5_combined
def f_X5_combined (v0 : Int32) (v1 : Int32) (v2 : Int32) : Option Int32 :=
  if v0 = 37 then
    (if v2 = 0 then
      (some 0)
    else
      (if v2 = 0 then none else
      some (v1 - v1 / v2 * v2)))
  else if v0 = 42 then
    (some (v1 * v2))
  else if v0 = 43 then
    (some (v1 + v2))
  else if v0 = 45 then
    (some (v1 - v2))
  else if v0 = 47 then
    (if v2 = 0 then
      (some 0)
    else
      (if v2 = 0 then none else
      some (v1 / v2)))
  else if v0 = 60 then
    (if v2 ≤ v1 then
      (some 0)
    else
      (some 1))
  else if v0 = 62 then
    (if v1 ≤ v2 then
      (some 0)
    else
      (some 1))
  else (if v1 = v2 then
    (some 1)
  else
    (some 0))
set_option maxRecDepth 20000 in
theorem w_X5_combined (d : Nat) (hd : 0 ≤ d) (v0 : Int32) (v1 : Int32) (v2 : Int32) (M : HMem) : GX iX5_combined d (eP M) (f_X5_combined v0 v1 v2) 0 [some (.inl v0), some (.inl v1), some (.inl v2)] [] M := by
  rw [f_X5_combined]
  refine gx_iload_n dX5_combined_0 rfl ?_
  refine gx_swL (k := 37) (kI := 37) (off := 91) (tgt := 92) (by decide) dX5_combined_1 (by decide) (by decide) (by decide) ?_ (fun q1_37 => ?_)
  · refine gx_iload_n dX5_combined_92 rfl ?_
    refine gx_if_ne (tgt := 100) dX5_combined_93 (by decide) ?_ ?_
    · refine gx_iload_n dX5_combined_100 rfl ?_
      refine gx_iload_n dX5_combined_101 rfl ?_
      refine gx_irem dX5_combined_102 ?_
      exact gx_iret rfl rfl dX5_combined_103
    refine gx_iconst (x := 0) (by decide) dX5_combined_96 ?_
    refine gx_goto (tgt := 103) dX5_combined_97 (by decide) ?_
    exact gx_iret rfl rfl dX5_combined_103
  refine gx_swL (k := 42) (kI := 42) (off := 75) (tgt := 76) (by decide) dX5_combined_1 (by decide) (by decide) (by decide) ?_ (fun q1_42 => ?_)
  · refine gx_iload_n dX5_combined_76 rfl ?_
    refine gx_iload_n dX5_combined_77 rfl ?_
    refine gx_imul dX5_combined_78 ?_
    exact gx_iret rfl rfl dX5_combined_79
  refine gx_swL (k := 43) (kI := 43) (off := 67) (tgt := 68) (by decide) dX5_combined_1 (by decide) (by decide) (by decide) ?_ (fun q1_43 => ?_)
  · refine gx_iload_n dX5_combined_68 rfl ?_
    refine gx_iload_n dX5_combined_69 rfl ?_
    refine gx_iadd dX5_combined_70 ?_
    exact gx_iret rfl rfl dX5_combined_71
  refine gx_swL (k := 45) (kI := 45) (off := 71) (tgt := 72) (by decide) dX5_combined_1 (by decide) (by decide) (by decide) ?_ (fun q1_45 => ?_)
  · refine gx_iload_n dX5_combined_72 rfl ?_
    refine gx_iload_n dX5_combined_73 rfl ?_
    refine gx_isub dX5_combined_74 ?_
    exact gx_iret rfl rfl dX5_combined_75
  refine gx_swL (k := 47) (kI := 47) (off := 79) (tgt := 80) (by decide) dX5_combined_1 (by decide) (by decide) (by decide) ?_ (fun q1_47 => ?_)
  · refine gx_iload_n dX5_combined_80 rfl ?_
    refine gx_if_ne (tgt := 88) dX5_combined_81 (by decide) ?_ ?_
    · refine gx_iload_n dX5_combined_88 rfl ?_
      refine gx_iload_n dX5_combined_89 rfl ?_
      refine gx_idiv dX5_combined_90 ?_
      exact gx_iret rfl rfl dX5_combined_91
    refine gx_iconst (x := 0) (by decide) dX5_combined_84 ?_
    refine gx_goto (tgt := 91) dX5_combined_85 (by decide) ?_
    exact gx_iret rfl rfl dX5_combined_91
  refine gx_swL (k := 60) (kI := 60) (off := 103) (tgt := 104) (by decide) dX5_combined_1 (by decide) (by decide) (by decide) ?_ (fun q1_60 => ?_)
  · refine gx_iload_n dX5_combined_104 rfl ?_
    refine gx_iload_n dX5_combined_105 rfl ?_
    refine gx_icmp_ge (tgt := 113) dX5_combined_106 (by decide) ?_ ?_
    · refine gx_iconst (x := 0) (by decide) dX5_combined_113 ?_
      exact gx_iret rfl rfl dX5_combined_114
    refine gx_iconst (x := 1) (by decide) dX5_combined_109 ?_
    refine gx_goto (tgt := 114) dX5_combined_110 (by decide) ?_
    exact gx_iret rfl rfl dX5_combined_114
  refine gx_swL (k := 62) (kI := 62) (off := 114) (tgt := 115) (by decide) dX5_combined_1 (by decide) (by decide) (by decide) ?_ (fun q1_62 => ?_)
  · refine gx_iload_n dX5_combined_115 rfl ?_
    refine gx_iload_n dX5_combined_116 rfl ?_
    refine gx_icmp_le (tgt := 124) dX5_combined_117 (by decide) ?_ ?_
    · refine gx_iconst (x := 0) (by decide) dX5_combined_124 ?_
      exact gx_iret rfl rfl dX5_combined_125
    refine gx_iconst (x := 1) (by decide) dX5_combined_120 ?_
    refine gx_goto (tgt := 125) dX5_combined_121 (by decide) ?_
    exact gx_iret rfl rfl dX5_combined_125
  refine gx_swLd (tgt := 126) dX5_combined_1 (by decide) (by show Op.lookupswitch.offset [(37, 91), (42, 75), (43, 67), (45, 71), (47, 79), (60, 103), (62, 114)] 125 _ = 125; rw [lv_osw q1_37 (by decide), lv_osw q1_42 (by decide), lv_osw q1_43 (by decide), lv_osw q1_45 (by decide), lv_osw q1_47 (by decide), lv_osw q1_60 (by decide), lv_osw q1_62 (by decide)]; rfl) (by decide) ?_
  refine gx_iload_n dX5_combined_126 rfl ?_
  refine gx_iload_n dX5_combined_127 rfl ?_
  refine gx_icmp_ne (tgt := 135) dX5_combined_128 (by decide) ?_ ?_
  · refine gx_iconst (x := 0) (by decide) dX5_combined_135 ?_
    exact gx_iret rfl rfl dX5_combined_136
  refine gx_iconst (x := 1) (by decide) dX5_combined_131 ?_
  refine gx_goto (tgt := 136) dX5_combined_132 (by decide) ?_
  exact gx_iret rfl rfl dX5_combined_136
theorem c_X5_combined (d : Nat) (hd : 0 ≤ d) (v0 : Int32) (v1 : Int32) (v2 : Int32) (M : HMem) : MX iX5_combined d [.inl v0, .inl v1, .inl v2] M (eP M) (f_X5_combined v0 v1 v2) := mx_of (by decide +kernel) (Nat.le_of_ble_eq_true rfl) rfl (w_X5_combined d hd v0 v1 v2 M)
-- X5_run
def f_X5_run_J226 (n : Nat) (r7 : Int32 → Int32 → Int32 → HMem → Option (Int32 × HMem)) (o0 : Nat) (v2 : Int32) (v3 : Int32) (v4 : Int32) (v5 : Int32) (v7 : Int32) (M : HMem) : Option (Int32 × HMem) :=
  if hib ((v2 + (-1)) - 1) 32 then
  hb1 (f_X5_combined v5 (M (o0 + 7) (Int32.toNatClampNeg ((v2 + (-1)) - 1))) v7) (fun x101 =>
  if hib ((v2 + (-1)) - 1) 32 then
  r7 (v2 + (-1)) v3 (v4 + 1) (hset M (o0 + 7) (Int32.toNatClampNeg ((v2 + (-1)) - 1)) x101)
  else none)
  else none
set_option maxRecDepth 20000 in
theorem w_X5_run_J226 (d : Nat) (hd : 1 ≤ d) (n : Nat) (r7 : Int32 → Int32 → Int32 → HMem → Option (Int32 × HMem)) (M : HMem) (o0 : Nat) (h0 : isLw o0) (v2 : Int32) (v3 : Int32) (v4 : Int32) (v5 : Int32) (v7 : Int32) (hr7 : ∀ (v2 : Int32) (v3 : Int32) (v4 : Int32) (M : HMem), GX iX5_run d eI (r7 v2 v3 v4 M) 7 [some (.inr (some o0)), none, some (.inl v2), some (.inl v3), some (.inl v4), none, none, none] [] M) : GX iX5_run d eI (f_X5_run_J226 n r7 o0 v2 v3 v4 v5 v7 M) 226 [some (.inr (some o0)), none, some (.inl v2), some (.inl v3), some (.inl v4), some (.inl v5), none, some (.inl v7)] [] M := by
  rw [f_X5_run_J226]
  refine gx_iinc (y := v2 + (-1)) (lv' := [some (.inr (some o0)), none, some (.inl (v2 + (-1))), some (.inl v3), some (.inl v4), some (.inl v5), none, some (.inl v7)]) dX5_run_226 rfl rfl (by decide) rfl ?_
  refine gx_aload_n dX5_run_229 rfl ?_
  refine gx_getR fl_X5_37 (shW h0) rfl dX5_run_230 ?_
  refine gx_iload_n dX5_run_233 rfl ?_
  refine gx_iconst (x := 1) (by decide) dX5_run_234 ?_
  refine gx_isub dX5_run_235 ?_
  refine gx_iload dX5_run_236 rfl ?_
  refine gx_aload_n dX5_run_238 rfl ?_
  refine gx_getR fl_X5_37 (shW h0) rfl dX5_run_239 ?_
  refine gx_iload_n dX5_run_242 rfl ?_
  refine gx_iconst (x := 1) (by decide) dX5_run_243 ?_
  refine gx_isub dX5_run_244 ?_
  refine gx_iaload (shW7 h0) dX5_run_245 ?_
  refine gx_iload dX5_run_246 rfl ?_
  refine gx_cS_ip (av := [.inl v5, .inl (M (o0 + 7) (Int32.toNatClampNeg ((v2 + (-1)) - 1))), .inl v7]) (st := [.inl ((v2 + (-1)) - 1), .inr (some (o0 + 7))]) ml_X5_62 (by omega) (c_X5_combined (d - 1) (by omega) v5 (M (o0 + 7) (Int32.toNatClampNeg ((v2 + (-1)) - 1))) v7 M) rfl rfl (Nat.le_of_ble_eq_true rfl) dX5_run_248 (fun x101 => ?_)
  refine gx_iastore (shW7 h0) dX5_run_251 ?_
  refine gx_iinc (y := v4 + 1) (lv' := [some (.inr (some o0)), none, some (.inl (v2 + (-1))), some (.inl v3), some (.inl (v4 + 1)), some (.inl v5), none, some (.inl v7)]) dX5_run_252 rfl rfl (by decide) rfl ?_
  refine gx_goto (tgt := 7) dX5_run_255 (by decide) ?_
  refine gx_mk (lv' := [some (.inr (some o0)), none, some (.inl (v2 + (-1))), some (.inl v3), some (.inl (v4 + 1)), none, none, none]) [true, false, true, true, true, false, false, false] rfl ?_
  exact hr7 (v2 + (-1)) v3 (v4 + 1) (hset M (o0 + 7) (Int32.toNatClampNeg ((v2 + (-1)) - 1)) x101)
def f_X5_run_J182 (n : Nat) (r7 : Int32 → Int32 → Int32 → HMem → Option (Int32 × HMem)) (o0 : Nat) (v2 : Int32) (v3 : Int32) (v4 : Int32) (v5 : Int32) (v7 : Int32) (M : HMem) : Option (Int32 × HMem) :=
  if v5 = 4 then
    (r7 (v2 + (-1)) v3 (v4 + 1) M)
  else
    (if v5 = 5 then
      (r7 (v2 + (-1)) v3 (v4 + 1) M)
    else
      (if v2 < 2 then
        (some (0, M))
      else
        (if v7 = 0 then
          (if v5 = 47 then
            (some (0, M))
          else
            (if v5 = 37 then
              (some (0, M))
            else
              (f_X5_run_J226 n r7 o0 v2 v3 v4 v5 v7 M)))
        else
          (f_X5_run_J226 n r7 o0 v2 v3 v4 v5 v7 M))))
set_option maxRecDepth 20000 in
theorem w_X5_run_J182 (d : Nat) (hd : 1 ≤ d) (n : Nat) (r7 : Int32 → Int32 → Int32 → HMem → Option (Int32 × HMem)) (M : HMem) (o0 : Nat) (h0 : isLw o0) (v2 : Int32) (v3 : Int32) (v4 : Int32) (v5 : Int32) (v7 : Int32) (hr7 : ∀ (v2 : Int32) (v3 : Int32) (v4 : Int32) (M : HMem), GX iX5_run d eI (r7 v2 v3 v4 M) 7 [some (.inr (some o0)), none, some (.inl v2), some (.inl v3), some (.inl v4), none, none, none] [] M) : GX iX5_run d eI (f_X5_run_J182 n r7 o0 v2 v3 v4 v5 v7 M) 182 [some (.inr (some o0)), none, some (.inl v2), some (.inl v3), some (.inl v4), some (.inl v5), none, some (.inl v7)] [] M := by
  rw [f_X5_run_J182]
  refine gx_iload dX5_run_182 rfl ?_
  refine gx_iconst (x := 4) (by decide) dX5_run_184 ?_
  refine gx_icmp_eq (tgt := 194) dX5_run_185 (by decide) ?_ ?_
  · refine gx_iinc (y := v2 + (-1)) (lv' := [some (.inr (some o0)), none, some (.inl (v2 + (-1))), some (.inl v3), some (.inl v4), some (.inl v5), none, some (.inl v7)]) dX5_run_194 rfl rfl (by decide) rfl ?_
    refine gx_goto (tgt := 252) dX5_run_197 (by decide) ?_
    refine gx_iinc (y := v4 + 1) (lv' := [some (.inr (some o0)), none, some (.inl (v2 + (-1))), some (.inl v3), some (.inl (v4 + 1)), some (.inl v5), none, some (.inl v7)]) dX5_run_252 rfl rfl (by decide) rfl ?_
    refine gx_goto (tgt := 7) dX5_run_255 (by decide) ?_
    refine gx_mk (lv' := [some (.inr (some o0)), none, some (.inl (v2 + (-1))), some (.inl v3), some (.inl (v4 + 1)), none, none, none]) [true, false, true, true, true, false, false, false] rfl ?_
    exact hr7 (v2 + (-1)) v3 (v4 + 1) M
  refine gx_iload dX5_run_188 rfl ?_
  refine gx_iconst (x := 5) (by decide) dX5_run_190 ?_
  refine gx_icmp_ne (tgt := 200) dX5_run_191 (by decide) ?_ ?_
  · refine gx_iload_n dX5_run_200 rfl ?_
    refine gx_iconst (x := 2) (by decide) dX5_run_201 ?_
    refine gx_icmp_lt (tgt := 224) dX5_run_202 (by decide) ?_ ?_
    · refine gx_iconst (x := 0) (by decide) dX5_run_224 ?_
      exact gx_iret rfl rfl dX5_run_225
    refine gx_iload dX5_run_205 rfl ?_
    refine gx_if_ne (tgt := 226) dX5_run_207 (by decide) ?_ ?_
    · refine gx_mk (lv' := [some (.inr (some o0)), none, some (.inl v2), some (.inl v3), some (.inl v4), some (.inl v5), none, some (.inl v7)]) [true, false, true, true, true, true, false, true] rfl ?_
      exact w_X5_run_J226 d hd n r7 M o0 h0 v2 v3 v4 v5 v7 hr7
    refine gx_iload dX5_run_210 rfl ?_
    refine gx_bipush (x := 47) (by decide) dX5_run_212 ?_
    refine gx_icmp_eq (tgt := 224) dX5_run_214 (by decide) ?_ ?_
    · refine gx_iconst (x := 0) (by decide) dX5_run_224 ?_
      exact gx_iret rfl rfl dX5_run_225
    refine gx_iload dX5_run_217 rfl ?_
    refine gx_bipush (x := 37) (by decide) dX5_run_219 ?_
    refine gx_icmp_ne (tgt := 226) dX5_run_221 (by decide) ?_ ?_
    · refine gx_mk (lv' := [some (.inr (some o0)), none, some (.inl v2), some (.inl v3), some (.inl v4), some (.inl v5), none, some (.inl v7)]) [true, false, true, true, true, true, false, true] rfl ?_
      exact w_X5_run_J226 d hd n r7 M o0 h0 v2 v3 v4 v5 v7 hr7
    refine gx_iconst (x := 0) (by decide) dX5_run_224 ?_
    exact gx_iret rfl rfl dX5_run_225
  refine gx_iinc (y := v2 + (-1)) (lv' := [some (.inr (some o0)), none, some (.inl (v2 + (-1))), some (.inl v3), some (.inl v4), some (.inl v5), none, some (.inl v7)]) dX5_run_194 rfl rfl (by decide) rfl ?_
  refine gx_goto (tgt := 252) dX5_run_197 (by decide) ?_
  refine gx_iinc (y := v4 + 1) (lv' := [some (.inr (some o0)), none, some (.inl (v2 + (-1))), some (.inl v3), some (.inl (v4 + 1)), some (.inl v5), none, some (.inl v7)]) dX5_run_252 rfl rfl (by decide) rfl ?_
  refine gx_goto (tgt := 7) dX5_run_255 (by decide) ?_
  refine gx_mk (lv' := [some (.inr (some o0)), none, some (.inl (v2 + (-1))), some (.inl v3), some (.inl (v4 + 1)), none, none, none]) [true, false, true, true, true, false, false, false] rfl ?_
  exact hr7 (v2 + (-1)) v3 (v4 + 1) M
def f_X5_run_J165 (n : Nat) (r7 : Int32 → Int32 → Int32 → HMem → Option (Int32 × HMem)) (o0 : Nat) (v2 : Int32) (v3 : Int32) (v4 : Int32) (v5 : Int32) (v6 : Int32) (v7 : Int32) (M : HMem) : Option (Int32 × HMem) :=
  if v5 = 5 then
    (if v7 = 0 then
      (f_X5_run_J182 n r7 o0 v2 v3 v4 v5 v7 M)
    else
      (r7 v2 v6 (v4 + 1) M))
  else
    (f_X5_run_J182 n r7 o0 v2 v3 v4 v5 v7 M)
set_option maxRecDepth 20000 in
theorem w_X5_run_J165 (d : Nat) (hd : 1 ≤ d) (n : Nat) (r7 : Int32 → Int32 → Int32 → HMem → Option (Int32 × HMem)) (M : HMem) (o0 : Nat) (h0 : isLw o0) (v2 : Int32) (v3 : Int32) (v4 : Int32) (v5 : Int32) (v6 : Int32) (v7 : Int32) (hr7 : ∀ (v2 : Int32) (v3 : Int32) (v4 : Int32) (M : HMem), GX iX5_run d eI (r7 v2 v3 v4 M) 7 [some (.inr (some o0)), none, some (.inl v2), some (.inl v3), some (.inl v4), none, none, none] [] M) : GX iX5_run d eI (f_X5_run_J165 n r7 o0 v2 v3 v4 v5 v6 v7 M) 165 [some (.inr (some o0)), none, some (.inl v2), some (.inl v3), some (.inl v4), some (.inl v5), some (.inl v6), some (.inl v7)] [] M := by
  rw [f_X5_run_J165]
  refine gx_iload dX5_run_165 rfl ?_
  refine gx_iconst (x := 5) (by decide) dX5_run_167 ?_
  refine gx_icmp_ne (tgt := 182) dX5_run_168 (by decide) ?_ ?_
  · refine gx_mk (lv' := [some (.inr (some o0)), none, some (.inl v2), some (.inl v3), some (.inl v4), some (.inl v5), none, some (.inl v7)]) [true, false, true, true, true, true, false, true] rfl ?_
    exact w_X5_run_J182 d hd n r7 M o0 h0 v2 v3 v4 v5 v7 hr7
  refine gx_iload dX5_run_171 rfl ?_
  refine gx_if_eq (tgt := 182) dX5_run_173 (by decide) ?_ ?_
  · refine gx_mk (lv' := [some (.inr (some o0)), none, some (.inl v2), some (.inl v3), some (.inl v4), some (.inl v5), none, some (.inl v7)]) [true, false, true, true, true, true, false, true] rfl ?_
    exact w_X5_run_J182 d hd n r7 M o0 h0 v2 v3 v4 v5 v7 hr7
  refine gx_iload dX5_run_176 rfl ?_
  refine gx_istore_n (lv' := [some (.inr (some o0)), none, some (.inl v2), some (.inl v6), some (.inl v4), some (.inl v5), some (.inl v6), some (.inl v7)]) dX5_run_178 (by decide) rfl ?_
  refine gx_goto (tgt := 252) dX5_run_179 (by decide) ?_
  refine gx_iinc (y := v4 + 1) (lv' := [some (.inr (some o0)), none, some (.inl v2), some (.inl v6), some (.inl (v4 + 1)), some (.inl v5), some (.inl v6), some (.inl v7)]) dX5_run_252 rfl rfl (by decide) rfl ?_
  refine gx_goto (tgt := 7) dX5_run_255 (by decide) ?_
  refine gx_mk (lv' := [some (.inr (some o0)), none, some (.inl v2), some (.inl v6), some (.inl (v4 + 1)), none, none, none]) [true, false, true, true, true, false, false, false] rfl ?_
  exact hr7 v2 v6 (v4 + 1) M
def f_X5_run_J73 (n : Nat) (r7 : Int32 → Int32 → Int32 → HMem → Option (Int32 × HMem)) (o0 : Nat) (v2 : Int32) (v3 : Int32) (v4 : Int32) (v5 : Int32) (v6 : Int32) (M : HMem) : Option (Int32 × HMem) :=
  if v2 < 32 then
    (if v5 = 1 then
      (if hib v2 32 then
      r7 (v2 + 1) v3 (v4 + 1) (hset M (o0 + 7) (Int32.toNatClampNeg v2) v6)
      else none)
    else
      (hb1 (f_X5_valueOf o0 v6 M) (fun x101 =>
      if hib v2 32 then
      r7 (v2 + 1) v3 (v4 + 1) (hset M (o0 + 7) (Int32.toNatClampNeg v2) x101)
      else none)))
  else
    (some (0, M))
set_option maxRecDepth 20000 in
theorem w_X5_run_J73 (d : Nat) (hd : 1 ≤ d) (n : Nat) (r7 : Int32 → Int32 → Int32 → HMem → Option (Int32 × HMem)) (M : HMem) (o0 : Nat) (h0 : isLw o0) (v2 : Int32) (v3 : Int32) (v4 : Int32) (v5 : Int32) (v6 : Int32) (hr7 : ∀ (v2 : Int32) (v3 : Int32) (v4 : Int32) (M : HMem), GX iX5_run d eI (r7 v2 v3 v4 M) 7 [some (.inr (some o0)), none, some (.inl v2), some (.inl v3), some (.inl v4), none, none, none] [] M) : GX iX5_run d eI (f_X5_run_J73 n r7 o0 v2 v3 v4 v5 v6 M) 73 [some (.inr (some o0)), none, some (.inl v2), some (.inl v3), some (.inl v4), some (.inl v5), some (.inl v6), none] [] M := by
  rw [f_X5_run_J73]
  refine gx_iload_n dX5_run_73 rfl ?_
  refine gx_bipush (x := 32) (by decide) dX5_run_74 ?_
  refine gx_icmp_lt (tgt := 81) dX5_run_76 (by decide) ?_ ?_
  · refine gx_aload_n dX5_run_81 rfl ?_
    refine gx_getR fl_X5_37 (shW h0) rfl dX5_run_82 ?_
    refine gx_iload_n dX5_run_85 rfl ?_
    refine gx_iload dX5_run_86 rfl ?_
    refine gx_iconst (x := 1) (by decide) dX5_run_88 ?_
    refine gx_icmp_ne (tgt := 97) dX5_run_89 (by decide) ?_ ?_
    · refine gx_aload_n dX5_run_97 rfl ?_
      refine gx_iload dX5_run_98 rfl ?_
      refine gx_cV_ip (av := [.inl v6]) (st := [.inl v2, .inr (some (o0 + 7))]) ml_X5_59 (by omega) (shW h0) (c_X5_valueOf (d - 1) (by omega) o0 h0 v6 M) rfl rfl (Nat.le_of_ble_eq_true rfl) dX5_run_100 (fun x101 => ?_)
      refine gx_iastore (shW7 h0) dX5_run_103 ?_
      refine gx_iinc (y := v2 + 1) (lv' := [some (.inr (some o0)), none, some (.inl (v2 + 1)), some (.inl v3), some (.inl v4), some (.inl v5), some (.inl v6), none]) dX5_run_104 rfl rfl (by decide) rfl ?_
      refine gx_goto (tgt := 252) dX5_run_107 (by decide) ?_
      refine gx_iinc (y := v4 + 1) (lv' := [some (.inr (some o0)), none, some (.inl (v2 + 1)), some (.inl v3), some (.inl (v4 + 1)), some (.inl v5), some (.inl v6), none]) dX5_run_252 rfl rfl (by decide) rfl ?_
      refine gx_goto (tgt := 7) dX5_run_255 (by decide) ?_
      refine gx_mk (lv' := [some (.inr (some o0)), none, some (.inl (v2 + 1)), some (.inl v3), some (.inl (v4 + 1)), none, none, none]) [true, false, true, true, true, false, false, false] rfl ?_
      exact hr7 (v2 + 1) v3 (v4 + 1) (hset M (o0 + 7) (Int32.toNatClampNeg v2) x101)
    refine gx_iload dX5_run_92 rfl ?_
    refine gx_goto (tgt := 103) dX5_run_94 (by decide) ?_
    refine gx_iastore (shW7 h0) dX5_run_103 ?_
    refine gx_iinc (y := v2 + 1) (lv' := [some (.inr (some o0)), none, some (.inl (v2 + 1)), some (.inl v3), some (.inl v4), some (.inl v5), some (.inl v6), none]) dX5_run_104 rfl rfl (by decide) rfl ?_
    refine gx_goto (tgt := 252) dX5_run_107 (by decide) ?_
    refine gx_iinc (y := v4 + 1) (lv' := [some (.inr (some o0)), none, some (.inl (v2 + 1)), some (.inl v3), some (.inl (v4 + 1)), some (.inl v5), some (.inl v6), none]) dX5_run_252 rfl rfl (by decide) rfl ?_
    refine gx_goto (tgt := 7) dX5_run_255 (by decide) ?_
    refine gx_mk (lv' := [some (.inr (some o0)), none, some (.inl (v2 + 1)), some (.inl v3), some (.inl (v4 + 1)), none, none, none]) [true, false, true, true, true, false, false, false] rfl ?_
    exact hr7 (v2 + 1) v3 (v4 + 1) (hset M (o0 + 7) (Int32.toNatClampNeg v2) v6)
  refine gx_iconst (x := 0) (by decide) dX5_run_79 ?_
  exact gx_iret rfl rfl dX5_run_80
def f_X5_run_L7 (n : Nat) (o0 : Nat) : Nat → Int32 → Int32 → Int32 → HMem → Option (Int32 × HMem)
  | 0, _, _, _, _ => none
  | k + 1, v2, v3, v4, M =>
    if 240 ≤ v4 then
      (if v2 ≤ 0 then
        (some (0, M))
      else
        (some (M (o0 + 7) 0, M)))
    else
      (if v3 < 0 then
        (if v2 ≤ 0 then
          (some (0, M))
        else
          (some (M (o0 + 7) 0, M)))
      else
        (if (M o0 6) ≤ v3 then
          (if v2 ≤ 0 then
            (some (0, M))
          else
            (some (M (o0 + 7) 0, M)))
        else
          (if 240 ≤ v3 then
            (if v2 ≤ 0 then
              (some (0, M))
            else
              (some (M (o0 + 7) 0, M)))
          else
            (if hib v3 240 then
            if hib v3 240 then
            if (M (o0 + 4) (Int32.toNatClampNeg v3)) = 0 then
              (if v2 ≤ 0 then
                (some (0, M))
              else
                (some (M (o0 + 7) 0, M)))
            else
              (if (M (o0 + 4) (Int32.toNatClampNeg v3)) = 1 then
                (f_X5_run_J73 n (f_X5_run_L7 n o0 k) o0 v2 (v3 + 1) v4 (M (o0 + 4) (Int32.toNatClampNeg v3)) (M (o0 + 5) (Int32.toNatClampNeg v3)) M)
              else
                (if (M (o0 + 4) (Int32.toNatClampNeg v3)) = 2 then
                  (f_X5_run_J73 n (f_X5_run_L7 n o0 k) o0 v2 (v3 + 1) v4 (M (o0 + 4) (Int32.toNatClampNeg v3)) (M (o0 + 5) (Int32.toNatClampNeg v3)) M)
                else
                  (if v2 < 1 then
                    (some (0, M))
                  else
                    (if v2 ≤ 32 then
                      (if hib (v2 - 1) 32 then
                      if (M (o0 + 4) (Int32.toNatClampNeg v3)) = 3 then
                        (if hib (v2 - 1) 32 then
                        f_X5_run_L7 n o0 k v2 (v3 + 1) (v4 + 1) (hset M (o0 + 7) (Int32.toNatClampNeg (v2 - 1)) (1 - (M (o0 + 7) (Int32.toNatClampNeg (v2 - 1)))))
                        else none)
                      else
                        (if (M (o0 + 4) (Int32.toNatClampNeg v3)) = 4 then
                          (if (M (o0 + 7) (Int32.toNatClampNeg (v2 - 1))) = 0 then
                            (f_X5_run_L7 n o0 k v2 (M (o0 + 5) (Int32.toNatClampNeg v3)) (v4 + 1) M)
                          else
                            (f_X5_run_J165 n (f_X5_run_L7 n o0 k) o0 v2 (v3 + 1) v4 (M (o0 + 4) (Int32.toNatClampNeg v3)) (M (o0 + 5) (Int32.toNatClampNeg v3)) (M (o0 + 7) (Int32.toNatClampNeg (v2 - 1))) M))
                        else
                          (f_X5_run_J165 n (f_X5_run_L7 n o0 k) o0 v2 (v3 + 1) v4 (M (o0 + 4) (Int32.toNatClampNeg v3)) (M (o0 + 5) (Int32.toNatClampNeg v3)) (M (o0 + 7) (Int32.toNatClampNeg (v2 - 1))) M))
                      else none)
                    else
                      (some (0, M))))))
            else none
            else none))))
set_option maxRecDepth 20000 in
theorem w_X5_run_L7 (d : Nat) (hd : 1 ≤ d) (n : Nat) (o0 : Nat) (h0 : isLw o0) : ∀ (k : Nat) (v2 : Int32) (v3 : Int32) (v4 : Int32) (M : HMem), GX iX5_run d eI (f_X5_run_L7 n o0 k v2 v3 v4 M) 7 [some (.inr (some o0)), none, some (.inl v2), some (.inl v3), some (.inl v4), none, none, none] [] M := by
  intro k
  induction k with
  | zero => intro v2 v3 v4 M; exact gx_none
  | succ k ih =>
    intro v2 v3 v4 M
    rw [f_X5_run_L7]
    refine gx_iload dX5_run_7 rfl ?_
    refine gx_sipush (x := 240) (by decide) dX5_run_9 ?_
    refine gx_icmp_ge (tgt := 258) dX5_run_12 (by decide) ?_ ?_
    · refine gx_iload_n dX5_run_258 rfl ?_
      refine gx_if_le (tgt := 271) dX5_run_259 (by decide) ?_ ?_
      · refine gx_iconst (x := 0) (by decide) dX5_run_271 ?_
        exact gx_iret rfl rfl dX5_run_272
      refine gx_aload_n dX5_run_262 rfl ?_
      refine gx_getR fl_X5_37 (shW h0) rfl dX5_run_263 ?_
      refine gx_iconst (x := 0) (by decide) dX5_run_266 ?_
      refine gx_ialoadL (j := 0) (shW7 h0) (by decide) (by decide) dX5_run_267 ?_
      refine gx_goto (tgt := 272) dX5_run_268 (by decide) ?_
      exact gx_iret rfl rfl dX5_run_272
    refine gx_iload_n dX5_run_15 rfl ?_
    refine gx_if_lt (tgt := 258) dX5_run_16 (by decide) ?_ ?_
    · refine gx_iload_n dX5_run_258 rfl ?_
      refine gx_if_le (tgt := 271) dX5_run_259 (by decide) ?_ ?_
      · refine gx_iconst (x := 0) (by decide) dX5_run_271 ?_
        exact gx_iret rfl rfl dX5_run_272
      refine gx_aload_n dX5_run_262 rfl ?_
      refine gx_getR fl_X5_37 (shW h0) rfl dX5_run_263 ?_
      refine gx_iconst (x := 0) (by decide) dX5_run_266 ?_
      refine gx_ialoadL (j := 0) (shW7 h0) (by decide) (by decide) dX5_run_267 ?_
      refine gx_goto (tgt := 272) dX5_run_268 (by decide) ?_
      exact gx_iret rfl rfl dX5_run_272
    refine gx_iload_n dX5_run_19 rfl ?_
    refine gx_aload_n dX5_run_20 rfl ?_
    refine gx_getI fl_X5_31 (shW h0) rfl dX5_run_21 ?_
    refine gx_icmp_ge (tgt := 258) dX5_run_24 (by decide) ?_ ?_
    · refine gx_iload_n dX5_run_258 rfl ?_
      refine gx_if_le (tgt := 271) dX5_run_259 (by decide) ?_ ?_
      · refine gx_iconst (x := 0) (by decide) dX5_run_271 ?_
        exact gx_iret rfl rfl dX5_run_272
      refine gx_aload_n dX5_run_262 rfl ?_
      refine gx_getR fl_X5_37 (shW h0) rfl dX5_run_263 ?_
      refine gx_iconst (x := 0) (by decide) dX5_run_266 ?_
      refine gx_ialoadL (j := 0) (shW7 h0) (by decide) (by decide) dX5_run_267 ?_
      refine gx_goto (tgt := 272) dX5_run_268 (by decide) ?_
      exact gx_iret rfl rfl dX5_run_272
    refine gx_iload_n dX5_run_27 rfl ?_
    refine gx_sipush (x := 240) (by decide) dX5_run_28 ?_
    refine gx_icmp_ge (tgt := 258) dX5_run_31 (by decide) ?_ ?_
    · refine gx_iload_n dX5_run_258 rfl ?_
      refine gx_if_le (tgt := 271) dX5_run_259 (by decide) ?_ ?_
      · refine gx_iconst (x := 0) (by decide) dX5_run_271 ?_
        exact gx_iret rfl rfl dX5_run_272
      refine gx_aload_n dX5_run_262 rfl ?_
      refine gx_getR fl_X5_37 (shW h0) rfl dX5_run_263 ?_
      refine gx_iconst (x := 0) (by decide) dX5_run_266 ?_
      refine gx_ialoadL (j := 0) (shW7 h0) (by decide) (by decide) dX5_run_267 ?_
      refine gx_goto (tgt := 272) dX5_run_268 (by decide) ?_
      exact gx_iret rfl rfl dX5_run_272
    refine gx_aload_n dX5_run_34 rfl ?_
    refine gx_getR fl_X5_25 (shW h0) rfl dX5_run_35 ?_
    refine gx_iload_n dX5_run_38 rfl ?_
    refine gx_iaload (shW4 h0) dX5_run_39 ?_
    refine gx_istore (lv' := [some (.inr (some o0)), none, some (.inl v2), some (.inl v3), some (.inl v4), some (.inl (M (o0 + 4) (Int32.toNatClampNeg v3))), none, none]) dX5_run_40 (by decide) rfl ?_
    refine gx_aload_n dX5_run_42 rfl ?_
    refine gx_getR fl_X5_28 (shW h0) rfl dX5_run_43 ?_
    refine gx_iload_n dX5_run_46 rfl ?_
    refine gx_iaload (shW5 h0) dX5_run_47 ?_
    refine gx_istore (lv' := [some (.inr (some o0)), none, some (.inl v2), some (.inl v3), some (.inl v4), some (.inl (M (o0 + 4) (Int32.toNatClampNeg v3))), some (.inl (M (o0 + 5) (Int32.toNatClampNeg v3))), none]) dX5_run_48 (by decide) rfl ?_
    refine gx_iinc (y := v3 + 1) (lv' := [some (.inr (some o0)), none, some (.inl v2), some (.inl (v3 + 1)), some (.inl v4), some (.inl (M (o0 + 4) (Int32.toNatClampNeg v3))), some (.inl (M (o0 + 5) (Int32.toNatClampNeg v3))), none]) dX5_run_50 rfl rfl (by decide) rfl ?_
    refine gx_iload dX5_run_53 rfl ?_
    refine gx_if_ne (tgt := 61) dX5_run_55 (by decide) ?_ ?_
    · refine gx_iload dX5_run_61 rfl ?_
      refine gx_iconst (x := 1) (by decide) dX5_run_63 ?_
      refine gx_icmp_eq (tgt := 73) dX5_run_64 (by decide) ?_ ?_
      · refine gx_mk (lv' := [some (.inr (some o0)), none, some (.inl v2), some (.inl (v3 + 1)), some (.inl v4), some (.inl (M (o0 + 4) (Int32.toNatClampNeg v3))), some (.inl (M (o0 + 5) (Int32.toNatClampNeg v3))), none]) [true, false, true, true, true, true, true, false] rfl ?_
        exact w_X5_run_J73 d hd n (f_X5_run_L7 n o0 k) M o0 h0 v2 (v3 + 1) v4 (M (o0 + 4) (Int32.toNatClampNeg v3)) (M (o0 + 5) (Int32.toNatClampNeg v3)) ih
      refine gx_iload dX5_run_67 rfl ?_
      refine gx_iconst (x := 2) (by decide) dX5_run_69 ?_
      refine gx_icmp_ne (tgt := 110) dX5_run_70 (by decide) ?_ ?_
      · refine gx_iload_n dX5_run_110 rfl ?_
        refine gx_iconst (x := 1) (by decide) dX5_run_111 ?_
        refine gx_icmp_lt (tgt := 121) dX5_run_112 (by decide) ?_ ?_
        · refine gx_iconst (x := 0) (by decide) dX5_run_121 ?_
          exact gx_iret rfl rfl dX5_run_122
        refine gx_iload_n dX5_run_115 rfl ?_
        refine gx_bipush (x := 32) (by decide) dX5_run_116 ?_
        refine gx_icmp_le (tgt := 123) dX5_run_118 (by decide) ?_ ?_
        · refine gx_aload_n dX5_run_123 rfl ?_
          refine gx_getR fl_X5_37 (shW h0) rfl dX5_run_124 ?_
          refine gx_iload_n dX5_run_127 rfl ?_
          refine gx_iconst (x := 1) (by decide) dX5_run_128 ?_
          refine gx_isub dX5_run_129 ?_
          refine gx_iaload (shW7 h0) dX5_run_130 ?_
          refine gx_istore (lv' := [some (.inr (some o0)), none, some (.inl v2), some (.inl (v3 + 1)), some (.inl v4), some (.inl (M (o0 + 4) (Int32.toNatClampNeg v3))), some (.inl (M (o0 + 5) (Int32.toNatClampNeg v3))), some (.inl (M (o0 + 7) (Int32.toNatClampNeg (v2 - 1))))]) dX5_run_131 (by decide) rfl ?_
          refine gx_iload dX5_run_133 rfl ?_
          refine gx_iconst (x := 3) (by decide) dX5_run_135 ?_
          refine gx_icmp_ne (tgt := 154) dX5_run_136 (by decide) ?_ ?_
          · refine gx_iload dX5_run_154 rfl ?_
            refine gx_iconst (x := 4) (by decide) dX5_run_156 ?_
            refine gx_icmp_ne (tgt := 165) dX5_run_157 (by decide) ?_ ?_
            · refine gx_mk (lv' := [some (.inr (some o0)), none, some (.inl v2), some (.inl (v3 + 1)), some (.inl v4), some (.inl (M (o0 + 4) (Int32.toNatClampNeg v3))), some (.inl (M (o0 + 5) (Int32.toNatClampNeg v3))), some (.inl (M (o0 + 7) (Int32.toNatClampNeg (v2 - 1))))]) [true, false, true, true, true, true, true, true] rfl ?_
              exact w_X5_run_J165 d hd n (f_X5_run_L7 n o0 k) M o0 h0 v2 (v3 + 1) v4 (M (o0 + 4) (Int32.toNatClampNeg v3)) (M (o0 + 5) (Int32.toNatClampNeg v3)) (M (o0 + 7) (Int32.toNatClampNeg (v2 - 1))) ih
            refine gx_iload dX5_run_160 rfl ?_
            refine gx_if_eq (tgt := 176) dX5_run_162 (by decide) ?_ ?_
            · refine gx_iload dX5_run_176 rfl ?_
              refine gx_istore_n (lv' := [some (.inr (some o0)), none, some (.inl v2), some (.inl (M (o0 + 5) (Int32.toNatClampNeg v3))), some (.inl v4), some (.inl (M (o0 + 4) (Int32.toNatClampNeg v3))), some (.inl (M (o0 + 5) (Int32.toNatClampNeg v3))), some (.inl (M (o0 + 7) (Int32.toNatClampNeg (v2 - 1))))]) dX5_run_178 (by decide) rfl ?_
              refine gx_goto (tgt := 252) dX5_run_179 (by decide) ?_
              refine gx_iinc (y := v4 + 1) (lv' := [some (.inr (some o0)), none, some (.inl v2), some (.inl (M (o0 + 5) (Int32.toNatClampNeg v3))), some (.inl (v4 + 1)), some (.inl (M (o0 + 4) (Int32.toNatClampNeg v3))), some (.inl (M (o0 + 5) (Int32.toNatClampNeg v3))), some (.inl (M (o0 + 7) (Int32.toNatClampNeg (v2 - 1))))]) dX5_run_252 rfl rfl (by decide) rfl ?_
              refine gx_goto (tgt := 7) dX5_run_255 (by decide) ?_
              refine gx_mk (lv' := [some (.inr (some o0)), none, some (.inl v2), some (.inl (M (o0 + 5) (Int32.toNatClampNeg v3))), some (.inl (v4 + 1)), none, none, none]) [true, false, true, true, true, false, false, false] rfl ?_
              exact ih v2 (M (o0 + 5) (Int32.toNatClampNeg v3)) (v4 + 1) M
            refine gx_mk (lv' := [some (.inr (some o0)), none, some (.inl v2), some (.inl (v3 + 1)), some (.inl v4), some (.inl (M (o0 + 4) (Int32.toNatClampNeg v3))), some (.inl (M (o0 + 5) (Int32.toNatClampNeg v3))), some (.inl (M (o0 + 7) (Int32.toNatClampNeg (v2 - 1))))]) [true, false, true, true, true, true, true, true] rfl ?_
            exact w_X5_run_J165 d hd n (f_X5_run_L7 n o0 k) M o0 h0 v2 (v3 + 1) v4 (M (o0 + 4) (Int32.toNatClampNeg v3)) (M (o0 + 5) (Int32.toNatClampNeg v3)) (M (o0 + 7) (Int32.toNatClampNeg (v2 - 1))) ih
          refine gx_aload_n dX5_run_139 rfl ?_
          refine gx_getR fl_X5_37 (shW h0) rfl dX5_run_140 ?_
          refine gx_iload_n dX5_run_143 rfl ?_
          refine gx_iconst (x := 1) (by decide) dX5_run_144 ?_
          refine gx_isub dX5_run_145 ?_
          refine gx_iconst (x := 1) (by decide) dX5_run_146 ?_
          refine gx_iload dX5_run_147 rfl ?_
          refine gx_isub dX5_run_149 ?_
          refine gx_iastore (shW7 h0) dX5_run_150 ?_
          refine gx_goto (tgt := 252) dX5_run_151 (by decide) ?_
          refine gx_iinc (y := v4 + 1) (lv' := [some (.inr (some o0)), none, some (.inl v2), some (.inl (v3 + 1)), some (.inl (v4 + 1)), some (.inl (M (o0 + 4) (Int32.toNatClampNeg v3))), some (.inl (M (o0 + 5) (Int32.toNatClampNeg v3))), some (.inl (M (o0 + 7) (Int32.toNatClampNeg (v2 - 1))))]) dX5_run_252 rfl rfl (by decide) rfl ?_
          refine gx_goto (tgt := 7) dX5_run_255 (by decide) ?_
          refine gx_mk (lv' := [some (.inr (some o0)), none, some (.inl v2), some (.inl (v3 + 1)), some (.inl (v4 + 1)), none, none, none]) [true, false, true, true, true, false, false, false] rfl ?_
          exact ih v2 (v3 + 1) (v4 + 1) (hset M (o0 + 7) (Int32.toNatClampNeg (v2 - 1)) (1 - (M (o0 + 7) (Int32.toNatClampNeg (v2 - 1)))))
        refine gx_iconst (x := 0) (by decide) dX5_run_121 ?_
        exact gx_iret rfl rfl dX5_run_122
      refine gx_mk (lv' := [some (.inr (some o0)), none, some (.inl v2), some (.inl (v3 + 1)), some (.inl v4), some (.inl (M (o0 + 4) (Int32.toNatClampNeg v3))), some (.inl (M (o0 + 5) (Int32.toNatClampNeg v3))), none]) [true, false, true, true, true, true, true, false] rfl ?_
      exact w_X5_run_J73 d hd n (f_X5_run_L7 n o0 k) M o0 h0 v2 (v3 + 1) v4 (M (o0 + 4) (Int32.toNatClampNeg v3)) (M (o0 + 5) (Int32.toNatClampNeg v3)) ih
    refine gx_goto (tgt := 258) dX5_run_58 (by decide) ?_
    refine gx_iload_n dX5_run_258 rfl ?_
    refine gx_if_le (tgt := 271) dX5_run_259 (by decide) ?_ ?_
    · refine gx_iconst (x := 0) (by decide) dX5_run_271 ?_
      exact gx_iret rfl rfl dX5_run_272
    refine gx_aload_n dX5_run_262 rfl ?_
    refine gx_getR fl_X5_37 (shW h0) rfl dX5_run_263 ?_
    refine gx_iconst (x := 0) (by decide) dX5_run_266 ?_
    refine gx_ialoadL (j := 0) (shW7 h0) (by decide) (by decide) dX5_run_267 ?_
    refine gx_goto (tgt := 272) dX5_run_268 (by decide) ?_
    exact gx_iret rfl rfl dX5_run_272
def f_X5_run (n : Nat) (o0 : Nat) (v1 : Int32) (M : HMem) : Option (Int32 × HMem) :=
  f_X5_run_L7 n o0 n 0 v1 0 M
set_option maxRecDepth 20000 in
theorem w_X5_run (d : Nat) (hd : 1 ≤ d) (n : Nat) (o0 : Nat) (h0 : isLw o0) (v1 : Int32) (M : HMem) : GX iX5_run d eI (f_X5_run n o0 v1 M) 0 [some (.inr (some o0)), some (.inl v1), none, none, none, none, none, none] [] M := by
  rw [f_X5_run]
  refine gx_iconst (x := 0) (by decide) dX5_run_0 ?_
  refine gx_istore_n (lv' := [some (.inr (some o0)), some (.inl v1), some (.inl 0), none, none, none, none, none]) dX5_run_1 (by decide) rfl ?_
  refine gx_iload_n dX5_run_2 rfl ?_
  refine gx_istore_n (lv' := [some (.inr (some o0)), some (.inl v1), some (.inl 0), some (.inl v1), none, none, none, none]) dX5_run_3 (by decide) rfl ?_
  refine gx_iconst (x := 0) (by decide) dX5_run_4 ?_
  refine gx_istore (lv' := [some (.inr (some o0)), some (.inl v1), some (.inl 0), some (.inl v1), some (.inl 0), none, none, none]) dX5_run_5 (by decide) rfl ?_
  refine gx_mk (lv' := [some (.inr (some o0)), none, some (.inl 0), some (.inl v1), some (.inl 0), none, none, none]) [true, false, true, true, true, false, false, false] rfl ?_
  exact w_X5_run_L7 d hd n o0 h0 n 0 v1 0 M
theorem c_X5_run (d : Nat) (hd : 1 ≤ d) (n : Nat) (o0 : Nat) (h0 : isLw o0) (v1 : Int32) (M : HMem) : MX iX5_run d [.inr (some o0), .inl v1] M eI (f_X5_run n o0 v1 M) := mx_of (by decide +kernel) (Nat.le_of_ble_eq_true rfl) rfl (w_X5_run d hd n o0 h0 v1 M)
-- X5_givesUp
def f_X5_givesUp_L2 (n : Nat) (o0 : Nat) : Nat → Int32 → HMem → Option (Int32 × HMem)
  | 0, _, _ => none
  | k + 1, v1, M =>
    if (M o0 3) ≤ v1 then
      (some (0, M))
    else
      (if 16 ≤ v1 then
        (some (0, M))
      else
        (if hib v1 16 then
        if (M (o0 + 1) (Int32.toNatClampNeg v1)) = 120 then
          (if hib v1 16 then
          hb2 (f_X5_run n o0 (M (o0 + 3) (Int32.toNatClampNeg v1)) M) (fun x101 M102 =>
          if x101 = 0 then
            (f_X5_givesUp_L2 n o0 k (v1 + 1) M102)
          else
            (some (1, M102)))
          else none)
        else
          (f_X5_givesUp_L2 n o0 k (v1 + 1) M)
        else none))
set_option maxRecDepth 20000 in
theorem w_X5_givesUp_L2 (d : Nat) (hd : 2 ≤ d) (n : Nat) (o0 : Nat) (h0 : isLw o0) : ∀ (k : Nat) (v1 : Int32) (M : HMem), GX iX5_givesUp d eI (f_X5_givesUp_L2 n o0 k v1 M) 2 [some (.inr (some o0)), some (.inl v1)] [] M := by
  intro k
  induction k with
  | zero => intro v1 M; exact gx_none
  | succ k ih =>
    intro v1 M
    rw [f_X5_givesUp_L2]
    refine gx_iload_n dX5_givesUp_2 rfl ?_
    refine gx_aload_n dX5_givesUp_3 rfl ?_
    refine gx_getI fl_X5_21 (shW h0) rfl dX5_givesUp_4 ?_
    refine gx_icmp_ge (tgt := 48) dX5_givesUp_7 (by decide) ?_ ?_
    · refine gx_iconst (x := 0) (by decide) dX5_givesUp_48 ?_
      exact gx_zret rfl (by decide) rfl dX5_givesUp_49
    refine gx_iload_n dX5_givesUp_10 rfl ?_
    refine gx_bipush (x := 16) (by decide) dX5_givesUp_11 ?_
    refine gx_icmp_ge (tgt := 48) dX5_givesUp_13 (by decide) ?_ ?_
    · refine gx_iconst (x := 0) (by decide) dX5_givesUp_48 ?_
      exact gx_zret rfl (by decide) rfl dX5_givesUp_49
    refine gx_aload_n dX5_givesUp_16 rfl ?_
    refine gx_getR fl_X5_11 (shW h0) rfl dX5_givesUp_17 ?_
    refine gx_iload_n dX5_givesUp_20 rfl ?_
    refine gx_iaload (shW1 h0) dX5_givesUp_21 ?_
    refine gx_bipush (x := 120) (by decide) dX5_givesUp_22 ?_
    refine gx_icmp_ne (tgt := 42) dX5_givesUp_24 (by decide) ?_ ?_
    · refine gx_iinc (y := v1 + 1) (lv' := [some (.inr (some o0)), some (.inl (v1 + 1))]) dX5_givesUp_42 rfl rfl (by decide) rfl ?_
      refine gx_goto (tgt := 2) dX5_givesUp_45 (by decide) ?_
      refine gx_mk (lv' := [some (.inr (some o0)), some (.inl (v1 + 1))]) [true, true] rfl ?_
      exact ih (v1 + 1) M
    refine gx_aload_n dX5_givesUp_27 rfl ?_
    refine gx_aload_n dX5_givesUp_28 rfl ?_
    refine gx_getR fl_X5_18 (shW h0) rfl dX5_givesUp_29 ?_
    refine gx_iload_n dX5_givesUp_32 rfl ?_
    refine gx_iaload (shW3 h0) dX5_givesUp_33 ?_
    refine gx_cV_im (av := [.inl (M (o0 + 3) (Int32.toNatClampNeg v1))]) (st := []) ml_X5_46 (by omega) (shW h0) (c_X5_run (d - 1) (by omega) n o0 h0 (M (o0 + 3) (Int32.toNatClampNeg v1)) M) rfl rfl (Nat.le_of_ble_eq_true rfl) dX5_givesUp_34 (fun x101 M102 => ?_)
    refine gx_if_eq (tgt := 42) dX5_givesUp_37 (by decide) ?_ ?_
    · refine gx_iinc (y := v1 + 1) (lv' := [some (.inr (some o0)), some (.inl (v1 + 1))]) dX5_givesUp_42 rfl rfl (by decide) rfl ?_
      refine gx_goto (tgt := 2) dX5_givesUp_45 (by decide) ?_
      refine gx_mk (lv' := [some (.inr (some o0)), some (.inl (v1 + 1))]) [true, true] rfl ?_
      exact ih (v1 + 1) M102
    refine gx_iconst (x := 1) (by decide) dX5_givesUp_40 ?_
    exact gx_zret rfl (by decide) rfl dX5_givesUp_41
def f_X5_givesUp (n : Nat) (o0 : Nat) (M : HMem) : Option (Int32 × HMem) :=
  f_X5_givesUp_L2 n o0 n 0 M
set_option maxRecDepth 20000 in
theorem w_X5_givesUp (d : Nat) (hd : 2 ≤ d) (n : Nat) (o0 : Nat) (h0 : isLw o0) (M : HMem) : GX iX5_givesUp d eI (f_X5_givesUp n o0 M) 0 [some (.inr (some o0)), none] [] M := by
  rw [f_X5_givesUp]
  refine gx_iconst (x := 0) (by decide) dX5_givesUp_0 ?_
  refine gx_istore_n (lv' := [some (.inr (some o0)), some (.inl 0)]) dX5_givesUp_1 (by decide) rfl ?_
  refine gx_mk (lv' := [some (.inr (some o0)), some (.inl 0)]) [true, true] rfl ?_
  exact w_X5_givesUp_L2 d hd n o0 h0 n 0 M
theorem c_X5_givesUp (d : Nat) (hd : 2 ≤ d) (n : Nat) (o0 : Nat) (h0 : isLw o0) (M : HMem) : MX iX5_givesUp d [.inr (some o0)] M eI (f_X5_givesUp n o0 M) := mx_of (by decide +kernel) (Nat.le_of_ble_eq_true rfl) rfl (w_X5_givesUp d hd n o0 h0 M)
-- X8_lose
def f_X8_lose (o0 : Nat) (v1 : Int32) (M : HMem) : Option HMem :=
  if (f_X11_isWithin v1 5) = 0 then
    (some M)
  else
    (if hib v1 6 then
    some (hset M (o0 + 4) (Int32.toNatClampNeg v1) 2)
    else none)
set_option maxRecDepth 20000 in
theorem w_X8_lose (d : Nat) (hd : 1 ≤ d) (o0 : Nat) (h0 : isPk o0) (v1 : Int32) (M : HMem) : GX iX8_lose d eV (f_X8_lose o0 v1 M) 0 [some (.inr (some o0)), some (.inl v1)] [] M := by
  rw [f_X8_lose]
  refine gx_iload_n dX8_lose_0 rfl ?_
  refine gx_iconst (x := 5) (by decide) dX8_lose_1 ?_
  refine gx_cS_it (av := [.inl v1, .inl 5]) (st := []) ml_X8_43 (by omega) (c_X11_isWithin (d - 1) (by omega) v1 5 M) rfl rfl (Nat.le_of_ble_eq_true rfl) dX8_lose_2 ?_
  refine gx_if_eq (tgt := 15) dX8_lose_5 (by decide) ?_ ?_
  · exact gx_vret rfl rfl dX8_lose_15
  refine gx_aload_n dX8_lose_8 rfl ?_
  refine gx_getR fl_X8_21 (shP h0) rfl dX8_lose_9 ?_
  refine gx_iload_n dX8_lose_12 rfl ?_
  refine gx_iconst (x := 2) (by decide) dX8_lose_13 ?_
  refine gx_iastore (shP4 h0) dX8_lose_14 ?_
  exact gx_vret rfl rfl dX8_lose_15
theorem c_X8_lose (d : Nat) (hd : 1 ≤ d) (o0 : Nat) (h0 : isPk o0) (v1 : Int32) (M : HMem) : MX iX8_lose d [.inr (some o0), .inl v1] M eV (f_X8_lose o0 v1 M) := mx_of (by decide +kernel) (Nat.le_of_ble_eq_true rfl) rfl (w_X8_lose d hd o0 h0 v1 M)
-- X5_worth
def f_X5_worth_L2 (n : Nat) (o0 : Nat) (v1 : Int32) (v2 : Int32) : Nat → Int32 → HMem → Option (Int32 × HMem)
  | 0, _, _ => none
  | k + 1, v3, M =>
    if (M o0 3) ≤ v3 then
      (some (0, M))
    else
      (if 16 ≤ v3 then
        (some (0, M))
      else
        (if hib v3 16 then
        if (M (o0 + 1) (Int32.toNatClampNeg v3)) = v1 then
          (if hib v3 16 then
          hb2 (f_X5_run n o0 (M (o0 + 3) (Int32.toNatClampNeg v3)) M) (fun x101 M102 =>
          if x101 = 0 then
            (f_X5_worth_L2 n o0 v1 v2 k (v3 + 1) M102)
          else
            (if hib v3 16 then
            hb2 (f_X5_run n o0 (M102 (o0 + 2) (Int32.toNatClampNeg v3)) M102) (fun x103 M104 =>
            some (hmax 0 (hmin v2 x103), M104))
            else none))
          else none)
        else
          (f_X5_worth_L2 n o0 v1 v2 k (v3 + 1) M)
        else none))
set_option maxRecDepth 20000 in
theorem w_X5_worth_L2 (d : Nat) (hd : 2 ≤ d) (n : Nat) (o0 : Nat) (h0 : isLw o0) (v1 : Int32) (v2 : Int32) : ∀ (k : Nat) (v3 : Int32) (M : HMem), GX iX5_worth d eI (f_X5_worth_L2 n o0 v1 v2 k v3 M) 2 [some (.inr (some o0)), some (.inl v1), some (.inl v2), some (.inl v3)] [] M := by
  intro k
  induction k with
  | zero => intro v3 M; exact gx_none
  | succ k ih =>
    intro v3 M
    rw [f_X5_worth_L2]
    refine gx_iload_n dX5_worth_2 rfl ?_
    refine gx_aload_n dX5_worth_3 rfl ?_
    refine gx_getI fl_X5_21 (shW h0) rfl dX5_worth_4 ?_
    refine gx_icmp_ge (tgt := 64) dX5_worth_7 (by decide) ?_ ?_
    · refine gx_iconst (x := 0) (by decide) dX5_worth_64 ?_
      exact gx_iret rfl rfl dX5_worth_65
    refine gx_iload_n dX5_worth_10 rfl ?_
    refine gx_bipush (x := 16) (by decide) dX5_worth_11 ?_
    refine gx_icmp_ge (tgt := 64) dX5_worth_13 (by decide) ?_ ?_
    · refine gx_iconst (x := 0) (by decide) dX5_worth_64 ?_
      exact gx_iret rfl rfl dX5_worth_65
    refine gx_aload_n dX5_worth_16 rfl ?_
    refine gx_getR fl_X5_11 (shW h0) rfl dX5_worth_17 ?_
    refine gx_iload_n dX5_worth_20 rfl ?_
    refine gx_iaload (shW1 h0) dX5_worth_21 ?_
    refine gx_iload_n dX5_worth_22 rfl ?_
    refine gx_icmp_ne (tgt := 58) dX5_worth_23 (by decide) ?_ ?_
    · refine gx_iinc (y := v3 + 1) (lv' := [some (.inr (some o0)), some (.inl v1), some (.inl v2), some (.inl (v3 + 1))]) dX5_worth_58 rfl rfl (by decide) rfl ?_
      refine gx_goto (tgt := 2) dX5_worth_61 (by decide) ?_
      refine gx_mk (lv' := [some (.inr (some o0)), some (.inl v1), some (.inl v2), some (.inl (v3 + 1))]) [true, true, true, true] rfl ?_
      exact ih (v3 + 1) M
    refine gx_aload_n dX5_worth_26 rfl ?_
    refine gx_aload_n dX5_worth_27 rfl ?_
    refine gx_getR fl_X5_18 (shW h0) rfl dX5_worth_28 ?_
    refine gx_iload_n dX5_worth_31 rfl ?_
    refine gx_iaload (shW3 h0) dX5_worth_32 ?_
    refine gx_cV_im (av := [.inl (M (o0 + 3) (Int32.toNatClampNeg v3))]) (st := []) ml_X5_46 (by omega) (shW h0) (c_X5_run (d - 1) (by omega) n o0 h0 (M (o0 + 3) (Int32.toNatClampNeg v3)) M) rfl rfl (Nat.le_of_ble_eq_true rfl) dX5_worth_33 (fun x101 M102 => ?_)
    refine gx_if_eq (tgt := 58) dX5_worth_36 (by decide) ?_ ?_
    · refine gx_iinc (y := v3 + 1) (lv' := [some (.inr (some o0)), some (.inl v1), some (.inl v2), some (.inl (v3 + 1))]) dX5_worth_58 rfl rfl (by decide) rfl ?_
      refine gx_goto (tgt := 2) dX5_worth_61 (by decide) ?_
      refine gx_mk (lv' := [some (.inr (some o0)), some (.inl v1), some (.inl v2), some (.inl (v3 + 1))]) [true, true, true, true] rfl ?_
      exact ih (v3 + 1) M102
    refine gx_iconst (x := 0) (by decide) dX5_worth_39 ?_
    refine gx_iload_n dX5_worth_40 rfl ?_
    refine gx_aload_n dX5_worth_41 rfl ?_
    refine gx_aload_n dX5_worth_42 rfl ?_
    refine gx_getR fl_X5_15 (shW h0) rfl dX5_worth_43 ?_
    refine gx_iload_n dX5_worth_46 rfl ?_
    refine gx_iaload (shW2 h0) dX5_worth_47 ?_
    refine gx_cV_im (av := [.inl (M102 (o0 + 2) (Int32.toNatClampNeg v3))]) (st := [.inl v2, .inl 0]) ml_X5_46 (by omega) (shW h0) (c_X5_run (d - 1) (by omega) n o0 h0 (M102 (o0 + 2) (Int32.toNatClampNeg v3)) M102) rfl rfl (Nat.le_of_ble_eq_true rfl) dX5_worth_48 (fun x103 M104 => ?_)
    refine gx_min mw830 mw717 mw189 mcode_min (by omega) (Nat.le_of_ble_eq_true rfl) dX5_worth_51 ?_
    refine gx_max mw831 mw832 mw189 mcode_max (by omega) (Nat.le_of_ble_eq_true rfl) dX5_worth_54 ?_
    exact gx_iret rfl rfl dX5_worth_57
def f_X5_worth (n : Nat) (o0 : Nat) (v1 : Int32) (v2 : Int32) (M : HMem) : Option (Int32 × HMem) :=
  f_X5_worth_L2 n o0 v1 v2 n 0 M
set_option maxRecDepth 20000 in
theorem w_X5_worth (d : Nat) (hd : 2 ≤ d) (n : Nat) (o0 : Nat) (h0 : isLw o0) (v1 : Int32) (v2 : Int32) (M : HMem) : GX iX5_worth d eI (f_X5_worth n o0 v1 v2 M) 0 [some (.inr (some o0)), some (.inl v1), some (.inl v2), none] [] M := by
  rw [f_X5_worth]
  refine gx_iconst (x := 0) (by decide) dX5_worth_0 ?_
  refine gx_istore_n (lv' := [some (.inr (some o0)), some (.inl v1), some (.inl v2), some (.inl 0)]) dX5_worth_1 (by decide) rfl ?_
  refine gx_mk (lv' := [some (.inr (some o0)), some (.inl v1), some (.inl v2), some (.inl 0)]) [true, true, true, true] rfl ?_
  exact w_X5_worth_L2 d hd n o0 h0 v1 v2 n 0 M
theorem c_X5_worth (d : Nat) (hd : 2 ≤ d) (n : Nat) (o0 : Nat) (h0 : isLw o0) (v1 : Int32) (v2 : Int32) (M : HMem) : MX iX5_worth d [.inr (some o0), .inl v1, .inl v2] M eI (f_X5_worth n o0 v1 v2 M) := mx_of (by decide +kernel) (Nat.le_of_ble_eq_true rfl) rfl (w_X5_worth d hd n o0 h0 v1 v2 M)
-- X8_draw
def f_X8_draw (o0 : Nat) (M : HMem) : Option (Int32 × HMem) :=
  hb1 (some (hset M o0 5 (((25173 * (M o0 5)) + 13849) - ((25173 * (M o0 5)) + 13849) / 65536 * 65536))) (fun M101 =>
  some ((M101 o0 5) - (M101 o0 5) / 10 * 10, M101))
set_option maxRecDepth 20000 in
theorem w_X8_draw (d : Nat) (hd : 0 ≤ d) (o0 : Nat) (h0 : isPk o0) (M : HMem) : GX iX8_draw d eI (f_X8_draw o0 M) 0 [some (.inr (some o0))] [] M := by
  rw [f_X8_draw]
  refine gx_aload_n dX8_draw_0 rfl ?_
  refine gx_sipush (x := 25173) (by decide) dX8_draw_1 ?_
  refine gx_aload_n dX8_draw_4 rfl ?_
  refine gx_getI fl_X8_28 (shP h0) rfl dX8_draw_5 ?_
  refine gx_imul dX8_draw_8 ?_
  refine gx_sipush (x := 13849) (by decide) dX8_draw_9 ?_
  refine gx_iadd dX8_draw_12 ?_
  refine gx_ldc (x := 65536) mw838 dX8_draw_13 ?_
  refine gx_iremL (by decide) dX8_draw_15 ?_
  refine gx_putI fl_X8_28 fp_X8_5 (shP h0) rfl dX8_draw_16 ?_
  refine gx_aload_n dX8_draw_19 rfl ?_
  refine gx_nm (fun M101 => ?_)
  refine gx_getI fl_X8_28 (shP h0) rfl dX8_draw_20 ?_
  refine gx_bipush (x := 10) (by decide) dX8_draw_23 ?_
  refine gx_iremL (by decide) dX8_draw_25 ?_
  exact gx_iret rfl rfl dX8_draw_26
theorem c_X8_draw (d : Nat) (hd : 0 ≤ d) (o0 : Nat) (h0 : isPk o0) (M : HMem) : MX iX8_draw d [.inr (some o0)] M eI (f_X8_draw o0 M) := mx_of (by decide +kernel) (Nat.le_of_ble_eq_true rfl) rfl (w_X8_draw d hd o0 h0 M)
-- X8_timeOf
def f_X8_timeOf (o0 : Nat) (v1 : Int32) (M : HMem) : Option Int32 :=
  if (f_X11_isWithin v1 5) = 0 then
    (some 10000)
  else
    (if hib v1 6 then
    some (M (o0 + 2) (Int32.toNatClampNeg v1))
    else none)
set_option maxRecDepth 20000 in
theorem w_X8_timeOf (d : Nat) (hd : 1 ≤ d) (o0 : Nat) (h0 : isPk o0) (v1 : Int32) (M : HMem) : GX iX8_timeOf d (eP M) (f_X8_timeOf o0 v1 M) 0 [some (.inr (some o0)), some (.inl v1)] [] M := by
  rw [f_X8_timeOf]
  refine gx_iload_n dX8_timeOf_0 rfl ?_
  refine gx_iconst (x := 5) (by decide) dX8_timeOf_1 ?_
  refine gx_cS_it (av := [.inl v1, .inl 5]) (st := []) ml_X8_43 (by omega) (c_X11_isWithin (d - 1) (by omega) v1 5 M) rfl rfl (Nat.le_of_ble_eq_true rfl) dX8_timeOf_2 ?_
  refine gx_if_eq (tgt := 17) dX8_timeOf_5 (by decide) ?_ ?_
  · refine gx_sipush (x := 10000) (by decide) dX8_timeOf_17 ?_
    exact gx_iret rfl rfl dX8_timeOf_20
  refine gx_aload_n dX8_timeOf_8 rfl ?_
  refine gx_getR fl_X8_15 (shP h0) rfl dX8_timeOf_9 ?_
  refine gx_iload_n dX8_timeOf_12 rfl ?_
  refine gx_iaload (shP2 h0) dX8_timeOf_13 ?_
  refine gx_goto (tgt := 20) dX8_timeOf_14 (by decide) ?_
  exact gx_iret rfl rfl dX8_timeOf_20
theorem c_X8_timeOf (d : Nat) (hd : 1 ≤ d) (o0 : Nat) (h0 : isPk o0) (v1 : Int32) (M : HMem) : MX iX8_timeOf d [.inr (some o0), .inl v1] M (eP M) (f_X8_timeOf o0 v1 M) := mx_of (by decide +kernel) (Nat.le_of_ble_eq_true rfl) rfl (w_X8_timeOf d hd o0 h0 v1 M)
-- X11_wayTo
def f_X11_wayTo (v0 : Int32) (v1 : Int32) : Int32 :=
  if (v1 - v0) = (-16) then
    (1)
  else if (v1 - v0) = (-1) then
    (if (v0 &&& 15) ≤ 0 then
      ((-1))
    else
      (4))
  else if (v1 - v0) = 0 then
    (0)
  else if (v1 - v0) = 1 then
    (if 15 ≤ (v0 &&& 15) then
      ((-1))
    else
      (2))
  else if (v1 - v0) = 16 then
    (3)
  else ((-1))
set_option maxRecDepth 20000 in
theorem w_X11_wayTo (d : Nat) (hd : 0 ≤ d) (v0 : Int32) (v1 : Int32) (M : HMem) : GX iX11_wayTo d (eP M) (some (f_X11_wayTo v0 v1)) 0 [some (.inl v0), some (.inl v1)] [] M := by
  rw [f_X11_wayTo]
  refine gx_iload_n dX11_wayTo_0 rfl ?_
  refine gx_iload_n dX11_wayTo_1 rfl ?_
  refine gx_isub dX11_wayTo_2 ?_
  refine gxt_swL (k := (-16)) (kI := -16) (off := 51) (tgt := 54) (by decide) dX11_wayTo_3 (by decide) (by decide) (by decide) ?_ (fun q3_m16 => ?_)
  · refine gx_iconst (x := 1) (by decide) dX11_wayTo_54 ?_
    exact gx_iret rfl rfl dX11_wayTo_55
  refine gxt_swL (k := (-1)) (kI := -1) (off := 70) (tgt := 73) (by decide) dX11_wayTo_3 (by decide) (by decide) (by decide) ?_ (fun q3_m1 => ?_)
  · refine gx_iload_n dX11_wayTo_73 rfl ?_
    refine gx_bipush (x := 15) (by decide) dX11_wayTo_74 ?_
    refine gx_iand dX11_wayTo_76 ?_
    refine gxt_if_le (tgt := 84) dX11_wayTo_77 (by decide) ?_ ?_
    · refine gx_iconst (x := (-1)) (by decide) dX11_wayTo_84 ?_
      exact gx_iret rfl rfl dX11_wayTo_85
    refine gx_iconst (x := 4) (by decide) dX11_wayTo_80 ?_
    refine gx_goto (tgt := 85) dX11_wayTo_81 (by decide) ?_
    exact gx_iret rfl rfl dX11_wayTo_85
  refine gxt_swL (k := 0) (kI := 0) (off := 49) (tgt := 52) (by decide) dX11_wayTo_3 (by decide) (by decide) (by decide) ?_ (fun q3_0 => ?_)
  · refine gx_iconst (x := 0) (by decide) dX11_wayTo_52 ?_
    exact gx_iret rfl rfl dX11_wayTo_53
  refine gxt_swL (k := 1) (kI := 1) (off := 53) (tgt := 56) (by decide) dX11_wayTo_3 (by decide) (by decide) (by decide) ?_ (fun q3_1 => ?_)
  · refine gx_iload_n dX11_wayTo_56 rfl ?_
    refine gx_bipush (x := 15) (by decide) dX11_wayTo_57 ?_
    refine gx_iand dX11_wayTo_59 ?_
    refine gx_bipush (x := 15) (by decide) dX11_wayTo_60 ?_
    refine gxt_icmp_ge (tgt := 69) dX11_wayTo_62 (by decide) ?_ ?_
    · refine gx_iconst (x := (-1)) (by decide) dX11_wayTo_69 ?_
      exact gx_iret rfl rfl dX11_wayTo_70
    refine gx_iconst (x := 2) (by decide) dX11_wayTo_65 ?_
    refine gx_goto (tgt := 70) dX11_wayTo_66 (by decide) ?_
    exact gx_iret rfl rfl dX11_wayTo_70
  refine gxt_swL (k := 16) (kI := 16) (off := 68) (tgt := 71) (by decide) dX11_wayTo_3 (by decide) (by decide) (by decide) ?_ (fun q3_16 => ?_)
  · refine gx_iconst (x := 3) (by decide) dX11_wayTo_71 ?_
    exact gx_iret rfl rfl dX11_wayTo_72
  refine gx_swLd (tgt := 86) dX11_wayTo_3 (by decide) (by show Op.lookupswitch.offset [(-16, 51), (-1, 70), (0, 49), (1, 53), (16, 68)] 83 _ = 83; rw [lv_osw q3_m16 (by decide), lv_osw q3_m1 (by decide), lv_osw q3_0 (by decide), lv_osw q3_1 (by decide), lv_osw q3_16 (by decide)]; rfl) (by decide) ?_
  refine gx_iconst (x := (-1)) (by decide) dX11_wayTo_86 ?_
  exact gx_iret rfl rfl dX11_wayTo_87
theorem c_X11_wayTo (d : Nat) (hd : 0 ≤ d) (v0 : Int32) (v1 : Int32) (M : HMem) : MX iX11_wayTo d [.inl v0, .inl v1] M (eP M) (some (f_X11_wayTo v0 v1)) := mx_of (by decide +kernel) (Nat.le_of_ble_eq_true rfl) rfl (w_X11_wayTo d hd v0 v1 M)
-- X2_isBetter
def f_X2_isBetter (v1 : Int32) (v2 : Int32) (v3 : Int32) (M : HMem) : Int32 :=
  if v1 = (M 31 2) then
    (if v1 = 0 then
      (if v1 ≤ (M 31 2) then
        (0)
      else
        (1))
    else
      (if (M 31 3) < v2 then
        (1)
      else
        (if v2 = (M 31 3) then
          (if (M 31 4) ≤ v3 then
            (0)
          else
            (1))
        else
          (0))))
  else
    (if v1 ≤ (M 31 2) then
      (0)
    else
      (1))
set_option maxRecDepth 20000 in
theorem w_X2_isBetter (d : Nat) (hd : 0 ≤ d) (v1 : Int32) (v2 : Int32) (v3 : Int32) (M : HMem) : GX iX2_isBetter d (eP M) (some (f_X2_isBetter v1 v2 v3 M)) 0 [some (.inr (some 31)), some (.inl v1), some (.inl v2), some (.inl v3)] [] M := by
  rw [f_X2_isBetter]
  refine gx_iload_n dX2_isBetter_0 rfl ?_
  refine gx_aload_n dX2_isBetter_1 rfl ?_
  refine gx_getI fl_X2_9 sh31 rfl dX2_isBetter_2 ?_
  refine gxt_icmp_ne (tgt := 12) dX2_isBetter_5 (by decide) ?_ ?_
  · refine gx_iload_n dX2_isBetter_12 rfl ?_
    refine gx_aload_n dX2_isBetter_13 rfl ?_
    refine gx_getI fl_X2_9 sh31 rfl dX2_isBetter_14 ?_
    refine gxt_icmp_le (tgt := 24) dX2_isBetter_17 (by decide) ?_ ?_
    · refine gx_iconst (x := 0) (by decide) dX2_isBetter_24 ?_
      exact gx_zret rfl (by decide) rfl dX2_isBetter_25
    refine gx_iconst (x := 1) (by decide) dX2_isBetter_20 ?_
    refine gx_goto (tgt := 25) dX2_isBetter_21 (by decide) ?_
    exact gx_zret rfl (by decide) rfl dX2_isBetter_25
  refine gx_iload_n dX2_isBetter_8 rfl ?_
  refine gxt_if_ne (tgt := 26) dX2_isBetter_9 (by decide) ?_ ?_
  · refine gx_iload_n dX2_isBetter_26 rfl ?_
    refine gx_aload_n dX2_isBetter_27 rfl ?_
    refine gx_getI fl_X2_15 sh31 rfl dX2_isBetter_28 ?_
    refine gxt_icmp_gt (tgt := 50) dX2_isBetter_31 (by decide) ?_ ?_
    · refine gx_iconst (x := 1) (by decide) dX2_isBetter_50 ?_
      refine gx_goto (tgt := 55) dX2_isBetter_51 (by decide) ?_
      exact gx_zret rfl (by decide) rfl dX2_isBetter_55
    refine gx_iload_n dX2_isBetter_34 rfl ?_
    refine gx_aload_n dX2_isBetter_35 rfl ?_
    refine gx_getI fl_X2_15 sh31 rfl dX2_isBetter_36 ?_
    refine gxt_icmp_ne (tgt := 54) dX2_isBetter_39 (by decide) ?_ ?_
    · refine gx_iconst (x := 0) (by decide) dX2_isBetter_54 ?_
      exact gx_zret rfl (by decide) rfl dX2_isBetter_55
    refine gx_iload_n dX2_isBetter_42 rfl ?_
    refine gx_aload_n dX2_isBetter_43 rfl ?_
    refine gx_getI fl_X2_18 sh31 rfl dX2_isBetter_44 ?_
    refine gxt_icmp_ge (tgt := 54) dX2_isBetter_47 (by decide) ?_ ?_
    · refine gx_iconst (x := 0) (by decide) dX2_isBetter_54 ?_
      exact gx_zret rfl (by decide) rfl dX2_isBetter_55
    refine gx_iconst (x := 1) (by decide) dX2_isBetter_50 ?_
    refine gx_goto (tgt := 55) dX2_isBetter_51 (by decide) ?_
    exact gx_zret rfl (by decide) rfl dX2_isBetter_55
  refine gx_iload_n dX2_isBetter_12 rfl ?_
  refine gx_aload_n dX2_isBetter_13 rfl ?_
  refine gx_getI fl_X2_9 sh31 rfl dX2_isBetter_14 ?_
  refine gxt_icmp_le (tgt := 24) dX2_isBetter_17 (by decide) ?_ ?_
  · refine gx_iconst (x := 0) (by decide) dX2_isBetter_24 ?_
    exact gx_zret rfl (by decide) rfl dX2_isBetter_25
  refine gx_iconst (x := 1) (by decide) dX2_isBetter_20 ?_
  refine gx_goto (tgt := 25) dX2_isBetter_21 (by decide) ?_
  exact gx_zret rfl (by decide) rfl dX2_isBetter_25
theorem c_X2_isBetter (d : Nat) (hd : 0 ≤ d) (v1 : Int32) (v2 : Int32) (v3 : Int32) (M : HMem) : MX iX2_isBetter d [.inr (some 31), .inl v1, .inl v2, .inl v3] M (eP M) (some (f_X2_isBetter v1 v2 v3 M)) := mx_of (by decide +kernel) (Nat.le_of_ble_eq_true rfl) rfl (w_X2_isBetter d hd v1 v2 v3 M)
-- X2_weigh
def f_X2_weigh_L51 (n : Nat) (o1 : Nat) (v2 : Int32) (v3 : Int32) (o4 : Nat) (v5 : Int32) : Nat → Int32 → HMem → Option HMem
  | 0, _, _ => none
  | k + 1, v7, M =>
    if v7 < (M o4 3) then
      (some M)
    else
      (if 0 < (f_X0_strength v7 (M o1 4) M) then
        (hb1 (f_X1_placeAt o4 v7 M) (fun x101 =>
        if (f_X11_wayTo v5 x101) = (-1) then
          (f_X2_weigh_L51 n o1 v2 v3 o4 v5 k (v7 + (-1)) M)
        else
          (hb1 (f_X3_isWater 5 x101 M) (fun x102 =>
          if x102 = 0 then
            (hb1 (f_X5_put 23 1 v3 M) (fun M103 =>
            hb1 (f_X5_put 23 2 ((M103 o1 4) - v7) M103) (fun M104 =>
            hb1 (f_X5_put 23 3 (f_X0_strength v7 (M o1 4) M) M104) (fun M105 =>
            hb1 (f_X8_timeOf o1 v2 M105) (fun x106 =>
            hb1 (f_X5_put 23 4 (x106 - v7) M105) (fun M107 =>
            hb1 (f_X8_houndsAt n o1 x101 M107) (fun x108 =>
            hb1 (f_X5_put 23 6 x108 M107) (fun M109 =>
            hb2 (f_X5_worth n 23 101 9999 M109) (fun x110 M111 =>
            if (f_X2_isBetter x110 v7 (f_X11_wayTo v5 x101) M111) = 0 then
              (f_X2_weigh_L51 n o1 v2 v3 o4 v5 k (v7 + (-1)) M111)
            else
              (f_X2_weigh_L51 n o1 v2 v3 o4 v5 k (v7 + (-1)) (hset (hset (hset (hset M111 31 2 x110) 31 3 v7) 31 4 (f_X11_wayTo v5 x101)) 31 5 v3)))))))))))
          else
            (f_X2_weigh_L51 n o1 v2 v3 o4 v5 k (v7 + (-1)) M)))))
      else
        (some M))
set_option maxRecDepth 20000 in
theorem w_X2_weigh_L51 (d : Nat) (hd : 3 ≤ d) (n : Nat) (o1 : Nat) (h1 : isPk o1) (v2 : Int32) (v3 : Int32) (o4 : Nat) (h4 : isCo o4) (v5 : Int32) : ∀ (k : Nat) (v7 : Int32) (M : HMem), GX iX2_weigh d eV (f_X2_weigh_L51 n o1 v2 v3 o4 v5 k v7 M) 51 [some (.inr (some 31)), some (.inr (some o1)), some (.inl v2), some (.inl v3), some (.inr (some o4)), some (.inl v5), none, some (.inl v7), none, none, none, none] [] M := by
  intro k
  induction k with
  | zero => intro v7 M; exact gx_none
  | succ k ih =>
    intro v7 M
    rw [f_X2_weigh_L51]
    refine gx_iload dX2_weigh_51 rfl ?_
    refine gx_aload dX2_weigh_53 rfl ?_
    refine gx_getI fl_X2_93 (shC h4) rfl dX2_weigh_55 ?_
    refine gx_icmp_lt (tgt := 245) dX2_weigh_58 (by decide) ?_ ?_
    · exact gx_vret rfl rfl dX2_weigh_245
    refine gx_aload_n dX2_weigh_61 rfl ?_
    refine gx_getR fl_X2_24 sh31 rfl dX2_weigh_62 ?_
    refine gx_iload dX2_weigh_65 rfl ?_
    refine gx_aload_n dX2_weigh_67 rfl ?_
    refine gx_getI fl_X2_42 (shP h1) rfl dX2_weigh_68 ?_
    refine gx_cV_it (av := [.inl v7, .inl (M o1 4)]) (st := []) ml_X2_116 (by omega) sh3 (c_X0_strength (d - 1) (by omega) v7 (M o1 4) M) rfl rfl (Nat.le_of_ble_eq_true rfl) dX2_weigh_71 ?_
    refine gx_istore (lv' := [some (.inr (some 31)), some (.inr (some o1)), some (.inl v2), some (.inl v3), some (.inr (some o4)), some (.inl v5), none, some (.inl v7), some (.inl (f_X0_strength v7 (M o1 4) M)), none, none, none]) dX2_weigh_74 (by decide) rfl ?_
    refine gx_iload dX2_weigh_76 rfl ?_
    refine gx_if_gt (tgt := 82) dX2_weigh_78 (by decide) ?_ ?_
    · refine gx_aload dX2_weigh_82 rfl ?_
      refine gx_iload dX2_weigh_84 rfl ?_
      refine gx_cV_ip (av := [.inl v7]) (st := []) ml_X2_98 (by omega) (shC h4) (c_X1_placeAt (d - 1) (by omega) o4 h4 v7 M) rfl rfl (Nat.le_of_ble_eq_true rfl) dX2_weigh_86 (fun x101 => ?_)
      refine gx_istore (lv' := [some (.inr (some 31)), some (.inr (some o1)), some (.inl v2), some (.inl v3), some (.inr (some o4)), some (.inl v5), none, some (.inl v7), some (.inl (f_X0_strength v7 (M o1 4) M)), some (.inl x101), none, none]) dX2_weigh_89 (by decide) rfl ?_
      refine gx_iload dX2_weigh_91 rfl ?_
      refine gx_iload dX2_weigh_93 rfl ?_
      refine gx_cS_it (av := [.inl v5, .inl x101]) (st := []) ml_X2_119 (by omega) (c_X11_wayTo (d - 1) (by omega) v5 x101 M) rfl rfl (Nat.le_of_ble_eq_true rfl) dX2_weigh_95 ?_
      refine gx_istore (lv' := [some (.inr (some 31)), some (.inr (some o1)), some (.inl v2), some (.inl v3), some (.inr (some o4)), some (.inl v5), none, some (.inl v7), some (.inl (f_X0_strength v7 (M o1 4) M)), some (.inl x101), some (.inl (f_X11_wayTo v5 x101)), none]) dX2_weigh_98 (by decide) rfl ?_
      refine gx_iload dX2_weigh_100 rfl ?_
      refine gx_iconst (x := (-1)) (by decide) dX2_weigh_102 ?_
      refine gx_icmp_eq (tgt := 239) dX2_weigh_103 (by decide) ?_ ?_
      · refine gx_iinc (y := v7 + (-1)) (lv' := [some (.inr (some 31)), some (.inr (some o1)), some (.inl v2), some (.inl v3), some (.inr (some o4)), some (.inl v5), none, some (.inl (v7 + (-1))), some (.inl (f_X0_strength v7 (M o1 4) M)), some (.inl x101), some (.inl (f_X11_wayTo v5 x101)), none]) dX2_weigh_239 rfl rfl (by decide) rfl ?_
        refine gx_goto (tgt := 51) dX2_weigh_242 (by decide) ?_
        refine gx_mk (lv' := [some (.inr (some 31)), some (.inr (some o1)), some (.inl v2), some (.inl v3), some (.inr (some o4)), some (.inl v5), none, some (.inl (v7 + (-1))), none, none, none, none]) [true, true, true, true, true, true, false, true, false, false, false, false] rfl ?_
        exact ih (v7 + (-1)) M
      refine gx_aload_n dX2_weigh_106 rfl ?_
      refine gx_getR fl_X2_24 sh31 rfl dX2_weigh_107 ?_
      refine gx_getR fl_X2_122 sh3 rfl dX2_weigh_110 ?_
      refine gx_iload dX2_weigh_113 rfl ?_
      refine gx_cV_ip (av := [.inl x101]) (st := []) ml_X2_126 (by omega) sh5 (c_X3_isWater (d - 1) (by omega) 5 (Or.inl rfl) x101 M) rfl rfl (Nat.le_of_ble_eq_true rfl) dX2_weigh_115 (fun x102 => ?_)
      refine gx_if_eq (tgt := 124) dX2_weigh_118 (by decide) ?_ ?_
      · refine gx_aload_n dX2_weigh_124 rfl ?_
        refine gx_getR fl_X2_28 sh31 rfl dX2_weigh_125 ?_
        refine gx_iconst (x := 1) (by decide) dX2_weigh_128 ?_
        refine gx_iload_n dX2_weigh_129 rfl ?_
        refine gx_cV_vm (av := [.inl 1, .inl v3]) (st := []) ml_X2_47 (by omega) sh23 (c_X5_put (d - 1) (by omega) 23 (Or.inr rfl) 1 v3 M) rfl rfl (Nat.le_of_ble_eq_true rfl) dX2_weigh_130 (fun M103 => ?_)
        refine gx_aload_n dX2_weigh_133 rfl ?_
        refine gx_getR fl_X2_28 sh31 rfl dX2_weigh_134 ?_
        refine gx_iconst (x := 2) (by decide) dX2_weigh_137 ?_
        refine gx_aload_n dX2_weigh_138 rfl ?_
        refine gx_getI fl_X2_42 (shP h1) rfl dX2_weigh_139 ?_
        refine gx_iload dX2_weigh_142 rfl ?_
        refine gx_isub dX2_weigh_144 ?_
        refine gx_cV_vm (av := [.inl 2, .inl ((M103 o1 4) - v7)]) (st := []) ml_X2_47 (by omega) sh23 (c_X5_put (d - 1) (by omega) 23 (Or.inr rfl) 2 ((M103 o1 4) - v7) M103) rfl rfl (Nat.le_of_ble_eq_true rfl) dX2_weigh_145 (fun M104 => ?_)
        refine gx_aload_n dX2_weigh_148 rfl ?_
        refine gx_getR fl_X2_28 sh31 rfl dX2_weigh_149 ?_
        refine gx_iconst (x := 3) (by decide) dX2_weigh_152 ?_
        refine gx_iload dX2_weigh_153 rfl ?_
        refine gx_cV_vm (av := [.inl 3, .inl (f_X0_strength v7 (M o1 4) M)]) (st := []) ml_X2_47 (by omega) sh23 (c_X5_put (d - 1) (by omega) 23 (Or.inr rfl) 3 (f_X0_strength v7 (M o1 4) M) M104) rfl rfl (Nat.le_of_ble_eq_true rfl) dX2_weigh_155 (fun M105 => ?_)
        refine gx_aload_n dX2_weigh_158 rfl ?_
        refine gx_getR fl_X2_28 sh31 rfl dX2_weigh_159 ?_
        refine gx_iconst (x := 4) (by decide) dX2_weigh_162 ?_
        refine gx_aload_n dX2_weigh_163 rfl ?_
        refine gx_iload_n dX2_weigh_164 rfl ?_
        refine gx_cV_ip (av := [.inl v2]) (st := [.inl 4, .inr (some 23)]) ml_X2_113 (by omega) (shP h1) (c_X8_timeOf (d - 1) (by omega) o1 h1 v2 M105) rfl rfl (Nat.le_of_ble_eq_true rfl) dX2_weigh_165 (fun x106 => ?_)
        refine gx_iload dX2_weigh_168 rfl ?_
        refine gx_isub dX2_weigh_170 ?_
        refine gx_cV_vm (av := [.inl 4, .inl (x106 - v7)]) (st := []) ml_X2_47 (by omega) sh23 (c_X5_put (d - 1) (by omega) 23 (Or.inr rfl) 4 (x106 - v7) M105) rfl rfl (Nat.le_of_ble_eq_true rfl) dX2_weigh_171 (fun M107 => ?_)
        refine gx_aload_n dX2_weigh_174 rfl ?_
        refine gx_getR fl_X2_28 sh31 rfl dX2_weigh_175 ?_
        refine gx_bipush (x := 6) (by decide) dX2_weigh_178 ?_
        refine gx_aload_n dX2_weigh_180 rfl ?_
        refine gx_iload dX2_weigh_181 rfl ?_
        refine gx_cV_ip (av := [.inl x101]) (st := [.inl 6, .inr (some 23)]) ml_X2_57 (by omega) (shP h1) (c_X8_houndsAt (d - 1) (by omega) n o1 h1 x101 M107) rfl rfl (Nat.le_of_ble_eq_true rfl) dX2_weigh_183 (fun x108 => ?_)
        refine gx_cV_vm (av := [.inl 6, .inl x108]) (st := []) ml_X2_47 (by omega) sh23 (c_X5_put (d - 1) (by omega) 23 (Or.inr rfl) 6 x108 M107) rfl rfl (Nat.le_of_ble_eq_true rfl) dX2_weigh_186 (fun M109 => ?_)
        refine gx_aload_n dX2_weigh_189 rfl ?_
        refine gx_getR fl_X2_28 sh31 rfl dX2_weigh_190 ?_
        refine gx_bipush (x := 101) (by decide) dX2_weigh_193 ?_
        refine gx_sipush (x := 9999) (by decide) dX2_weigh_195 ?_
        refine gx_cV_im (av := [.inl 101, .inl 9999]) (st := []) ml_X2_68 (by omega) sh23 (c_X5_worth (d - 1) (by omega) n 23 (Or.inr rfl) 101 9999 M109) rfl rfl (Nat.le_of_ble_eq_true rfl) dX2_weigh_198 (fun x110 M111 => ?_)
        refine gx_istore (lv' := [some (.inr (some 31)), some (.inr (some o1)), some (.inl v2), some (.inl v3), some (.inr (some o4)), some (.inl v5), none, some (.inl v7), some (.inl (f_X0_strength v7 (M o1 4) M)), some (.inl x101), some (.inl (f_X11_wayTo v5 x101)), some (.inl x110)]) dX2_weigh_201 (by decide) rfl ?_
        refine gx_aload_n dX2_weigh_203 rfl ?_
        refine gx_iload dX2_weigh_204 rfl ?_
        refine gx_iload dX2_weigh_206 rfl ?_
        refine gx_iload dX2_weigh_208 rfl ?_
        refine gx_cV_it (av := [.inl x110, .inl v7, .inl (f_X11_wayTo v5 x101)]) (st := []) ml_X2_132 (by omega) sh31 (c_X2_isBetter (d - 1) (by omega) x110 v7 (f_X11_wayTo v5 x101) M111) rfl rfl (Nat.le_of_ble_eq_true rfl) dX2_weigh_210 ?_
        refine gx_if_eq (tgt := 239) dX2_weigh_213 (by decide) ?_ ?_
        · refine gx_iinc (y := v7 + (-1)) (lv' := [some (.inr (some 31)), some (.inr (some o1)), some (.inl v2), some (.inl v3), some (.inr (some o4)), some (.inl v5), none, some (.inl (v7 + (-1))), some (.inl (f_X0_strength v7 (M o1 4) M)), some (.inl x101), some (.inl (f_X11_wayTo v5 x101)), some (.inl x110)]) dX2_weigh_239 rfl rfl (by decide) rfl ?_
          refine gx_goto (tgt := 51) dX2_weigh_242 (by decide) ?_
          refine gx_mk (lv' := [some (.inr (some 31)), some (.inr (some o1)), some (.inl v2), some (.inl v3), some (.inr (some o4)), some (.inl v5), none, some (.inl (v7 + (-1))), none, none, none, none]) [true, true, true, true, true, true, false, true, false, false, false, false] rfl ?_
          exact ih (v7 + (-1)) M111
        refine gx_aload_n dX2_weigh_216 rfl ?_
        refine gx_iload dX2_weigh_217 rfl ?_
        refine gx_putI fl_X2_9 fp_X2_2 sh31 rfl dX2_weigh_219 ?_
        refine gx_aload_n dX2_weigh_222 rfl ?_
        refine gx_iload dX2_weigh_223 rfl ?_
        refine gx_putI fl_X2_15 fp_X2_3 sh31 rfl dX2_weigh_225 ?_
        refine gx_aload_n dX2_weigh_228 rfl ?_
        refine gx_iload dX2_weigh_229 rfl ?_
        refine gx_putI fl_X2_18 fp_X2_4 sh31 rfl dX2_weigh_231 ?_
        refine gx_aload_n dX2_weigh_234 rfl ?_
        refine gx_iload_n dX2_weigh_235 rfl ?_
        refine gx_putI fl_X2_21 fp_X2_5 sh31 rfl dX2_weigh_236 ?_
        refine gx_iinc (y := v7 + (-1)) (lv' := [some (.inr (some 31)), some (.inr (some o1)), some (.inl v2), some (.inl v3), some (.inr (some o4)), some (.inl v5), none, some (.inl (v7 + (-1))), some (.inl (f_X0_strength v7 (M o1 4) M)), some (.inl x101), some (.inl (f_X11_wayTo v5 x101)), some (.inl x110)]) dX2_weigh_239 rfl rfl (by decide) rfl ?_
        refine gx_goto (tgt := 51) dX2_weigh_242 (by decide) ?_
        refine gx_mk (lv' := [some (.inr (some 31)), some (.inr (some o1)), some (.inl v2), some (.inl v3), some (.inr (some o4)), some (.inl v5), none, some (.inl (v7 + (-1))), none, none, none, none]) [true, true, true, true, true, true, false, true, false, false, false, false] rfl ?_
        exact ih (v7 + (-1)) (hset (hset (hset (hset M111 31 2 x110) 31 3 v7) 31 4 (f_X11_wayTo v5 x101)) 31 5 v3)
      refine gx_goto (tgt := 239) dX2_weigh_121 (by decide) ?_
      refine gx_iinc (y := v7 + (-1)) (lv' := [some (.inr (some 31)), some (.inr (some o1)), some (.inl v2), some (.inl v3), some (.inr (some o4)), some (.inl v5), none, some (.inl (v7 + (-1))), some (.inl (f_X0_strength v7 (M o1 4) M)), some (.inl x101), some (.inl (f_X11_wayTo v5 x101)), none]) dX2_weigh_239 rfl rfl (by decide) rfl ?_
      refine gx_goto (tgt := 51) dX2_weigh_242 (by decide) ?_
      refine gx_mk (lv' := [some (.inr (some 31)), some (.inr (some o1)), some (.inl v2), some (.inl v3), some (.inr (some o4)), some (.inl v5), none, some (.inl (v7 + (-1))), none, none, none, none]) [true, true, true, true, true, true, false, true, false, false, false, false] rfl ?_
      exact ih (v7 + (-1)) M
    exact gx_vret rfl rfl dX2_weigh_81
def f_X2_weigh (n : Nat) (o1 : Nat) (v2 : Int32) (v3 : Int32) (M : HMem) : Option HMem :=
  hb1 (f_X0_laid v3 M) (fun r101 => match r101 with
    | none => (some M)
    | some o102 => (hb1 (f_X8_placeOfHound o1 v2 M) (fun x103 =>
      hb1 (f_X8_timeOf o1 v2 M) (fun x104 =>
      f_X2_weigh_L51 n o1 v2 v3 o102 x103 n (hmin (hmin (f_X1_last o102 M) (M o1 4)) (x104 - 1)) M))))
set_option maxRecDepth 20000 in
theorem w_X2_weigh (d : Nat) (hd : 3 ≤ d) (n : Nat) (o1 : Nat) (h1 : isPk o1) (v2 : Int32) (v3 : Int32) (M : HMem) : GX iX2_weigh d eV (f_X2_weigh n o1 v2 v3 M) 0 [some (.inr (some 31)), some (.inr (some o1)), some (.inl v2), some (.inl v3), none, none, none, none, none, none, none, none] [] M := by
  rw [f_X2_weigh]
  refine gx_aload_n dX2_weigh_0 rfl ?_
  refine gx_getR fl_X2_24 sh31 rfl dX2_weigh_1 ?_
  refine gx_iload_n dX2_weigh_4 rfl ?_
  refine gx_cV_rp (av := [.inl v3]) (st := []) ml_X2_87 (by omega) sh3 (c_X0_laid (d - 1) (by omega) v3 M) rfl rfl (Nat.le_of_ble_eq_true rfl) dX2_weigh_5 (fun r101 er101 => ?_)
  cases r101 with
  | none =>
    dsimp only
    refine gx_astoreN (lv' := [some (.inr (some 31)), some (.inr (some o1)), some (.inl v2), some (.inl v3), some (.inr none), none, none, none, none, none, none, none]) dX2_weigh_8 (by decide) rfl ?_
    refine gx_aloadN dX2_weigh_10 rfl ?_
    refine gx_ifnonnullN dX2_weigh_12 ?_
    exact gx_vret rfl rfl dX2_weigh_15
  | some o102 =>
    have ho102 := co_X0_laid er101
    dsimp only
    refine gx_astore (lv' := [some (.inr (some 31)), some (.inr (some o1)), some (.inl v2), some (.inl v3), some (.inr (some o102)), none, none, none, none, none, none, none]) dX2_weigh_8 (by decide) rfl ?_
    refine gx_aload dX2_weigh_10 rfl ?_
    refine gx_ifnonnullS (tgt := 16) dX2_weigh_12 (by decide) ?_
    refine gx_aload_n dX2_weigh_16 rfl ?_
    refine gx_iload_n dX2_weigh_17 rfl ?_
    refine gx_cV_ip (av := [.inl v2]) (st := []) ml_X2_54 (by omega) (shP h1) (c_X8_placeOfHound (d - 1) (by omega) o1 h1 v2 M) rfl rfl (Nat.le_of_ble_eq_true rfl) dX2_weigh_18 (fun x103 => ?_)
    refine gx_istore (lv' := [some (.inr (some 31)), some (.inr (some o1)), some (.inl v2), some (.inl v3), some (.inr (some o102)), some (.inl x103), none, none, none, none, none, none]) dX2_weigh_21 (by decide) rfl ?_
    refine gx_aload dX2_weigh_23 rfl ?_
    refine gx_cV_it (av := []) (st := []) ml_X2_105 (by omega) (shC ho102) (c_X1_last (d - 1) (by omega) o102 ho102 M) rfl rfl (Nat.le_of_ble_eq_true rfl) dX2_weigh_25 ?_
    refine gx_aload_n dX2_weigh_28 rfl ?_
    refine gx_getI fl_X2_42 (shP h1) rfl dX2_weigh_29 ?_
    refine gx_min mw856 mw717 mw189 mcode_min (by omega) (Nat.le_of_ble_eq_true rfl) dX2_weigh_32 ?_
    refine gx_aload_n dX2_weigh_35 rfl ?_
    refine gx_iload_n dX2_weigh_36 rfl ?_
    refine gx_cV_ip (av := [.inl v2]) (st := [.inl (hmin (f_X1_last o102 M) (M o1 4))]) ml_X2_113 (by omega) (shP h1) (c_X8_timeOf (d - 1) (by omega) o1 h1 v2 M) rfl rfl (Nat.le_of_ble_eq_true rfl) dX2_weigh_37 (fun x104 => ?_)
    refine gx_iconst (x := 1) (by decide) dX2_weigh_40 ?_
    refine gx_isub dX2_weigh_41 ?_
    refine gx_min mw856 mw717 mw189 mcode_min (by omega) (Nat.le_of_ble_eq_true rfl) dX2_weigh_42 ?_
    refine gx_istore (lv' := [some (.inr (some 31)), some (.inr (some o1)), some (.inl v2), some (.inl v3), some (.inr (some o102)), some (.inl x103), some (.inl (hmin (hmin (f_X1_last o102 M) (M o1 4)) (x104 - 1))), none, none, none, none, none]) dX2_weigh_45 (by decide) rfl ?_
    refine gx_iload dX2_weigh_47 rfl ?_
    refine gx_istore (lv' := [some (.inr (some 31)), some (.inr (some o1)), some (.inl v2), some (.inl v3), some (.inr (some o102)), some (.inl x103), some (.inl (hmin (hmin (f_X1_last o102 M) (M o1 4)) (x104 - 1))), some (.inl (hmin (hmin (f_X1_last o102 M) (M o1 4)) (x104 - 1))), none, none, none, none]) dX2_weigh_49 (by decide) rfl ?_
    refine gx_mk (lv' := [some (.inr (some 31)), some (.inr (some o1)), some (.inl v2), some (.inl v3), some (.inr (some o102)), some (.inl x103), none, some (.inl (hmin (hmin (f_X1_last o102 M) (M o1 4)) (x104 - 1))), none, none, none, none]) [true, true, true, true, true, true, false, true, false, false, false, false] rfl ?_
    exact w_X2_weigh_L51 d hd n o1 h1 v2 v3 o102 ho102 x103 n (hmin (hmin (f_X1_last o102 M) (M o1 4)) (x104 - 1)) M
theorem c_X2_weigh (d : Nat) (hd : 3 ≤ d) (n : Nat) (o1 : Nat) (h1 : isPk o1) (v2 : Int32) (v3 : Int32) (M : HMem) : MX iX2_weigh d [.inr (some 31), .inr (some o1), .inl v2, .inl v3] M eV (f_X2_weigh n o1 v2 v3 M) := mx_of (by decide +kernel) (Nat.le_of_ble_eq_true rfl) rfl (w_X2_weigh d hd n o1 h1 v2 v3 M)

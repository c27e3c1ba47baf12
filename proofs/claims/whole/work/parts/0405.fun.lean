-- X9_unloop
def f_X9_unloop_J72 (n : Nat) (r15 : Int32 → Int32 → HMem → Option (Int32 × HMem)) (o1 : Nat) (v2 : Int32) (v3 : Int32) (v4 : Int32) (v5 : Int32) (M : HMem) : Option (Int32 × HMem) :=
  if v5 ≤ 0 then
    (if 192 ≤ v2 then
      (r15 v2 (v3 + 1) M)
    else
      (if hib v2 192 then
      hb1 (f_X9_markPlace v4 (v2 + 1) (hset M 34 (Int32.toNatClampNeg v2) v4)) (fun M101 =>
      r15 (v2 + 1) (v3 + 1) M101)
      else none))
  else
    (r15 v5 (v3 + 1) M)
set_option maxRecDepth 20000 in
theorem w_X9_unloop_J72 (d : Nat) (hd : 2 ≤ d) (n : Nat) (r15 : Int32 → Int32 → HMem → Option (Int32 × HMem)) (M : HMem) (o1 : Nat) (h1 : isCo o1) (v2 : Int32) (v3 : Int32) (v4 : Int32) (v5 : Int32) (hr15 : ∀ (v2 : Int32) (v3 : Int32) (M : HMem), GX iX9_unloop d eI (r15 v2 v3 M) 15 [some (.inr (some 32)), some (.inr (some o1)), some (.inl v2), some (.inl v3), none, none, none] [] M) : GX iX9_unloop d eI (f_X9_unloop_J72 n r15 o1 v2 v3 v4 v5 M) 72 [some (.inr (some 32)), some (.inr (some o1)), some (.inl v2), some (.inl v3), some (.inl v4), some (.inl v5), none] [] M := by
  rw [f_X9_unloop_J72]
  refine gx_iload dX9_unloop_72 rfl ?_
  refine gx_if_le (tgt := 83) dX9_unloop_74 (by decide) ?_ ?_
  · refine gx_iload_n dX9_unloop_83 rfl ?_
    refine gx_sipush (x := 192) (by decide) dX9_unloop_84 ?_
    refine gx_icmp_ge (tgt := 108) dX9_unloop_87 (by decide) ?_ ?_
    · refine gx_iinc (y := v3 + 1) (lv' := [some (.inr (some 32)), some (.inr (some o1)), some (.inl v2), some (.inl (v3 + 1)), some (.inl v4), some (.inl v5), none]) dX9_unloop_108 rfl rfl (by decide) rfl ?_
      refine gx_goto (tgt := 15) dX9_unloop_111 (by decide) ?_
      refine gx_mk (lv' := [some (.inr (some 32)), some (.inr (some o1)), some (.inl v2), some (.inl (v3 + 1)), none, none, none]) [true, true, true, true, false, false, false] rfl ?_
      exact hr15 v2 (v3 + 1) M
    refine gx_aload_n dX9_unloop_90 rfl ?_
    refine gx_getR fl_X9_15 sh32 rfl dX9_unloop_91 ?_
    refine gx_iload_n dX9_unloop_94 rfl ?_
    refine gx_iload dX9_unloop_95 rfl ?_
    refine gx_iastore sh34 dX9_unloop_97 ?_
    refine gx_iinc (y := v2 + 1) (lv' := [some (.inr (some 32)), some (.inr (some o1)), some (.inl (v2 + 1)), some (.inl v3), some (.inl v4), some (.inl v5), none]) dX9_unloop_98 rfl rfl (by decide) rfl ?_
    refine gx_aload_n dX9_unloop_101 rfl ?_
    refine gx_iload dX9_unloop_102 rfl ?_
    refine gx_iload_n dX9_unloop_104 rfl ?_
    refine gx_cV_vm (av := [.inl v4, .inl (v2 + 1)]) (st := []) ml_X9_42 (by omega) sh32 (c_X9_markPlace (d - 1) (by omega) v4 (v2 + 1) (hset M 34 (Int32.toNatClampNeg v2) v4)) rfl rfl (Nat.le_of_ble_eq_true rfl) dX9_unloop_105 (fun M101 => ?_)
    refine gx_iinc (y := v3 + 1) (lv' := [some (.inr (some 32)), some (.inr (some o1)), some (.inl (v2 + 1)), some (.inl (v3 + 1)), some (.inl v4), some (.inl v5), none]) dX9_unloop_108 rfl rfl (by decide) rfl ?_
    refine gx_goto (tgt := 15) dX9_unloop_111 (by decide) ?_
    refine gx_mk (lv' := [some (.inr (some 32)), some (.inr (some o1)), some (.inl (v2 + 1)), some (.inl (v3 + 1)), none, none, none]) [true, true, true, true, false, false, false] rfl ?_
    exact hr15 (v2 + 1) (v3 + 1) M101
  refine gx_iload dX9_unloop_77 rfl ?_
  refine gx_istore_n (lv' := [some (.inr (some 32)), some (.inr (some o1)), some (.inl v5), some (.inl v3), some (.inl v4), some (.inl v5), none]) dX9_unloop_79 (by decide) rfl ?_
  refine gx_goto (tgt := 108) dX9_unloop_80 (by decide) ?_
  refine gx_iinc (y := v3 + 1) (lv' := [some (.inr (some 32)), some (.inr (some o1)), some (.inl v5), some (.inl (v3 + 1)), some (.inl v4), some (.inl v5), none]) dX9_unloop_108 rfl rfl (by decide) rfl ?_
  refine gx_goto (tgt := 15) dX9_unloop_111 (by decide) ?_
  refine gx_mk (lv' := [some (.inr (some 32)), some (.inr (some o1)), some (.inl v5), some (.inl (v3 + 1)), none, none, none]) [true, true, true, true, false, false, false] rfl ?_
  exact hr15 v5 (v3 + 1) M
def f_X9_unloop_L43 (n : Nat) (r15 : Int32 → Int32 → HMem → Option (Int32 × HMem)) (o1 : Nat) (v2 : Int32) (v3 : Int32) (v4 : Int32) (v5 : Int32) : Nat → Int32 → HMem → Option (Int32 × HMem)
  | 0, _, _ => none
  | k + 1, v6, M =>
    if v6 < v5 then
      (f_X9_unloop_J72 n r15 o1 v2 v3 v4 v5 M)
    else
      (if v5 ≤ 0 then
        (f_X9_unloop_J72 n r15 o1 v2 v3 v4 v5 M)
      else
        (hb1 (f_X9_rowAt v6 M) (fun x101 =>
        hb1 (f_X9_markPlace x101 0 M) (fun M102 =>
        f_X9_unloop_L43 n r15 o1 v2 v3 v4 v5 k (v6 + (-1)) M102))))
set_option maxRecDepth 20000 in
theorem w_X9_unloop_L43 (d : Nat) (hd : 2 ≤ d) (n : Nat) (r15 : Int32 → Int32 → HMem → Option (Int32 × HMem)) (o1 : Nat) (h1 : isCo o1) (v2 : Int32) (v3 : Int32) (v4 : Int32) (v5 : Int32) (hr15 : ∀ (v2 : Int32) (v3 : Int32) (M : HMem), GX iX9_unloop d eI (r15 v2 v3 M) 15 [some (.inr (some 32)), some (.inr (some o1)), some (.inl v2), some (.inl v3), none, none, none] [] M) : ∀ (k : Nat) (v6 : Int32) (M : HMem), GX iX9_unloop d eI (f_X9_unloop_L43 n r15 o1 v2 v3 v4 v5 k v6 M) 43 [some (.inr (some 32)), some (.inr (some o1)), some (.inl v2), some (.inl v3), some (.inl v4), some (.inl v5), some (.inl v6)] [] M := by
  intro k
  induction k with
  | zero => intro v6 M; exact gx_none
  | succ k ih =>
    intro v6 M
    rw [f_X9_unloop_L43]
    refine gx_iload dX9_unloop_43 rfl ?_
    refine gx_iload dX9_unloop_45 rfl ?_
    refine gx_icmp_lt (tgt := 72) dX9_unloop_47 (by decide) ?_ ?_
    · refine gx_mk (lv' := [some (.inr (some 32)), some (.inr (some o1)), some (.inl v2), some (.inl v3), some (.inl v4), some (.inl v5), none]) [true, true, true, true, true, true, false] rfl ?_
      exact w_X9_unloop_J72 d hd n r15 M o1 h1 v2 v3 v4 v5 hr15
    refine gx_iload dX9_unloop_50 rfl ?_
    refine gx_if_le (tgt := 72) dX9_unloop_52 (by decide) ?_ ?_
    · refine gx_mk (lv' := [some (.inr (some 32)), some (.inr (some o1)), some (.inl v2), some (.inl v3), some (.inl v4), some (.inl v5), none]) [true, true, true, true, true, true, false] rfl ?_
      exact w_X9_unloop_J72 d hd n r15 M o1 h1 v2 v3 v4 v5 hr15
    refine gx_aload_n dX9_unloop_55 rfl ?_
    refine gx_aload_n dX9_unloop_56 rfl ?_
    refine gx_iload dX9_unloop_57 rfl ?_
    refine gx_cV_ip (av := [.inl v6]) (st := [.inr (some 32)]) ml_X9_71 (by omega) sh32 (c_X9_rowAt (d - 1) (by omega) v6 M) rfl rfl (Nat.le_of_ble_eq_true rfl) dX9_unloop_59 (fun x101 => ?_)
    refine gx_iconst (x := 0) (by decide) dX9_unloop_62 ?_
    refine gx_cV_vm (av := [.inl x101, .inl 0]) (st := []) ml_X9_42 (by omega) sh32 (c_X9_markPlace (d - 1) (by omega) x101 0 M) rfl rfl (Nat.le_of_ble_eq_true rfl) dX9_unloop_63 (fun M102 => ?_)
    refine gx_iinc (y := v6 + (-1)) (lv' := [some (.inr (some 32)), some (.inr (some o1)), some (.inl v2), some (.inl v3), some (.inl v4), some (.inl v5), some (.inl (v6 + (-1)))]) dX9_unloop_66 rfl rfl (by decide) rfl ?_
    refine gx_goto (tgt := 43) dX9_unloop_69 (by decide) ?_
    refine gx_mk (lv' := [some (.inr (some 32)), some (.inr (some o1)), some (.inl v2), some (.inl v3), some (.inl v4), some (.inl v5), some (.inl (v6 + (-1)))]) [true, true, true, true, true, true, true] rfl ?_
    exact ih (v6 + (-1)) M102
def f_X9_unloop_L15 (n : Nat) (o1 : Nat) : Nat → Int32 → Int32 → HMem → Option (Int32 × HMem)
  | 0, _, _, _ => none
  | k + 1, v2, v3, M =>
    if (f_X1_last o1 M) < v3 then
      (some (v2, M))
    else
      (hb1 (f_X1_placeAt o1 v3 M) (fun x101 =>
      hb1 (f_X9_markAt x101 M) (fun x102 =>
      f_X9_unloop_L43 n (f_X9_unloop_L15 n o1 k) o1 v2 v3 x101 x102 n (v2 - 1) M)))
set_option maxRecDepth 20000 in
theorem w_X9_unloop_L15 (d : Nat) (hd : 2 ≤ d) (n : Nat) (o1 : Nat) (h1 : isCo o1) : ∀ (k : Nat) (v2 : Int32) (v3 : Int32) (M : HMem), GX iX9_unloop d eI (f_X9_unloop_L15 n o1 k v2 v3 M) 15 [some (.inr (some 32)), some (.inr (some o1)), some (.inl v2), some (.inl v3), none, none, none] [] M := by
  intro k
  induction k with
  | zero => intro v2 v3 M; exact gx_none
  | succ k ih =>
    intro v2 v3 M
    rw [f_X9_unloop_L15]
    refine gx_iload_n dX9_unloop_15 rfl ?_
    refine gx_aload_n dX9_unloop_16 rfl ?_
    refine gx_cV_it (av := []) (st := [.inl v3]) ml_X9_34 (by omega) (shC h1) (c_X1_last (d - 1) (by omega) o1 h1 M) rfl rfl (Nat.le_of_ble_eq_true rfl) dX9_unloop_17 ?_
    refine gx_icmp_gt (tgt := 114) dX9_unloop_20 (by decide) ?_ ?_
    · refine gx_iload_n dX9_unloop_114 rfl ?_
      exact gx_iret rfl rfl dX9_unloop_115
    refine gx_aload_n dX9_unloop_23 rfl ?_
    refine gx_iload_n dX9_unloop_24 rfl ?_
    refine gx_cV_ip (av := [.inl v3]) (st := []) ml_X9_38 (by omega) (shC h1) (c_X1_placeAt (d - 1) (by omega) o1 h1 v3 M) rfl rfl (Nat.le_of_ble_eq_true rfl) dX9_unloop_25 (fun x101 => ?_)
    refine gx_istore (lv' := [some (.inr (some 32)), some (.inr (some o1)), some (.inl v2), some (.inl v3), some (.inl x101), none, none]) dX9_unloop_28 (by decide) rfl ?_
    refine gx_aload_n dX9_unloop_30 rfl ?_
    refine gx_iload dX9_unloop_31 rfl ?_
    refine gx_cV_ip (av := [.inl x101]) (st := []) ml_X9_46 (by omega) sh32 (c_X9_markAt (d - 1) (by omega) x101 M) rfl rfl (Nat.le_of_ble_eq_true rfl) dX9_unloop_33 (fun x102 => ?_)
    refine gx_istore (lv' := [some (.inr (some 32)), some (.inr (some o1)), some (.inl v2), some (.inl v3), some (.inl x101), some (.inl x102), none]) dX9_unloop_36 (by decide) rfl ?_
    refine gx_iload_n dX9_unloop_38 rfl ?_
    refine gx_iconst (x := 1) (by decide) dX9_unloop_39 ?_
    refine gx_isub dX9_unloop_40 ?_
    refine gx_istore (lv' := [some (.inr (some 32)), some (.inr (some o1)), some (.inl v2), some (.inl v3), some (.inl x101), some (.inl x102), some (.inl (v2 - 1))]) dX9_unloop_41 (by decide) rfl ?_
    refine gx_mk (lv' := [some (.inr (some 32)), some (.inr (some o1)), some (.inl v2), some (.inl v3), some (.inl x101), some (.inl x102), some (.inl (v2 - 1))]) [true, true, true, true, true, true, true] rfl ?_
    exact w_X9_unloop_L43 d hd n (f_X9_unloop_L15 n o1 k) o1 h1 v2 v3 x101 x102 ih n (v2 - 1) M
def f_X9_unloop (n : Nat) (o1 : Nat) (M : HMem) : Option (Int32 × HMem) :=
  hb1 (f_J7_fill_53178 n 33 192 0 M) (fun M101 =>
  f_X9_unloop_L15 n o1 n 0 (M101 o1 3) M101)
set_option maxRecDepth 20000 in
theorem w_X9_unloop (d : Nat) (hd : 2 ≤ d) (n : Nat) (o1 : Nat) (h1 : isCo o1) (M : HMem) : GX iX9_unloop d eI (f_X9_unloop n o1 M) 0 [some (.inr (some 32)), some (.inr (some o1)), none, none, none, none, none] [] M := by
  rw [f_X9_unloop]
  refine gx_aload_n dX9_unloop_0 rfl ?_
  refine gx_getR fl_X9_9 sh32 rfl dX9_unloop_1 ?_
  refine gx_iconst (x := 0) (by decide) dX9_unloop_4 ?_
  refine gx_cS_vm (av := [.inr (some 33), .inl 0]) (st := []) ml_X9_22 (by omega) (c_J7_fill_53178 (d - 1) (by omega) n 33 192 sh33 0 M) rfl rfl (Nat.le_of_ble_eq_true rfl) dX9_unloop_5 (fun M101 => ?_)
  refine gx_iconst (x := 0) (by decide) dX9_unloop_8 ?_
  refine gx_istore_n (lv' := [some (.inr (some 32)), some (.inr (some o1)), some (.inl 0), none, none, none, none]) dX9_unloop_9 (by decide) rfl ?_
  refine gx_aload_n dX9_unloop_10 rfl ?_
  refine gx_getI fl_X9_28 (shC h1) rfl dX9_unloop_11 ?_
  refine gx_istore_n (lv' := [some (.inr (some 32)), some (.inr (some o1)), some (.inl 0), some (.inl (M101 o1 3)), none, none, none]) dX9_unloop_14 (by decide) rfl ?_
  refine gx_mk (lv' := [some (.inr (some 32)), some (.inr (some o1)), some (.inl 0), some (.inl (M101 o1 3)), none, none, none]) [true, true, true, true, false, false, false] rfl ?_
  exact w_X9_unloop_L15 d hd n o1 h1 n 0 (M101 o1 3) M101
theorem c_X9_unloop (d : Nat) (hd : 2 ≤ d) (n : Nat) (o1 : Nat) (h1 : isCo o1) (M : HMem) : MX iX9_unloop d [.inr (some 32), .inr (some o1)] M eI (f_X9_unloop n o1 M) := mx_of (by decide +kernel) (Nat.le_of_ble_eq_true rfl) rfl (w_X9_unloop d hd n o1 h1 M)
-- X9_paidInAll
def f_X9_paidInAll_L7 (n : Nat) (o1 : Nat) (M : HMem) : Nat → Int32 → Int32 → Option Int32
  | 0, _, _ => none
  | k + 1, v2, v3 =>
    if (f_X1_last o1 M) < v3 then
      (some v2)
    else
      (hb1 (f_X1_placeAt o1 v3 M) (fun x101 =>
      hb1 (f_X3_penceAt 5 x101 M) (fun x102 =>
      f_X9_paidInAll_L7 n o1 M k (v2 + x102) (v3 + 1))))
set_option maxRecDepth 20000 in
theorem w_X9_paidInAll_L7 (d : Nat) (hd : 2 ≤ d) (n : Nat) (M : HMem) (o1 : Nat) (h1 : isCo o1) : ∀ (k : Nat) (v2 : Int32) (v3 : Int32), GX iX9_paidInAll d (eP M) (f_X9_paidInAll_L7 n o1 M k v2 v3) 7 [some (.inr (some 32)), some (.inr (some o1)), some (.inl v2), some (.inl v3)] [] M := by
  intro k
  induction k with
  | zero => intro v2 v3; exact gx_none
  | succ k ih =>
    intro v2 v3
    rw [f_X9_paidInAll_L7]
    refine gx_iload_n dX9_paidInAll_7 rfl ?_
    refine gx_aload_n dX9_paidInAll_8 rfl ?_
    refine gx_cV_it (av := []) (st := [.inl v3]) ml_X9_34 (by omega) (shC h1) (c_X1_last (d - 1) (by omega) o1 h1 M) rfl rfl (Nat.le_of_ble_eq_true rfl) dX9_paidInAll_9 ?_
    refine gx_icmp_gt (tgt := 39) dX9_paidInAll_12 (by decide) ?_ ?_
    · refine gx_iload_n dX9_paidInAll_39 rfl ?_
      exact gx_iret rfl rfl dX9_paidInAll_40
    refine gx_iload_n dX9_paidInAll_15 rfl ?_
    refine gx_aload_n dX9_paidInAll_16 rfl ?_
    refine gx_getR fl_X9_18 sh32 rfl dX9_paidInAll_17 ?_
    refine gx_getR fl_X9_74 sh3 rfl dX9_paidInAll_20 ?_
    refine gx_aload_n dX9_paidInAll_23 rfl ?_
    refine gx_iload_n dX9_paidInAll_24 rfl ?_
    refine gx_cV_ip (av := [.inl v3]) (st := [.inr (some 5), .inl v2]) ml_X9_38 (by omega) (shC h1) (c_X1_placeAt (d - 1) (by omega) o1 h1 v3 M) rfl rfl (Nat.le_of_ble_eq_true rfl) dX9_paidInAll_25 (fun x101 => ?_)
    refine gx_cV_ip (av := [.inl x101]) (st := [.inl v2]) ml_X9_78 (by omega) sh5 (c_X3_penceAt (d - 1) (by omega) 5 (Or.inl rfl) x101 M) rfl rfl (Nat.le_of_ble_eq_true rfl) dX9_paidInAll_28 (fun x102 => ?_)
    refine gx_iadd dX9_paidInAll_31 ?_
    refine gx_istore_n (lv' := [some (.inr (some 32)), some (.inr (some o1)), some (.inl (v2 + x102)), some (.inl v3)]) dX9_paidInAll_32 (by decide) rfl ?_
    refine gx_iinc (y := v3 + 1) (lv' := [some (.inr (some 32)), some (.inr (some o1)), some (.inl (v2 + x102)), some (.inl (v3 + 1))]) dX9_paidInAll_33 rfl rfl (by decide) rfl ?_
    refine gx_goto (tgt := 7) dX9_paidInAll_36 (by decide) ?_
    refine gx_mk (lv' := [some (.inr (some 32)), some (.inr (some o1)), some (.inl (v2 + x102)), some (.inl (v3 + 1))]) [true, true, true, true] rfl ?_
    exact ih (v2 + x102) (v3 + 1)
def f_X9_paidInAll (n : Nat) (o1 : Nat) (M : HMem) : Option Int32 :=
  f_X9_paidInAll_L7 n o1 M n 0 (M o1 3)
set_option maxRecDepth 20000 in
theorem w_X9_paidInAll (d : Nat) (hd : 2 ≤ d) (n : Nat) (o1 : Nat) (h1 : isCo o1) (M : HMem) : GX iX9_paidInAll d (eP M) (f_X9_paidInAll n o1 M) 0 [some (.inr (some 32)), some (.inr (some o1)), none, none] [] M := by
  rw [f_X9_paidInAll]
  refine gx_iconst (x := 0) (by decide) dX9_paidInAll_0 ?_
  refine gx_istore_n (lv' := [some (.inr (some 32)), some (.inr (some o1)), some (.inl 0), none]) dX9_paidInAll_1 (by decide) rfl ?_
  refine gx_aload_n dX9_paidInAll_2 rfl ?_
  refine gx_getI fl_X9_28 (shC h1) rfl dX9_paidInAll_3 ?_
  refine gx_istore_n (lv' := [some (.inr (some 32)), some (.inr (some o1)), some (.inl 0), some (.inl (M o1 3))]) dX9_paidInAll_6 (by decide) rfl ?_
  refine gx_mk (lv' := [some (.inr (some 32)), some (.inr (some o1)), some (.inl 0), some (.inl (M o1 3))]) [true, true, true, true] rfl ?_
  exact w_X9_paidInAll_L7 d hd n M o1 h1 n 0 (M o1 3)
theorem c_X9_paidInAll (d : Nat) (hd : 2 ≤ d) (n : Nat) (o1 : Nat) (h1 : isCo o1) (M : HMem) : MX iX9_paidInAll d [.inr (some 32), .inr (some o1)] M (eP M) (f_X9_paidInAll n o1 M) := mx_of (by decide +kernel) (Nat.le_of_ble_eq_true rfl) rfl (w_X9_paidInAll d hd n o1 h1 M)
-- X9_paidFor
def f_X9_paidFor_L8 (n : Nat) (o1 : Nat) (v2 : Int32) (M : HMem) : Nat → Int32 → Int32 → Option Int32
  | 0, _, _ => none
  | k + 1, v3, v4 =>
    if (f_X1_last o1 M) < v4 then
      (some v3)
    else
      (if v2 < 0 then
        (some v3)
      else
        (hb1 (f_X1_placeAt o1 v4 M) (fun x101 =>
        hb1 (f_X3_kindAt 5 x101 M) (fun x102 =>
        if x102 = (2 + v2) then
          (hb1 (f_X3_penceAt 5 x101 M) (fun x103 =>
          f_X9_paidFor_L8 n o1 v2 M k (v3 + x103) (v4 + 1)))
        else
          (f_X9_paidFor_L8 n o1 v2 M k v3 (v4 + 1))))))
set_option maxRecDepth 20000 in
theorem w_X9_paidFor_L8 (d : Nat) (hd : 2 ≤ d) (n : Nat) (M : HMem) (o1 : Nat) (h1 : isCo o1) (v2 : Int32) : ∀ (k : Nat) (v3 : Int32) (v4 : Int32), GX iX9_paidFor d (eP M) (f_X9_paidFor_L8 n o1 v2 M k v3 v4) 8 [some (.inr (some 32)), some (.inr (some o1)), some (.inl v2), some (.inl v3), some (.inl v4), none] [] M := by
  intro k
  induction k with
  | zero => intro v3 v4; exact gx_none
  | succ k ih =>
    intro v3 v4
    rw [f_X9_paidFor_L8]
    refine gx_iload dX9_paidFor_8 rfl ?_
    refine gx_aload_n dX9_paidFor_10 rfl ?_
    refine gx_cV_it (av := []) (st := [.inl v4]) ml_X9_34 (by omega) (shC h1) (c_X1_last (d - 1) (by omega) o1 h1 M) rfl rfl (Nat.le_of_ble_eq_true rfl) dX9_paidFor_11 ?_
    refine gx_icmp_gt (tgt := 68) dX9_paidFor_14 (by decide) ?_ ?_
    · refine gx_iload_n dX9_paidFor_68 rfl ?_
      exact gx_iret rfl rfl dX9_paidFor_69
    refine gx_iload_n dX9_paidFor_17 rfl ?_
    refine gx_if_lt (tgt := 68) dX9_paidFor_18 (by decide) ?_ ?_
    · refine gx_iload_n dX9_paidFor_68 rfl ?_
      exact gx_iret rfl rfl dX9_paidFor_69
    refine gx_aload_n dX9_paidFor_21 rfl ?_
    refine gx_iload dX9_paidFor_22 rfl ?_
    refine gx_cV_ip (av := [.inl v4]) (st := []) ml_X9_38 (by omega) (shC h1) (c_X1_placeAt (d - 1) (by omega) o1 h1 v4 M) rfl rfl (Nat.le_of_ble_eq_true rfl) dX9_paidFor_24 (fun x101 => ?_)
    refine gx_istore (lv' := [some (.inr (some 32)), some (.inr (some o1)), some (.inl v2), some (.inl v3), some (.inl v4), some (.inl x101)]) dX9_paidFor_27 (by decide) rfl ?_
    refine gx_aload_n dX9_paidFor_29 rfl ?_
    refine gx_getR fl_X9_18 sh32 rfl dX9_paidFor_30 ?_
    refine gx_getR fl_X9_74 sh3 rfl dX9_paidFor_33 ?_
    refine gx_iload dX9_paidFor_36 rfl ?_
    refine gx_cV_ip (av := [.inl x101]) (st := []) ml_X9_83 (by omega) sh5 (c_X3_kindAt (d - 1) (by omega) 5 (Or.inl rfl) x101 M) rfl rfl (Nat.le_of_ble_eq_true rfl) dX9_paidFor_38 (fun x102 => ?_)
    refine gx_iconst (x := 2) (by decide) dX9_paidFor_41 ?_
    refine gx_iload_n dX9_paidFor_42 rfl ?_
    refine gx_iadd dX9_paidFor_43 ?_
    refine gx_icmp_ne (tgt := 62) dX9_paidFor_44 (by decide) ?_ ?_
    · refine gx_iinc (y := v4 + 1) (lv' := [some (.inr (some 32)), some (.inr (some o1)), some (.inl v2), some (.inl v3), some (.inl (v4 + 1)), some (.inl x101)]) dX9_paidFor_62 rfl rfl (by decide) rfl ?_
      refine gx_goto (tgt := 8) dX9_paidFor_65 (by decide) ?_
      refine gx_mk (lv' := [some (.inr (some 32)), some (.inr (some o1)), some (.inl v2), some (.inl v3), some (.inl (v4 + 1)), none]) [true, true, true, true, true, false] rfl ?_
      exact ih v3 (v4 + 1)
    refine gx_iload_n dX9_paidFor_47 rfl ?_
    refine gx_aload_n dX9_paidFor_48 rfl ?_
    refine gx_getR fl_X9_18 sh32 rfl dX9_paidFor_49 ?_
    refine gx_getR fl_X9_74 sh3 rfl dX9_paidFor_52 ?_
    refine gx_iload dX9_paidFor_55 rfl ?_
    refine gx_cV_ip (av := [.inl x101]) (st := [.inl v3]) ml_X9_78 (by omega) sh5 (c_X3_penceAt (d - 1) (by omega) 5 (Or.inl rfl) x101 M) rfl rfl (Nat.le_of_ble_eq_true rfl) dX9_paidFor_57 (fun x103 => ?_)
    refine gx_iadd dX9_paidFor_60 ?_
    refine gx_istore_n (lv' := [some (.inr (some 32)), some (.inr (some o1)), some (.inl v2), some (.inl (v3 + x103)), some (.inl v4), some (.inl x101)]) dX9_paidFor_61 (by decide) rfl ?_
    refine gx_iinc (y := v4 + 1) (lv' := [some (.inr (some 32)), some (.inr (some o1)), some (.inl v2), some (.inl (v3 + x103)), some (.inl (v4 + 1)), some (.inl x101)]) dX9_paidFor_62 rfl rfl (by decide) rfl ?_
    refine gx_goto (tgt := 8) dX9_paidFor_65 (by decide) ?_
    refine gx_mk (lv' := [some (.inr (some 32)), some (.inr (some o1)), some (.inl v2), some (.inl (v3 + x103)), some (.inl (v4 + 1)), none]) [true, true, true, true, true, false] rfl ?_
    exact ih (v3 + x103) (v4 + 1)
def f_X9_paidFor (n : Nat) (o1 : Nat) (v2 : Int32) (M : HMem) : Option Int32 :=
  f_X9_paidFor_L8 n o1 v2 M n 0 (M o1 3)
set_option maxRecDepth 20000 in
theorem w_X9_paidFor (d : Nat) (hd : 2 ≤ d) (n : Nat) (o1 : Nat) (h1 : isCo o1) (v2 : Int32) (M : HMem) : GX iX9_paidFor d (eP M) (f_X9_paidFor n o1 v2 M) 0 [some (.inr (some 32)), some (.inr (some o1)), some (.inl v2), none, none, none] [] M := by
  rw [f_X9_paidFor]
  refine gx_iconst (x := 0) (by decide) dX9_paidFor_0 ?_
  refine gx_istore_n (lv' := [some (.inr (some 32)), some (.inr (some o1)), some (.inl v2), some (.inl 0), none, none]) dX9_paidFor_1 (by decide) rfl ?_
  refine gx_aload_n dX9_paidFor_2 rfl ?_
  refine gx_getI fl_X9_28 (shC h1) rfl dX9_paidFor_3 ?_
  refine gx_istore (lv' := [some (.inr (some 32)), some (.inr (some o1)), some (.inl v2), some (.inl 0), some (.inl (M o1 3)), none]) dX9_paidFor_6 (by decide) rfl ?_
  refine gx_mk (lv' := [some (.inr (some 32)), some (.inr (some o1)), some (.inl v2), some (.inl 0), some (.inl (M o1 3)), none]) [true, true, true, true, true, false] rfl ?_
  exact w_X9_paidFor_L8 d hd n M o1 h1 v2 n 0 (M o1 3)
theorem c_X9_paidFor (d : Nat) (hd : 2 ≤ d) (n : Nat) (o1 : Nat) (h1 : isCo o1) (v2 : Int32) (M : HMem) : MX iX9_paidFor d [.inr (some 32), .inr (some o1), .inl v2] M (eP M) (f_X9_paidFor n o1 v2 M) := mx_of (by decide +kernel) (Nat.le_of_ble_eq_true rfl) rfl (w_X9_paidFor d hd n o1 h1 v2 M)
-- X9_dearestField
def f_X9_dearestField_L8 (n : Nat) (o1 : Nat) (M : HMem) : Nat → Int32 → Int32 → Int32 → Option Int32
  | 0, _, _, _ => none
  | k + 1, v2, v3, v4 =>
    if 8 ≤ v4 then
      (some v2)
    else
      (hb1 (f_X9_paidFor n o1 v4 M) (fun x101 =>
      if x101 ≤ v3 then
        (f_X9_dearestField_L8 n o1 M k v2 v3 (v4 + 1))
      else
        (f_X9_dearestField_L8 n o1 M k v4 x101 (v4 + 1))))
set_option maxRecDepth 20000 in
theorem w_X9_dearestField_L8 (d : Nat) (hd : 3 ≤ d) (n : Nat) (M : HMem) (o1 : Nat) (h1 : isCo o1) : ∀ (k : Nat) (v2 : Int32) (v3 : Int32) (v4 : Int32), GX iX9_dearestField d (eP M) (f_X9_dearestField_L8 n o1 M k v2 v3 v4) 8 [some (.inr (some 32)), some (.inr (some o1)), some (.inl v2), some (.inl v3), some (.inl v4), none] [] M := by
  intro k
  induction k with
  | zero => intro v2 v3 v4; exact gx_none
  | succ k ih =>
    intro v2 v3 v4
    rw [f_X9_dearestField_L8]
    refine gx_iload dX9_dearestField_8 rfl ?_
    refine gx_bipush (x := 8) (by decide) dX9_dearestField_10 ?_
    refine gx_icmp_ge (tgt := 42) dX9_dearestField_12 (by decide) ?_ ?_
    · refine gx_iload_n dX9_dearestField_42 rfl ?_
      exact gx_iret rfl rfl dX9_dearestField_43
    refine gx_aload_n dX9_dearestField_15 rfl ?_
    refine gx_aload_n dX9_dearestField_16 rfl ?_
    refine gx_iload dX9_dearestField_17 rfl ?_
    refine gx_cV_ip (av := [.inr (some o1), .inl v4]) (st := []) ml_X9_86 (by omega) sh32 (c_X9_paidFor (d - 1) (by omega) n o1 h1 v4 M) rfl rfl (Nat.le_of_ble_eq_true rfl) dX9_dearestField_19 (fun x101 => ?_)
    refine gx_istore (lv' := [some (.inr (some 32)), some (.inr (some o1)), some (.inl v2), some (.inl v3), some (.inl v4), some (.inl x101)]) dX9_dearestField_22 (by decide) rfl ?_
    refine gx_iload dX9_dearestField_24 rfl ?_
    refine gx_iload_n dX9_dearestField_26 rfl ?_
    refine gx_icmp_le (tgt := 36) dX9_dearestField_27 (by decide) ?_ ?_
    · refine gx_iinc (y := v4 + 1) (lv' := [some (.inr (some 32)), some (.inr (some o1)), some (.inl v2), some (.inl v3), some (.inl (v4 + 1)), some (.inl x101)]) dX9_dearestField_36 rfl rfl (by decide) rfl ?_
      refine gx_goto (tgt := 8) dX9_dearestField_39 (by decide) ?_
      refine gx_mk (lv' := [some (.inr (some 32)), some (.inr (some o1)), some (.inl v2), some (.inl v3), some (.inl (v4 + 1)), none]) [true, true, true, true, true, false] rfl ?_
      exact ih v2 v3 (v4 + 1)
    refine gx_iload dX9_dearestField_30 rfl ?_
    refine gx_istore_n (lv' := [some (.inr (some 32)), some (.inr (some o1)), some (.inl v4), some (.inl v3), some (.inl v4), some (.inl x101)]) dX9_dearestField_32 (by decide) rfl ?_
    refine gx_iload dX9_dearestField_33 rfl ?_
    refine gx_istore_n (lv' := [some (.inr (some 32)), some (.inr (some o1)), some (.inl v4), some (.inl x101), some (.inl v4), some (.inl x101)]) dX9_dearestField_35 (by decide) rfl ?_
    refine gx_iinc (y := v4 + 1) (lv' := [some (.inr (some 32)), some (.inr (some o1)), some (.inl v4), some (.inl x101), some (.inl (v4 + 1)), some (.inl x101)]) dX9_dearestField_36 rfl rfl (by decide) rfl ?_
    refine gx_goto (tgt := 8) dX9_dearestField_39 (by decide) ?_
    refine gx_mk (lv' := [some (.inr (some 32)), some (.inr (some o1)), some (.inl v4), some (.inl x101), some (.inl (v4 + 1)), none]) [true, true, true, true, true, false] rfl ?_
    exact ih v4 x101 (v4 + 1)
def f_X9_dearestField (n : Nat) (o1 : Nat) (M : HMem) : Option Int32 :=
  f_X9_dearestField_L8 n o1 M n (-2) 0 0
set_option maxRecDepth 20000 in
theorem w_X9_dearestField (d : Nat) (hd : 3 ≤ d) (n : Nat) (o1 : Nat) (h1 : isCo o1) (M : HMem) : GX iX9_dearestField d (eP M) (f_X9_dearestField n o1 M) 0 [some (.inr (some 32)), some (.inr (some o1)), none, none, none, none] [] M := by
  rw [f_X9_dearestField]
  refine gx_bipush (x := (-2)) (by decide) dX9_dearestField_0 ?_
  refine gx_istore_n (lv' := [some (.inr (some 32)), some (.inr (some o1)), some (.inl (-2)), none, none, none]) dX9_dearestField_2 (by decide) rfl ?_
  refine gx_iconst (x := 0) (by decide) dX9_dearestField_3 ?_
  refine gx_istore_n (lv' := [some (.inr (some 32)), some (.inr (some o1)), some (.inl (-2)), some (.inl 0), none, none]) dX9_dearestField_4 (by decide) rfl ?_
  refine gx_iconst (x := 0) (by decide) dX9_dearestField_5 ?_
  refine gx_istore (lv' := [some (.inr (some 32)), some (.inr (some o1)), some (.inl (-2)), some (.inl 0), some (.inl 0), none]) dX9_dearestField_6 (by decide) rfl ?_
  refine gx_mk (lv' := [some (.inr (some 32)), some (.inr (some o1)), some (.inl (-2)), some (.inl 0), some (.inl 0), none]) [true, true, true, true, true, false] rfl ?_
  exact w_X9_dearestField_L8 d hd n M o1 h1 n (-2) 0 0
theorem c_X9_dearestField (d : Nat) (hd : 3 ≤ d) (n : Nat) (o1 : Nat) (h1 : isCo o1) (M : HMem) : MX iX9_dearestField d [.inr (some 32), .inr (some o1)] M (eP M) (f_X9_dearestField n o1 M) := mx_of (by decide +kernel) (Nat.le_of_ble_eq_true rfl) rfl (w_X9_dearestField d hd n o1 h1 M)
-- X9_queue
def f_X9_queue (v1 : Int32) (v2 : Int32) (M : HMem) : Option (Int32 × HMem) :=
  hb1 (f_X9_markAt v1 M) (fun x101 =>
  if x101 = 0 then
    (if v2 < 0 then
      (some (v2, M))
    else
      (if v2 < 192 then
        (if hib v2 192 then
        hb1 (f_X9_markPlace v1 1 (hset M 34 (Int32.toNatClampNeg v2) v1)) (fun M102 =>
        some (v2 + 1, M102))
        else none)
      else
        (some (v2, M))))
  else
    (some (v2, M)))
set_option maxRecDepth 20000 in
theorem w_X9_queue (d : Nat) (hd : 2 ≤ d) (v1 : Int32) (v2 : Int32) (M : HMem) : GX iX9_queue d eI (f_X9_queue v1 v2 M) 0 [some (.inr (some 32)), some (.inl v1), some (.inl v2)] [] M := by
  rw [f_X9_queue]
  refine gx_aload_n dX9_queue_0 rfl ?_
  refine gx_iload_n dX9_queue_1 rfl ?_
  refine gx_cV_ip (av := [.inl v1]) (st := []) ml_X9_46 (by omega) sh32 (c_X9_markAt (d - 1) (by omega) v1 M) rfl rfl (Nat.le_of_ble_eq_true rfl) dX9_queue_2 (fun x101 => ?_)
  refine gx_if_ne (tgt := 19) dX9_queue_5 (by decide) ?_ ?_
  · refine gx_iload_n dX9_queue_19 rfl ?_
    exact gx_iret rfl rfl dX9_queue_20
  refine gx_iload_n dX9_queue_8 rfl ?_
  refine gx_if_lt (tgt := 19) dX9_queue_9 (by decide) ?_ ?_
  · refine gx_iload_n dX9_queue_19 rfl ?_
    exact gx_iret rfl rfl dX9_queue_20
  refine gx_iload_n dX9_queue_12 rfl ?_
  refine gx_sipush (x := 192) (by decide) dX9_queue_13 ?_
  refine gx_icmp_lt (tgt := 21) dX9_queue_16 (by decide) ?_ ?_
  · refine gx_aload_n dX9_queue_21 rfl ?_
    refine gx_getR fl_X9_15 sh32 rfl dX9_queue_22 ?_
    refine gx_iload_n dX9_queue_25 rfl ?_
    refine gx_iload_n dX9_queue_26 rfl ?_
    refine gx_iastore sh34 dX9_queue_27 ?_
    refine gx_aload_n dX9_queue_28 rfl ?_
    refine gx_iload_n dX9_queue_29 rfl ?_
    refine gx_iconst (x := 1) (by decide) dX9_queue_30 ?_
    refine gx_cV_vm (av := [.inl v1, .inl 1]) (st := []) ml_X9_42 (by omega) sh32 (c_X9_markPlace (d - 1) (by omega) v1 1 (hset M 34 (Int32.toNatClampNeg v2) v1)) rfl rfl (Nat.le_of_ble_eq_true rfl) dX9_queue_31 (fun M102 => ?_)
    refine gx_iload_n dX9_queue_34 rfl ?_
    refine gx_iconst (x := 1) (by decide) dX9_queue_35 ?_
    refine gx_iadd dX9_queue_36 ?_
    exact gx_iret rfl rfl dX9_queue_37
  refine gx_iload_n dX9_queue_19 rfl ?_
  exact gx_iret rfl rfl dX9_queue_20
theorem c_X9_queue (d : Nat) (hd : 2 ≤ d) (v1 : Int32) (v2 : Int32) (M : HMem) : MX iX9_queue d [.inr (some 32), .inl v1, .inl v2] M eI (f_X9_queue v1 v2 M) := mx_of (by decide +kernel) (Nat.le_of_ble_eq_true rfl) rfl (w_X9_queue d hd v1 v2 M)
-- X9_spread
def f_X9_spread_L27 (n : Nat) (r4 : Int32 → Int32 → HMem → Option HMem) (v3 : Int32) (v4 : Int32) : Nat → Int32 → Int32 → HMem → Option HMem
  | 0, _, _, _ => none
  | k + 1, v2, v5, M =>
    if 5 ≤ v5 then
      (r4 v2 (v3 + 1) M)
    else
      (if (f_X11_beside v4 v5) = (-1) then
        (f_X9_spread_L27 n r4 v3 v4 k v2 (v5 + 1) M)
      else
        (hb1 (f_X9_markAt (f_X11_beside v4 v5) M) (fun x101 =>
        if x101 = 0 then
          (if 192 ≤ v2 then
            (f_X9_spread_L27 n r4 v3 v4 k v2 (v5 + 1) M)
          else
            (if hib v2 192 then
            hb1 (some (hset M 34 (Int32.toNatClampNeg v2) (f_X11_beside v4 v5))) (fun M102 =>
            hb1 (f_X9_markAt v4 M102) (fun x103 =>
            hb1 (f_X9_markPlace (f_X11_beside v4 v5) (x103 + 1) M102) (fun M104 =>
            f_X9_spread_L27 n r4 v3 v4 k (v2 + 1) (v5 + 1) M104)))
            else none))
        else
          (f_X9_spread_L27 n r4 v3 v4 k v2 (v5 + 1) M))))
set_option maxRecDepth 20000 in
theorem w_X9_spread_L27 (d : Nat) (hd : 2 ≤ d) (n : Nat) (r4 : Int32 → Int32 → HMem → Option HMem) (v3 : Int32) (v4 : Int32) (hr4 : ∀ (v2 : Int32) (v3 : Int32) (M : HMem), GX iX9_spread d eV (r4 v2 v3 M) 4 [some (.inr (some 32)), none, some (.inl v2), some (.inl v3), none, none, none] [] M) : ∀ (k : Nat) (v2 : Int32) (v5 : Int32) (M : HMem), GX iX9_spread d eV (f_X9_spread_L27 n r4 v3 v4 k v2 v5 M) 27 [some (.inr (some 32)), none, some (.inl v2), some (.inl v3), some (.inl v4), some (.inl v5), none] [] M := by
  intro k
  induction k with
  | zero => intro v2 v5 M; exact gx_none
  | succ k ih =>
    intro v2 v5 M
    rw [f_X9_spread_L27]
    refine gx_iload dX9_spread_27 rfl ?_
    refine gx_iconst (x := 5) (by decide) dX9_spread_29 ?_
    refine gx_icmp_ge (tgt := 95) dX9_spread_30 (by decide) ?_ ?_
    · refine gx_iinc (y := v3 + 1) (lv' := [some (.inr (some 32)), none, some (.inl v2), some (.inl (v3 + 1)), some (.inl v4), some (.inl v5), none]) dX9_spread_95 rfl rfl (by decide) rfl ?_
      refine gx_goto (tgt := 4) dX9_spread_98 (by decide) ?_
      refine gx_mk (lv' := [some (.inr (some 32)), none, some (.inl v2), some (.inl (v3 + 1)), none, none, none]) [true, false, true, true, false, false, false] rfl ?_
      exact hr4 v2 (v3 + 1) M
    refine gx_iload dX9_spread_33 rfl ?_
    refine gx_iload dX9_spread_35 rfl ?_
    refine gx_cS_it (av := [.inl v4, .inl v5]) (st := []) ml_X9_111 (by omega) (c_X11_beside (d - 1) (by omega) v4 v5 M) rfl rfl (Nat.le_of_ble_eq_true rfl) dX9_spread_37 ?_
    refine gx_istore (lv' := [some (.inr (some 32)), none, some (.inl v2), some (.inl v3), some (.inl v4), some (.inl v5), some (.inl (f_X11_beside v4 v5))]) dX9_spread_40 (by decide) rfl ?_
    refine gx_iload dX9_spread_42 rfl ?_
    refine gx_iconst (x := (-1)) (by decide) dX9_spread_44 ?_
    refine gx_icmp_eq (tgt := 89) dX9_spread_45 (by decide) ?_ ?_
    · refine gx_iinc (y := v5 + 1) (lv' := [some (.inr (some 32)), none, some (.inl v2), some (.inl v3), some (.inl v4), some (.inl (v5 + 1)), some (.inl (f_X11_beside v4 v5))]) dX9_spread_89 rfl rfl (by decide) rfl ?_
      refine gx_goto (tgt := 27) dX9_spread_92 (by decide) ?_
      refine gx_mk (lv' := [some (.inr (some 32)), none, some (.inl v2), some (.inl v3), some (.inl v4), some (.inl (v5 + 1)), none]) [true, false, true, true, true, true, false] rfl ?_
      exact ih v2 (v5 + 1) M
    refine gx_aload_n dX9_spread_48 rfl ?_
    refine gx_iload dX9_spread_49 rfl ?_
    refine gx_cV_ip (av := [.inl (f_X11_beside v4 v5)]) (st := []) ml_X9_46 (by omega) sh32 (c_X9_markAt (d - 1) (by omega) (f_X11_beside v4 v5) M) rfl rfl (Nat.le_of_ble_eq_true rfl) dX9_spread_51 (fun x101 => ?_)
    refine gx_if_ne (tgt := 89) dX9_spread_54 (by decide) ?_ ?_
    · refine gx_iinc (y := v5 + 1) (lv' := [some (.inr (some 32)), none, some (.inl v2), some (.inl v3), some (.inl v4), some (.inl (v5 + 1)), some (.inl (f_X11_beside v4 v5))]) dX9_spread_89 rfl rfl (by decide) rfl ?_
      refine gx_goto (tgt := 27) dX9_spread_92 (by decide) ?_
      refine gx_mk (lv' := [some (.inr (some 32)), none, some (.inl v2), some (.inl v3), some (.inl v4), some (.inl (v5 + 1)), none]) [true, false, true, true, true, true, false] rfl ?_
      exact ih v2 (v5 + 1) M
    refine gx_iload_n dX9_spread_57 rfl ?_
    refine gx_sipush (x := 192) (by decide) dX9_spread_58 ?_
    refine gx_icmp_ge (tgt := 89) dX9_spread_61 (by decide) ?_ ?_
    · refine gx_iinc (y := v5 + 1) (lv' := [some (.inr (some 32)), none, some (.inl v2), some (.inl v3), some (.inl v4), some (.inl (v5 + 1)), some (.inl (f_X11_beside v4 v5))]) dX9_spread_89 rfl rfl (by decide) rfl ?_
      refine gx_goto (tgt := 27) dX9_spread_92 (by decide) ?_
      refine gx_mk (lv' := [some (.inr (some 32)), none, some (.inl v2), some (.inl v3), some (.inl v4), some (.inl (v5 + 1)), none]) [true, false, true, true, true, true, false] rfl ?_
      exact ih v2 (v5 + 1) M
    refine gx_aload_n dX9_spread_64 rfl ?_
    refine gx_getR fl_X9_15 sh32 rfl dX9_spread_65 ?_
    refine gx_iload_n dX9_spread_68 rfl ?_
    refine gx_iload dX9_spread_69 rfl ?_
    refine gx_iastore sh34 dX9_spread_71 ?_
    refine gx_iinc (y := v2 + 1) (lv' := [some (.inr (some 32)), none, some (.inl (v2 + 1)), some (.inl v3), some (.inl v4), some (.inl v5), some (.inl (f_X11_beside v4 v5))]) dX9_spread_72 rfl rfl (by decide) rfl ?_
    refine gx_aload_n dX9_spread_75 rfl ?_
    refine gx_iload dX9_spread_76 rfl ?_
    refine gx_aload_n dX9_spread_78 rfl ?_
    refine gx_iload dX9_spread_79 rfl ?_
    refine gx_nm (fun M102 => ?_)
    refine gx_cV_ip (av := [.inl v4]) (st := [.inl (f_X11_beside v4 v5), .inr (some 32)]) ml_X9_46 (by omega) sh32 (c_X9_markAt (d - 1) (by omega) v4 M102) rfl rfl (Nat.le_of_ble_eq_true rfl) dX9_spread_81 (fun x103 => ?_)
    refine gx_iconst (x := 1) (by decide) dX9_spread_84 ?_
    refine gx_iadd dX9_spread_85 ?_
    refine gx_cV_vm (av := [.inl (f_X11_beside v4 v5), .inl (x103 + 1)]) (st := []) ml_X9_42 (by omega) sh32 (c_X9_markPlace (d - 1) (by omega) (f_X11_beside v4 v5) (x103 + 1) M102) rfl rfl (Nat.le_of_ble_eq_true rfl) dX9_spread_86 (fun M104 => ?_)
    refine gx_iinc (y := v5 + 1) (lv' := [some (.inr (some 32)), none, some (.inl (v2 + 1)), some (.inl v3), some (.inl v4), some (.inl (v5 + 1)), some (.inl (f_X11_beside v4 v5))]) dX9_spread_89 rfl rfl (by decide) rfl ?_
    refine gx_goto (tgt := 27) dX9_spread_92 (by decide) ?_
    refine gx_mk (lv' := [some (.inr (some 32)), none, some (.inl (v2 + 1)), some (.inl v3), some (.inl v4), some (.inl (v5 + 1)), none]) [true, false, true, true, true, true, false] rfl ?_
    exact ih (v2 + 1) (v5 + 1) M104
def f_X9_spread_L4 (n : Nat)  : Nat → Int32 → Int32 → HMem → Option HMem
  | 0, _, _, _ => none
  | k + 1, v2, v3, M =>
    if 192 ≤ v3 then
      (some M)
    else
      (if v2 ≤ v3 then
        (some M)
      else
        (if hib v3 192 then
        f_X9_spread_L27 n (f_X9_spread_L4 n k) v3 (M 34 (Int32.toNatClampNeg v3)) n v2 1 M
        else none))
set_option maxRecDepth 20000 in
theorem w_X9_spread_L4 (d : Nat) (hd : 2 ≤ d) (n : Nat)  : ∀ (k : Nat) (v2 : Int32) (v3 : Int32) (M : HMem), GX iX9_spread d eV (f_X9_spread_L4 n k v2 v3 M) 4 [some (.inr (some 32)), none, some (.inl v2), some (.inl v3), none, none, none] [] M := by
  intro k
  induction k with
  | zero => intro v2 v3 M; exact gx_none
  | succ k ih =>
    intro v2 v3 M
    rw [f_X9_spread_L4]
    refine gx_iload_n dX9_spread_4 rfl ?_
    refine gx_sipush (x := 192) (by decide) dX9_spread_5 ?_
    refine gx_icmp_ge (tgt := 101) dX9_spread_8 (by decide) ?_ ?_
    · exact gx_vret rfl rfl dX9_spread_101
    refine gx_iload_n dX9_spread_11 rfl ?_
    refine gx_iload_n dX9_spread_12 rfl ?_
    refine gx_icmp_ge (tgt := 101) dX9_spread_13 (by decide) ?_ ?_
    · exact gx_vret rfl rfl dX9_spread_101
    refine gx_aload_n dX9_spread_16 rfl ?_
    refine gx_getR fl_X9_15 sh32 rfl dX9_spread_17 ?_
    refine gx_iload_n dX9_spread_20 rfl ?_
    refine gx_iaload sh34 dX9_spread_21 ?_
    refine gx_istore (lv' := [some (.inr (some 32)), none, some (.inl v2), some (.inl v3), some (.inl (M 34 (Int32.toNatClampNeg v3))), none, none]) dX9_spread_22 (by decide) rfl ?_
    refine gx_iconst (x := 1) (by decide) dX9_spread_24 ?_
    refine gx_istore (lv' := [some (.inr (some 32)), none, some (.inl v2), some (.inl v3), some (.inl (M 34 (Int32.toNatClampNeg v3))), some (.inl 1), none]) dX9_spread_25 (by decide) rfl ?_
    refine gx_mk (lv' := [some (.inr (some 32)), none, some (.inl v2), some (.inl v3), some (.inl (M 34 (Int32.toNatClampNeg v3))), some (.inl 1), none]) [true, false, true, true, true, true, false] rfl ?_
    exact w_X9_spread_L27 d hd n (f_X9_spread_L4 n k) v3 (M 34 (Int32.toNatClampNeg v3)) ih n v2 1 M
def f_X9_spread (n : Nat) (v1 : Int32) (M : HMem) : Option HMem :=
  f_X9_spread_L4 n n v1 0 M
set_option maxRecDepth 20000 in
theorem w_X9_spread (d : Nat) (hd : 2 ≤ d) (n : Nat) (v1 : Int32) (M : HMem) : GX iX9_spread d eV (f_X9_spread n v1 M) 0 [some (.inr (some 32)), some (.inl v1), none, none, none, none, none] [] M := by
  rw [f_X9_spread]
  refine gx_iload_n dX9_spread_0 rfl ?_
  refine gx_istore_n (lv' := [some (.inr (some 32)), some (.inl v1), some (.inl v1), none, none, none, none]) dX9_spread_1 (by decide) rfl ?_
  refine gx_iconst (x := 0) (by decide) dX9_spread_2 ?_
  refine gx_istore_n (lv' := [some (.inr (some 32)), some (.inl v1), some (.inl v1), some (.inl 0), none, none, none]) dX9_spread_3 (by decide) rfl ?_
  refine gx_mk (lv' := [some (.inr (some 32)), none, some (.inl v1), some (.inl 0), none, none, none]) [true, false, true, true, false, false, false] rfl ?_
  exact w_X9_spread_L4 d hd n  n v1 0 M
theorem c_X9_spread (d : Nat) (hd : 2 ≤ d) (n : Nat) (v1 : Int32) (M : HMem) : MX iX9_spread d [.inr (some 32), .inl v1] M eV (f_X9_spread n v1 M) := mx_of (by decide +kernel) (Nat.le_of_ble_eq_true rfl) rfl (w_X9_spread d hd n v1 M)
-- X9_stepsByLand
def f_X9_stepsByLand_L2 (n : Nat) (v1 : Int32) (v2 : Int32) : Nat → Int32 → HMem → Option (Int32 × HMem)
  | 0, _, _ => none
  | k + 1, v3, M =>
    if 192 ≤ v3 then
      (hb2 (f_X9_queue v1 0 M) (fun x101 M102 =>
      hb1 (f_X9_spread n x101 M102) (fun M103 =>
      hb1 (f_X9_markAt v2 M103) (fun x104 =>
      if x104 ≤ 0 then
        (some ((-2), M103))
      else
        (some (x104 - 1, M103))))))
    else
      (hb1 (f_X3_isWater 5 v3 M) (fun x105 =>
      if x105 = 0 then
        (if hib v3 192 then
        f_X9_stepsByLand_L2 n v1 v2 k (v3 + 1) (hset M 33 (Int32.toNatClampNeg v3) 0)
        else none)
      else
        (if hib v3 192 then
        f_X9_stepsByLand_L2 n v1 v2 k (v3 + 1) (hset M 33 (Int32.toNatClampNeg v3) (-1))
        else none)))
set_option maxRecDepth 20000 in
theorem w_X9_stepsByLand_L2 (d : Nat) (hd : 3 ≤ d) (n : Nat) (v1 : Int32) (v2 : Int32) : ∀ (k : Nat) (v3 : Int32) (M : HMem), GX iX9_stepsByLand d eI (f_X9_stepsByLand_L2 n v1 v2 k v3 M) 2 [some (.inr (some 32)), some (.inl v1), some (.inl v2), some (.inl v3)] [] M := by
  intro k
  induction k with
  | zero => intro v3 M; exact gx_none
  | succ k ih =>
    intro v3 M
    rw [f_X9_stepsByLand_L2]
    refine gx_iload_n dX9_stepsByLand_2 rfl ?_
    refine gx_sipush (x := 192) (by decide) dX9_stepsByLand_3 ?_
    refine gx_icmp_ge (tgt := 40) dX9_stepsByLand_6 (by decide) ?_ ?_
    · refine gx_aload_n dX9_stepsByLand_40 rfl ?_
      refine gx_aload_n dX9_stepsByLand_41 rfl ?_
      refine gx_iload_n dX9_stepsByLand_42 rfl ?_
      refine gx_iconst (x := 0) (by decide) dX9_stepsByLand_43 ?_
      refine gx_cV_im (av := [.inl v1, .inl 0]) (st := [.inr (some 32)]) ml_X9_94 (by omega) sh32 (c_X9_queue (d - 1) (by omega) v1 0 M) rfl rfl (Nat.le_of_ble_eq_true rfl) dX9_stepsByLand_44 (fun x101 M102 => ?_)
      refine gx_cV_vm (av := [.inl x101]) (st := []) ml_X9_97 (by omega) sh32 (c_X9_spread (d - 1) (by omega) n x101 M102) rfl rfl (Nat.le_of_ble_eq_true rfl) dX9_stepsByLand_47 (fun M103 => ?_)
      refine gx_aload_n dX9_stepsByLand_50 rfl ?_
      refine gx_iload_n dX9_stepsByLand_51 rfl ?_
      refine gx_cV_ip (av := [.inl v2]) (st := []) ml_X9_46 (by omega) sh32 (c_X9_markAt (d - 1) (by omega) v2 M103) rfl rfl (Nat.le_of_ble_eq_true rfl) dX9_stepsByLand_52 (fun x104 => ?_)
      refine gx_istore_n (lv' := [some (.inr (some 32)), some (.inl v1), some (.inl v2), some (.inl x104)]) dX9_stepsByLand_55 (by decide) rfl ?_
      refine gx_iload_n dX9_stepsByLand_56 rfl ?_
      refine gx_if_le (tgt := 66) dX9_stepsByLand_57 (by decide) ?_ ?_
      · refine gx_bipush (x := (-2)) (by decide) dX9_stepsByLand_66 ?_
        exact gx_iret rfl rfl dX9_stepsByLand_68
      refine gx_iload_n dX9_stepsByLand_60 rfl ?_
      refine gx_iconst (x := 1) (by decide) dX9_stepsByLand_61 ?_
      refine gx_isub dX9_stepsByLand_62 ?_
      refine gx_goto (tgt := 68) dX9_stepsByLand_63 (by decide) ?_
      exact gx_iret rfl rfl dX9_stepsByLand_68
    refine gx_aload_n dX9_stepsByLand_9 rfl ?_
    refine gx_getR fl_X9_9 sh32 rfl dX9_stepsByLand_10 ?_
    refine gx_iload_n dX9_stepsByLand_13 rfl ?_
    refine gx_aload_n dX9_stepsByLand_14 rfl ?_
    refine gx_getR fl_X9_18 sh32 rfl dX9_stepsByLand_15 ?_
    refine gx_getR fl_X9_74 sh3 rfl dX9_stepsByLand_18 ?_
    refine gx_iload_n dX9_stepsByLand_21 rfl ?_
    refine gx_cV_ip (av := [.inl v3]) (st := [.inl v3, .inr (some 33)]) ml_X9_90 (by omega) sh5 (c_X3_isWater (d - 1) (by omega) 5 (Or.inl rfl) v3 M) rfl rfl (Nat.le_of_ble_eq_true rfl) dX9_stepsByLand_22 (fun x105 => ?_)
    refine gx_if_eq (tgt := 32) dX9_stepsByLand_25 (by decide) ?_ ?_
    · refine gx_iconst (x := 0) (by decide) dX9_stepsByLand_32 ?_
      refine gx_iastore sh33 dX9_stepsByLand_33 ?_
      refine gx_iinc (y := v3 + 1) (lv' := [some (.inr (some 32)), some (.inl v1), some (.inl v2), some (.inl (v3 + 1))]) dX9_stepsByLand_34 rfl rfl (by decide) rfl ?_
      refine gx_goto (tgt := 2) dX9_stepsByLand_37 (by decide) ?_
      refine gx_mk (lv' := [some (.inr (some 32)), some (.inl v1), some (.inl v2), some (.inl (v3 + 1))]) [true, true, true, true] rfl ?_
      exact ih (v3 + 1) (hset M 33 (Int32.toNatClampNeg v3) 0)
    refine gx_iconst (x := (-1)) (by decide) dX9_stepsByLand_28 ?_
    refine gx_goto (tgt := 33) dX9_stepsByLand_29 (by decide) ?_
    refine gx_iastore sh33 dX9_stepsByLand_33 ?_
    refine gx_iinc (y := v3 + 1) (lv' := [some (.inr (some 32)), some (.inl v1), some (.inl v2), some (.inl (v3 + 1))]) dX9_stepsByLand_34 rfl rfl (by decide) rfl ?_
    refine gx_goto (tgt := 2) dX9_stepsByLand_37 (by decide) ?_
    refine gx_mk (lv' := [some (.inr (some 32)), some (.inl v1), some (.inl v2), some (.inl (v3 + 1))]) [true, true, true, true] rfl ?_
    exact ih (v3 + 1) (hset M 33 (Int32.toNatClampNeg v3) (-1))
def f_X9_stepsByLand (n : Nat) (v1 : Int32) (v2 : Int32) (M : HMem) : Option (Int32 × HMem) :=
  f_X9_stepsByLand_L2 n v1 v2 n 0 M
set_option maxRecDepth 20000 in
theorem w_X9_stepsByLand (d : Nat) (hd : 3 ≤ d) (n : Nat) (v1 : Int32) (v2 : Int32) (M : HMem) : GX iX9_stepsByLand d eI (f_X9_stepsByLand n v1 v2 M) 0 [some (.inr (some 32)), some (.inl v1), some (.inl v2), none] [] M := by
  rw [f_X9_stepsByLand]
  refine gx_iconst (x := 0) (by decide) dX9_stepsByLand_0 ?_
  refine gx_istore_n (lv' := [some (.inr (some 32)), some (.inl v1), some (.inl v2), some (.inl 0)]) dX9_stepsByLand_1 (by decide) rfl ?_
  refine gx_mk (lv' := [some (.inr (some 32)), some (.inl v1), some (.inl v2), some (.inl 0)]) [true, true, true, true] rfl ?_
  exact w_X9_stepsByLand_L2 d hd n v1 v2 n 0 M
theorem c_X9_stepsByLand (d : Nat) (hd : 3 ≤ d) (n : Nat) (v1 : Int32) (v2 : Int32) (M : HMem) : MX iX9_stepsByLand d [.inr (some 32), .inl v1, .inl v2] M eI (f_X9_stepsByLand n v1 v2 M) := mx_of (by decide +kernel) (Nat.le_of_ble_eq_true rfl) rfl (w_X9_stepsByLand d hd n v1 v2 M)
-- X9_isOnEdge
def f_X9_isOnEdge (v0 : Int32) : Int32 :=
  if (v0 &&& 15) = 0 then
    (1)
  else
    (if (v0 &&& 15) = 15 then
      (1)
    else
      (if (v0 >>> (4 &&& 31)) = 0 then
        (1)
      else
        (if (v0 >>> (4 &&& 31)) = 11 then
          (1)
        else
          (0))))
set_option maxRecDepth 20000 in
theorem w_X9_isOnEdge (d : Nat) (hd : 0 ≤ d) (v0 : Int32) (M : HMem) : GX iX9_isOnEdge d (eP M) (some (f_X9_isOnEdge v0)) 0 [some (.inl v0), none, none] [] M := by
  rw [f_X9_isOnEdge]
  refine gx_iload_n dX9_isOnEdge_0 rfl ?_
  refine gx_bipush (x := 15) (by decide) dX9_isOnEdge_1 ?_
  refine gx_iand dX9_isOnEdge_3 ?_
  refine gx_istore_n (lv' := [some (.inl v0), some (.inl (v0 &&& 15)), none]) dX9_isOnEdge_4 (by decide) rfl ?_
  refine gx_iload_n dX9_isOnEdge_5 rfl ?_
  refine gx_iconst (x := 4) (by decide) dX9_isOnEdge_6 ?_
  refine gx_ishr dX9_isOnEdge_7 ?_
  refine gx_istore_n (lv' := [some (.inl v0), some (.inl (v0 &&& 15)), some (.inl (v0 >>> (4 &&& 31)))]) dX9_isOnEdge_8 (by decide) rfl ?_
  refine gx_iload_n dX9_isOnEdge_9 rfl ?_
  refine gxt_if_eq (tgt := 29) dX9_isOnEdge_10 (by decide) ?_ ?_
  · refine gx_iconst (x := 1) (by decide) dX9_isOnEdge_29 ?_
    refine gx_goto (tgt := 34) dX9_isOnEdge_30 (by decide) ?_
    exact gx_zret rfl (by decide) rfl dX9_isOnEdge_34
  refine gx_iload_n dX9_isOnEdge_13 rfl ?_
  refine gx_bipush (x := 15) (by decide) dX9_isOnEdge_14 ?_
  refine gxt_icmp_eq (tgt := 29) dX9_isOnEdge_16 (by decide) ?_ ?_
  · refine gx_iconst (x := 1) (by decide) dX9_isOnEdge_29 ?_
    refine gx_goto (tgt := 34) dX9_isOnEdge_30 (by decide) ?_
    exact gx_zret rfl (by decide) rfl dX9_isOnEdge_34
  refine gx_iload_n dX9_isOnEdge_19 rfl ?_
  refine gxt_if_eq (tgt := 29) dX9_isOnEdge_20 (by decide) ?_ ?_
  · refine gx_iconst (x := 1) (by decide) dX9_isOnEdge_29 ?_
    refine gx_goto (tgt := 34) dX9_isOnEdge_30 (by decide) ?_
    exact gx_zret rfl (by decide) rfl dX9_isOnEdge_34
  refine gx_iload_n dX9_isOnEdge_23 rfl ?_
  refine gx_bipush (x := 11) (by decide) dX9_isOnEdge_24 ?_
  refine gxt_icmp_ne (tgt := 33) dX9_isOnEdge_26 (by decide) ?_ ?_
  · refine gx_iconst (x := 0) (by decide) dX9_isOnEdge_33 ?_
    exact gx_zret rfl (by decide) rfl dX9_isOnEdge_34
  refine gx_iconst (x := 1) (by decide) dX9_isOnEdge_29 ?_
  refine gx_goto (tgt := 34) dX9_isOnEdge_30 (by decide) ?_
  exact gx_zret rfl (by decide) rfl dX9_isOnEdge_34
theorem c_X9_isOnEdge (d : Nat) (hd : 0 ≤ d) (v0 : Int32) (M : HMem) : MX iX9_isOnEdge d [.inl v0] M (eP M) (some (f_X9_isOnEdge v0)) := mx_of (by decide +kernel) (Nat.le_of_ble_eq_true rfl) rfl (w_X9_isOnEdge d hd v0 M)
-- X9_placesShutIn
def f_X9_placesShutIn_L78 (n : Nat)  (M : HMem) : Nat → Int32 → Int32 → Option (Int32 × HMem)
  | 0, _, _ => none
  | k + 1, v3, v4 =>
    if 192 ≤ v4 then
      (some (v3, M))
    else
      (if hib v4 192 then
      if (M 33 (Int32.toNatClampNeg v4)) = 0 then
        (f_X9_placesShutIn_L78 n M k (v3 + 1) (v4 + 1))
      else
        (f_X9_placesShutIn_L78 n M k v3 (v4 + 1))
      else none)
set_option maxRecDepth 20000 in
theorem w_X9_placesShutIn_L78 (d : Nat) (hd : 3 ≤ d) (n : Nat) (M : HMem)  : ∀ (k : Nat) (v3 : Int32) (v4 : Int32), GX iX9_placesShutIn d eI (f_X9_placesShutIn_L78 n M k v3 v4) 78 [some (.inr (some 32)), none, none, some (.inl v3), some (.inl v4)] [] M := by
  intro k
  induction k with
  | zero => intro v3 v4; exact gx_none
  | succ k ih =>
    intro v3 v4
    rw [f_X9_placesShutIn_L78]
    refine gx_iload dX9_placesShutIn_78 rfl ?_
    refine gx_sipush (x := 192) (by decide) dX9_placesShutIn_80 ?_
    refine gx_icmp_ge (tgt := 105) dX9_placesShutIn_83 (by decide) ?_ ?_
    · refine gx_iload_n dX9_placesShutIn_105 rfl ?_
      exact gx_iret rfl rfl dX9_placesShutIn_106
    refine gx_aload_n dX9_placesShutIn_86 rfl ?_
    refine gx_getR fl_X9_9 sh32 rfl dX9_placesShutIn_87 ?_
    refine gx_iload dX9_placesShutIn_90 rfl ?_
    refine gx_iaload sh33 dX9_placesShutIn_92 ?_
    refine gx_if_ne (tgt := 99) dX9_placesShutIn_93 (by decide) ?_ ?_
    · refine gx_iinc (y := v4 + 1) (lv' := [some (.inr (some 32)), none, none, some (.inl v3), some (.inl (v4 + 1))]) dX9_placesShutIn_99 rfl rfl (by decide) rfl ?_
      refine gx_goto (tgt := 78) dX9_placesShutIn_102 (by decide) ?_
      refine gx_mk (lv' := [some (.inr (some 32)), none, none, some (.inl v3), some (.inl (v4 + 1))]) [true, false, false, true, true] rfl ?_
      exact ih v3 (v4 + 1)
    refine gx_iinc (y := v3 + 1) (lv' := [some (.inr (some 32)), none, none, some (.inl (v3 + 1)), some (.inl v4)]) dX9_placesShutIn_96 rfl rfl (by decide) rfl ?_
    refine gx_iinc (y := v4 + 1) (lv' := [some (.inr (some 32)), none, none, some (.inl (v3 + 1)), some (.inl (v4 + 1))]) dX9_placesShutIn_99 rfl rfl (by decide) rfl ?_
    refine gx_goto (tgt := 78) dX9_placesShutIn_102 (by decide) ?_
    refine gx_mk (lv' := [some (.inr (some 32)), none, none, some (.inl (v3 + 1)), some (.inl (v4 + 1))]) [true, false, false, true, true] rfl ?_
    exact ih (v3 + 1) (v4 + 1)
def f_X9_placesShutIn_L41 (n : Nat)  : Nat → Int32 → Int32 → HMem → Option (Int32 × HMem)
  | 0, _, _, _ => none
  | k + 1, v2, v3, M =>
    if 192 ≤ v3 then
      (hb1 (f_X9_spread n v2 M) (fun M101 =>
      f_X9_placesShutIn_L78 n M101 n 0 0))
    else
      (if (f_X9_isOnEdge v3) = 0 then
        (f_X9_placesShutIn_L41 n k v2 (v3 + 1) M)
      else
        (hb2 (f_X9_queue v3 v2 M) (fun x102 M103 =>
        f_X9_placesShutIn_L41 n k x102 (v3 + 1) M103)))
set_option maxRecDepth 20000 in
theorem w_X9_placesShutIn_L41 (d : Nat) (hd : 3 ≤ d) (n : Nat)  : ∀ (k : Nat) (v2 : Int32) (v3 : Int32) (M : HMem), GX iX9_placesShutIn d eI (f_X9_placesShutIn_L41 n k v2 v3 M) 41 [some (.inr (some 32)), none, some (.inl v2), some (.inl v3), none] [] M := by
  intro k
  induction k with
  | zero => intro v2 v3 M; exact gx_none
  | succ k ih =>
    intro v2 v3 M
    rw [f_X9_placesShutIn_L41]
    refine gx_iload_n dX9_placesShutIn_41 rfl ?_
    refine gx_sipush (x := 192) (by decide) dX9_placesShutIn_42 ?_
    refine gx_icmp_ge (tgt := 68) dX9_placesShutIn_45 (by decide) ?_ ?_
    · refine gx_aload_n dX9_placesShutIn_68 rfl ?_
      refine gx_iload_n dX9_placesShutIn_69 rfl ?_
      refine gx_cV_vm (av := [.inl v2]) (st := []) ml_X9_97 (by omega) sh32 (c_X9_spread (d - 1) (by omega) n v2 M) rfl rfl (Nat.le_of_ble_eq_true rfl) dX9_placesShutIn_70 (fun M101 => ?_)
      refine gx_iconst (x := 0) (by decide) dX9_placesShutIn_73 ?_
      refine gx_istore_n (lv' := [some (.inr (some 32)), none, some (.inl v2), some (.inl 0), none]) dX9_placesShutIn_74 (by decide) rfl ?_
      refine gx_iconst (x := 0) (by decide) dX9_placesShutIn_75 ?_
      refine gx_istore (lv' := [some (.inr (some 32)), none, some (.inl v2), some (.inl 0), some (.inl 0)]) dX9_placesShutIn_76 (by decide) rfl ?_
      refine gx_mk (lv' := [some (.inr (some 32)), none, none, some (.inl 0), some (.inl 0)]) [true, false, false, true, true] rfl ?_
      exact w_X9_placesShutIn_L78 d hd n M101  n 0 0
    refine gx_iload_n dX9_placesShutIn_48 rfl ?_
    refine gx_cS_it (av := [.inl v3]) (st := []) ml_X9_101 (by omega) (c_X9_isOnEdge (d - 1) (by omega) v3 M) rfl rfl (Nat.le_of_ble_eq_true rfl) dX9_placesShutIn_49 ?_
    refine gx_if_eq (tgt := 62) dX9_placesShutIn_52 (by decide) ?_ ?_
    · refine gx_iinc (y := v3 + 1) (lv' := [some (.inr (some 32)), none, some (.inl v2), some (.inl (v3 + 1)), none]) dX9_placesShutIn_62 rfl rfl (by decide) rfl ?_
      refine gx_goto (tgt := 41) dX9_placesShutIn_65 (by decide) ?_
      refine gx_mk (lv' := [some (.inr (some 32)), none, some (.inl v2), some (.inl (v3 + 1)), none]) [true, false, true, true, false] rfl ?_
      exact ih v2 (v3 + 1) M
    refine gx_aload_n dX9_placesShutIn_55 rfl ?_
    refine gx_iload_n dX9_placesShutIn_56 rfl ?_
    refine gx_iload_n dX9_placesShutIn_57 rfl ?_
    refine gx_cV_im (av := [.inl v3, .inl v2]) (st := []) ml_X9_94 (by omega) sh32 (c_X9_queue (d - 1) (by omega) v3 v2 M) rfl rfl (Nat.le_of_ble_eq_true rfl) dX9_placesShutIn_58 (fun x102 M103 => ?_)
    refine gx_istore_n (lv' := [some (.inr (some 32)), none, some (.inl x102), some (.inl v3), none]) dX9_placesShutIn_61 (by decide) rfl ?_
    refine gx_iinc (y := v3 + 1) (lv' := [some (.inr (some 32)), none, some (.inl x102), some (.inl (v3 + 1)), none]) dX9_placesShutIn_62 rfl rfl (by decide) rfl ?_
    refine gx_goto (tgt := 41) dX9_placesShutIn_65 (by decide) ?_
    refine gx_mk (lv' := [some (.inr (some 32)), none, some (.inl x102), some (.inl (v3 + 1)), none]) [true, false, true, true, false] rfl ?_
    exact ih x102 (v3 + 1) M103
def f_X9_placesShutIn_L13 (n : Nat) (o1 : Nat) : Nat → Int32 → HMem → Option (Int32 × HMem)
  | 0, _, _ => none
  | k + 1, v2, M =>
    if (f_X1_last o1 M) < v2 then
      (f_X9_placesShutIn_L41 n n 0 0 M)
    else
      (hb1 (f_X1_placeAt o1 v2 M) (fun x101 =>
      hb1 (f_X9_markPlace x101 (-1) M) (fun M102 =>
      f_X9_placesShutIn_L13 n o1 k (v2 + 1) M102)))
set_option maxRecDepth 20000 in
theorem w_X9_placesShutIn_L13 (d : Nat) (hd : 3 ≤ d) (n : Nat) (o1 : Nat) (h1 : isCo o1) : ∀ (k : Nat) (v2 : Int32) (M : HMem), GX iX9_placesShutIn d eI (f_X9_placesShutIn_L13 n o1 k v2 M) 13 [some (.inr (some 32)), some (.inr (some o1)), some (.inl v2), none, none] [] M := by
  intro k
  induction k with
  | zero => intro v2 M; exact gx_none
  | succ k ih =>
    intro v2 M
    rw [f_X9_placesShutIn_L13]
    refine gx_iload_n dX9_placesShutIn_13 rfl ?_
    refine gx_aload_n dX9_placesShutIn_14 rfl ?_
    refine gx_cV_it (av := []) (st := [.inl v2]) ml_X9_34 (by omega) (shC h1) (c_X1_last (d - 1) (by omega) o1 h1 M) rfl rfl (Nat.le_of_ble_eq_true rfl) dX9_placesShutIn_15 ?_
    refine gx_icmp_gt (tgt := 37) dX9_placesShutIn_18 (by decide) ?_ ?_
    · refine gx_iconst (x := 0) (by decide) dX9_placesShutIn_37 ?_
      refine gx_istore_n (lv' := [some (.inr (some 32)), some (.inr (some o1)), some (.inl 0), none, none]) dX9_placesShutIn_38 (by decide) rfl ?_
      refine gx_iconst (x := 0) (by decide) dX9_placesShutIn_39 ?_
      refine gx_istore_n (lv' := [some (.inr (some 32)), some (.inr (some o1)), some (.inl 0), some (.inl 0), none]) dX9_placesShutIn_40 (by decide) rfl ?_
      refine gx_mk (lv' := [some (.inr (some 32)), none, some (.inl 0), some (.inl 0), none]) [true, false, true, true, false] rfl ?_
      exact w_X9_placesShutIn_L41 d hd n  n 0 0 M
    refine gx_aload_n dX9_placesShutIn_21 rfl ?_
    refine gx_aload_n dX9_placesShutIn_22 rfl ?_
    refine gx_iload_n dX9_placesShutIn_23 rfl ?_
    refine gx_cV_ip (av := [.inl v2]) (st := [.inr (some 32)]) ml_X9_38 (by omega) (shC h1) (c_X1_placeAt (d - 1) (by omega) o1 h1 v2 M) rfl rfl (Nat.le_of_ble_eq_true rfl) dX9_placesShutIn_24 (fun x101 => ?_)
    refine gx_iconst (x := (-1)) (by decide) dX9_placesShutIn_27 ?_
    refine gx_cV_vm (av := [.inl x101, .inl (-1)]) (st := []) ml_X9_42 (by omega) sh32 (c_X9_markPlace (d - 1) (by omega) x101 (-1) M) rfl rfl (Nat.le_of_ble_eq_true rfl) dX9_placesShutIn_28 (fun M102 => ?_)
    refine gx_iinc (y := v2 + 1) (lv' := [some (.inr (some 32)), some (.inr (some o1)), some (.inl (v2 + 1)), none, none]) dX9_placesShutIn_31 rfl rfl (by decide) rfl ?_
    refine gx_goto (tgt := 13) dX9_placesShutIn_34 (by decide) ?_
    refine gx_mk (lv' := [some (.inr (some 32)), some (.inr (some o1)), some (.inl (v2 + 1)), none, none]) [true, true, true, false, false] rfl ?_
    exact ih (v2 + 1) M102
def f_X9_placesShutIn (n : Nat) (o1 : Nat) (M : HMem) : Option (Int32 × HMem) :=
  hb1 (f_J7_fill_53178 n 33 192 0 M) (fun M101 =>
  f_X9_placesShutIn_L13 n o1 n (M101 o1 3) M101)
set_option maxRecDepth 20000 in
theorem w_X9_placesShutIn (d : Nat) (hd : 3 ≤ d) (n : Nat) (o1 : Nat) (h1 : isCo o1) (M : HMem) : GX iX9_placesShutIn d eI (f_X9_placesShutIn n o1 M) 0 [some (.inr (some 32)), some (.inr (some o1)), none, none, none] [] M := by
  rw [f_X9_placesShutIn]
  refine gx_aload_n dX9_placesShutIn_0 rfl ?_
  refine gx_getR fl_X9_9 sh32 rfl dX9_placesShutIn_1 ?_
  refine gx_iconst (x := 0) (by decide) dX9_placesShutIn_4 ?_
  refine gx_cS_vm (av := [.inr (some 33), .inl 0]) (st := []) ml_X9_22 (by omega) (c_J7_fill_53178 (d - 1) (by omega) n 33 192 sh33 0 M) rfl rfl (Nat.le_of_ble_eq_true rfl) dX9_placesShutIn_5 (fun M101 => ?_)
  refine gx_aload_n dX9_placesShutIn_8 rfl ?_
  refine gx_getI fl_X9_28 (shC h1) rfl dX9_placesShutIn_9 ?_
  refine gx_istore_n (lv' := [some (.inr (some 32)), some (.inr (some o1)), some (.inl (M101 o1 3)), none, none]) dX9_placesShutIn_12 (by decide) rfl ?_
  refine gx_mk (lv' := [some (.inr (some 32)), some (.inr (some o1)), some (.inl (M101 o1 3)), none, none]) [true, true, true, false, false] rfl ?_
  exact w_X9_placesShutIn_L13 d hd n o1 h1 n (M101 o1 3) M101
theorem c_X9_placesShutIn (d : Nat) (hd : 3 ≤ d) (n : Nat) (o1 : Nat) (h1 : isCo o1) (M : HMem) : MX iX9_placesShutIn d [.inr (some 32), .inr (some o1)] M eI (f_X9_placesShutIn n o1 M) := mx_of (by decide +kernel) (Nat.le_of_ble_eq_true rfl) rfl (w_X9_placesShutIn d hd n o1 h1 M)
-- X9_placesSmelling
def f_X9_placesSmelling_J84 (n : Nat) (r13 : Int32 → Int32 → HMem → Option (Int32 × HMem)) (r46 : Int32 → Int32 → HMem → Option (Int32 × HMem)) (v1 : Int32) (v2 : Int32) (v3 : Int32) (v4 : Int32) (o5 : Nat) (v6 : Int32) (v7 : Int32) (s0 : Int32) (M : HMem) : Option (Int32 × HMem) :=
  if s0 = 0 then
    (r46 v3 (v6 + 1) M)
  else
    (hb1 (f_X0_smells v7 v6 v2 M) (fun x101 =>
    if x101 = 0 then
      (r46 v3 (v6 + 1) M)
    else
      (hb1 (f_X9_markAt v7 M) (fun x102 =>
      if x102 = 0 then
        (hb1 (f_X9_markPlace v7 1 M) (fun M103 =>
        r46 (v3 + 1) (v6 + 1) M103))
      else
        (r46 v3 (v6 + 1) M)))))
set_option maxRecDepth 20000 in
theorem w_X9_placesSmelling_J84 (d : Nat) (hd : 4 ≤ d) (n : Nat) (r13 : Int32 → Int32 → HMem → Option (Int32 × HMem)) (r46 : Int32 → Int32 → HMem → Option (Int32 × HMem)) (M : HMem) (v1 : Int32) (v2 : Int32) (v3 : Int32) (v4 : Int32) (o5 : Nat) (h5 : isCo o5) (v6 : Int32) (v7 : Int32) (s0 : Int32) (hr13 : ∀ (v3 : Int32) (v4 : Int32) (M : HMem), GX iX9_placesSmelling d eI (r13 v3 v4 M) 13 [some (.inr (some 32)), some (.inl v1), some (.inl v2), some (.inl v3), some (.inl v4), none, none, none, none] [] M) (hr46 : ∀ (v3 : Int32) (v6 : Int32) (M : HMem), GX iX9_placesSmelling d eI (r46 v3 v6 M) 46 [some (.inr (some 32)), some (.inl v1), some (.inl v2), some (.inl v3), some (.inl v4), some (.inr (some o5)), some (.inl v6), none, none] [] M) : GX iX9_placesSmelling d eI (f_X9_placesSmelling_J84 n r13 r46 v1 v2 v3 v4 o5 v6 v7 s0 M) 84 [some (.inr (some 32)), some (.inl v1), some (.inl v2), some (.inl v3), some (.inl v4), some (.inr (some o5)), some (.inl v6), some (.inl v7), none] [.inl s0] M := by
  rw [f_X9_placesSmelling_J84]
  refine gx_istore (lv' := [some (.inr (some 32)), some (.inl v1), some (.inl v2), some (.inl v3), some (.inl v4), some (.inr (some o5)), some (.inl v6), some (.inl v7), some (.inl s0)]) dX9_placesSmelling_84 (by decide) rfl ?_
  refine gx_iload dX9_placesSmelling_86 rfl ?_
  refine gx_if_eq (tgt := 125) dX9_placesSmelling_88 (by decide) ?_ ?_
  · refine gx_iinc (y := v6 + 1) (lv' := [some (.inr (some 32)), some (.inl v1), some (.inl v2), some (.inl v3), some (.inl v4), some (.inr (some o5)), some (.inl (v6 + 1)), some (.inl v7), some (.inl s0)]) dX9_placesSmelling_125 rfl rfl (by decide) rfl ?_
    refine gx_goto (tgt := 46) dX9_placesSmelling_128 (by decide) ?_
    refine gx_mk (lv' := [some (.inr (some 32)), some (.inl v1), some (.inl v2), some (.inl v3), some (.inl v4), some (.inr (some o5)), some (.inl (v6 + 1)), none, none]) [true, true, true, true, true, true, true, false, false] rfl ?_
    exact hr46 v3 (v6 + 1) M
  refine gx_aload_n dX9_placesSmelling_91 rfl ?_
  refine gx_getR fl_X9_18 sh32 rfl dX9_placesSmelling_92 ?_
  refine gx_iload dX9_placesSmelling_95 rfl ?_
  refine gx_iload dX9_placesSmelling_97 rfl ?_
  refine gx_iload_n dX9_placesSmelling_99 rfl ?_
  refine gx_cV_ip (av := [.inl v7, .inl v6, .inl v2]) (st := []) ml_X9_107 (by omega) sh3 (c_X0_smells (d - 1) (by omega) v7 v6 v2 M) rfl rfl (Nat.le_of_ble_eq_true rfl) dX9_placesSmelling_100 (fun x101 => ?_)
  refine gx_if_eq (tgt := 125) dX9_placesSmelling_103 (by decide) ?_ ?_
  · refine gx_iinc (y := v6 + 1) (lv' := [some (.inr (some 32)), some (.inl v1), some (.inl v2), some (.inl v3), some (.inl v4), some (.inr (some o5)), some (.inl (v6 + 1)), some (.inl v7), some (.inl s0)]) dX9_placesSmelling_125 rfl rfl (by decide) rfl ?_
    refine gx_goto (tgt := 46) dX9_placesSmelling_128 (by decide) ?_
    refine gx_mk (lv' := [some (.inr (some 32)), some (.inl v1), some (.inl v2), some (.inl v3), some (.inl v4), some (.inr (some o5)), some (.inl (v6 + 1)), none, none]) [true, true, true, true, true, true, true, false, false] rfl ?_
    exact hr46 v3 (v6 + 1) M
  refine gx_aload_n dX9_placesSmelling_106 rfl ?_
  refine gx_iload dX9_placesSmelling_107 rfl ?_
  refine gx_cV_ip (av := [.inl v7]) (st := []) ml_X9_46 (by omega) sh32 (c_X9_markAt (d - 1) (by omega) v7 M) rfl rfl (Nat.le_of_ble_eq_true rfl) dX9_placesSmelling_109 (fun x102 => ?_)
  refine gx_if_ne (tgt := 125) dX9_placesSmelling_112 (by decide) ?_ ?_
  · refine gx_iinc (y := v6 + 1) (lv' := [some (.inr (some 32)), some (.inl v1), some (.inl v2), some (.inl v3), some (.inl v4), some (.inr (some o5)), some (.inl (v6 + 1)), some (.inl v7), some (.inl s0)]) dX9_placesSmelling_125 rfl rfl (by decide) rfl ?_
    refine gx_goto (tgt := 46) dX9_placesSmelling_128 (by decide) ?_
    refine gx_mk (lv' := [some (.inr (some 32)), some (.inl v1), some (.inl v2), some (.inl v3), some (.inl v4), some (.inr (some o5)), some (.inl (v6 + 1)), none, none]) [true, true, true, true, true, true, true, false, false] rfl ?_
    exact hr46 v3 (v6 + 1) M
  refine gx_iinc (y := v3 + 1) (lv' := [some (.inr (some 32)), some (.inl v1), some (.inl v2), some (.inl (v3 + 1)), some (.inl v4), some (.inr (some o5)), some (.inl v6), some (.inl v7), some (.inl s0)]) dX9_placesSmelling_115 rfl rfl (by decide) rfl ?_
  refine gx_aload_n dX9_placesSmelling_118 rfl ?_
  refine gx_iload dX9_placesSmelling_119 rfl ?_
  refine gx_iconst (x := 1) (by decide) dX9_placesSmelling_121 ?_
  refine gx_cV_vm (av := [.inl v7, .inl 1]) (st := []) ml_X9_42 (by omega) sh32 (c_X9_markPlace (d - 1) (by omega) v7 1 M) rfl rfl (Nat.le_of_ble_eq_true rfl) dX9_placesSmelling_122 (fun M103 => ?_)
  refine gx_iinc (y := v6 + 1) (lv' := [some (.inr (some 32)), some (.inl v1), some (.inl v2), some (.inl (v3 + 1)), some (.inl v4), some (.inr (some o5)), some (.inl (v6 + 1)), some (.inl v7), some (.inl s0)]) dX9_placesSmelling_125 rfl rfl (by decide) rfl ?_
  refine gx_goto (tgt := 46) dX9_placesSmelling_128 (by decide) ?_
  refine gx_mk (lv' := [some (.inr (some 32)), some (.inl v1), some (.inl v2), some (.inl (v3 + 1)), some (.inl v4), some (.inr (some o5)), some (.inl (v6 + 1)), none, none]) [true, true, true, true, true, true, true, false, false] rfl ?_
  exact hr46 (v3 + 1) (v6 + 1) M103
def f_X9_placesSmelling_L46 (n : Nat) (r13 : Int32 → Int32 → HMem → Option (Int32 × HMem)) (v1 : Int32) (v2 : Int32) (v4 : Int32) (o5 : Nat) : Nat → Int32 → Int32 → HMem → Option (Int32 × HMem)
  | 0, _, _, _ => none
  | k + 1, v3, v6, M =>
    if (f_X1_last o5 M) < v6 then
      (r13 v3 (v4 + 1) M)
    else
      (hb1 (f_X1_placeAt o5 v6 M) (fun x101 =>
      if (f_X0_strength v6 v2 M) < v1 then
        (f_X9_placesSmelling_J84 n r13 (f_X9_placesSmelling_L46 n r13 v1 v2 v4 o5 k) v1 v2 v3 v4 o5 v6 x101 0 M)
      else
        (f_X9_placesSmelling_J84 n r13 (f_X9_placesSmelling_L46 n r13 v1 v2 v4 o5 k) v1 v2 v3 v4 o5 v6 x101 1 M)))
set_option maxRecDepth 20000 in
theorem w_X9_placesSmelling_L46 (d : Nat) (hd : 4 ≤ d) (n : Nat) (r13 : Int32 → Int32 → HMem → Option (Int32 × HMem)) (v1 : Int32) (v2 : Int32) (v4 : Int32) (o5 : Nat) (h5 : isCo o5) (hr13 : ∀ (v3 : Int32) (v4 : Int32) (M : HMem), GX iX9_placesSmelling d eI (r13 v3 v4 M) 13 [some (.inr (some 32)), some (.inl v1), some (.inl v2), some (.inl v3), some (.inl v4), none, none, none, none] [] M) : ∀ (k : Nat) (v3 : Int32) (v6 : Int32) (M : HMem), GX iX9_placesSmelling d eI (f_X9_placesSmelling_L46 n r13 v1 v2 v4 o5 k v3 v6 M) 46 [some (.inr (some 32)), some (.inl v1), some (.inl v2), some (.inl v3), some (.inl v4), some (.inr (some o5)), some (.inl v6), none, none] [] M := by
  intro k
  induction k with
  | zero => intro v3 v6 M; exact gx_none
  | succ k ih =>
    intro v3 v6 M
    rw [f_X9_placesSmelling_L46]
    refine gx_iload dX9_placesSmelling_46 rfl ?_
    refine gx_aload dX9_placesSmelling_48 rfl ?_
    refine gx_cV_it (av := []) (st := [.inl v6]) ml_X9_34 (by omega) (shC h5) (c_X1_last (d - 1) (by omega) o5 h5 M) rfl rfl (Nat.le_of_ble_eq_true rfl) dX9_placesSmelling_50 ?_
    refine gx_icmp_gt (tgt := 131) dX9_placesSmelling_53 (by decide) ?_ ?_
    · refine gx_iinc (y := v4 + 1) (lv' := [some (.inr (some 32)), some (.inl v1), some (.inl v2), some (.inl v3), some (.inl (v4 + 1)), some (.inr (some o5)), some (.inl v6), none, none]) dX9_placesSmelling_131 rfl rfl (by decide) rfl ?_
      refine gx_goto (tgt := 13) dX9_placesSmelling_134 (by decide) ?_
      refine gx_mk (lv' := [some (.inr (some 32)), some (.inl v1), some (.inl v2), some (.inl v3), some (.inl (v4 + 1)), none, none, none, none]) [true, true, true, true, true, false, false, false, false] rfl ?_
      exact hr13 v3 (v4 + 1) M
    refine gx_aload dX9_placesSmelling_56 rfl ?_
    refine gx_iload dX9_placesSmelling_58 rfl ?_
    refine gx_cV_ip (av := [.inl v6]) (st := []) ml_X9_38 (by omega) (shC h5) (c_X1_placeAt (d - 1) (by omega) o5 h5 v6 M) rfl rfl (Nat.le_of_ble_eq_true rfl) dX9_placesSmelling_60 (fun x101 => ?_)
    refine gx_istore (lv' := [some (.inr (some 32)), some (.inl v1), some (.inl v2), some (.inl v3), some (.inl v4), some (.inr (some o5)), some (.inl v6), some (.inl x101), none]) dX9_placesSmelling_63 (by decide) rfl ?_
    refine gx_aload_n dX9_placesSmelling_65 rfl ?_
    refine gx_getR fl_X9_18 sh32 rfl dX9_placesSmelling_66 ?_
    refine gx_iload dX9_placesSmelling_69 rfl ?_
    refine gx_iload_n dX9_placesSmelling_71 rfl ?_
    refine gx_cV_it (av := [.inl v6, .inl v2]) (st := []) ml_X9_104 (by omega) sh3 (c_X0_strength (d - 1) (by omega) v6 v2 M) rfl rfl (Nat.le_of_ble_eq_true rfl) dX9_placesSmelling_72 ?_
    refine gx_iload_n dX9_placesSmelling_75 rfl ?_
    refine gx_icmp_lt (tgt := 83) dX9_placesSmelling_76 (by decide) ?_ ?_
    · refine gx_iconst (x := 0) (by decide) dX9_placesSmelling_83 ?_
      refine gx_mk (lv' := [some (.inr (some 32)), some (.inl v1), some (.inl v2), some (.inl v3), some (.inl v4), some (.inr (some o5)), some (.inl v6), some (.inl x101), none]) [true, true, true, true, true, true, true, true, false] rfl ?_
      exact w_X9_placesSmelling_J84 d hd n r13 (f_X9_placesSmelling_L46 n r13 v1 v2 v4 o5 k) M v1 v2 v3 v4 o5 h5 v6 x101 0 hr13 ih
    refine gx_iconst (x := 1) (by decide) dX9_placesSmelling_79 ?_
    refine gx_goto (tgt := 84) dX9_placesSmelling_80 (by decide) ?_
    refine gx_mk (lv' := [some (.inr (some 32)), some (.inl v1), some (.inl v2), some (.inl v3), some (.inl v4), some (.inr (some o5)), some (.inl v6), some (.inl x101), none]) [true, true, true, true, true, true, true, true, false] rfl ?_
    exact w_X9_placesSmelling_J84 d hd n r13 (f_X9_placesSmelling_L46 n r13 v1 v2 v4 o5 k) M v1 v2 v3 v4 o5 h5 v6 x101 1 hr13 ih
def f_X9_placesSmelling_L13 (n : Nat) (v1 : Int32) (v2 : Int32) : Nat → Int32 → Int32 → HMem → Option (Int32 × HMem)
  | 0, _, _, _ => none
  | k + 1, v3, v4, M =>
    if 8 ≤ v4 then
      (some (v3, M))
    else
      (hb1 (f_X0_laid v4 M) (fun r101 => match r101 with
        | none => (f_X9_placesSmelling_L13 n v1 v2 k v3 (v4 + 1) M)
        | some o102 => (f_X9_placesSmelling_L46 n (f_X9_placesSmelling_L13 n v1 v2 k) v1 v2 v4 o102 n v3 (M o102 3) M)))
set_option maxRecDepth 20000 in
theorem w_X9_placesSmelling_L13 (d : Nat) (hd : 4 ≤ d) (n : Nat) (v1 : Int32) (v2 : Int32) : ∀ (k : Nat) (v3 : Int32) (v4 : Int32) (M : HMem), GX iX9_placesSmelling d eI (f_X9_placesSmelling_L13 n v1 v2 k v3 v4 M) 13 [some (.inr (some 32)), some (.inl v1), some (.inl v2), some (.inl v3), some (.inl v4), none, none, none, none] [] M := by
  intro k
  induction k with
  | zero => intro v3 v4 M; exact gx_none
  | succ k ih =>
    intro v3 v4 M
    rw [f_X9_placesSmelling_L13]
    refine gx_iload dX9_placesSmelling_13 rfl ?_
    refine gx_bipush (x := 8) (by decide) dX9_placesSmelling_15 ?_
    refine gx_icmp_ge (tgt := 137) dX9_placesSmelling_17 (by decide) ?_ ?_
    · refine gx_iload_n dX9_placesSmelling_137 rfl ?_
      exact gx_iret rfl rfl dX9_placesSmelling_138
    refine gx_aload_n dX9_placesSmelling_20 rfl ?_
    refine gx_getR fl_X9_18 sh32 rfl dX9_placesSmelling_21 ?_
    refine gx_iload dX9_placesSmelling_24 rfl ?_
    refine gx_cV_rp (av := [.inl v4]) (st := []) ml_X9_62 (by omega) sh3 (c_X0_laid (d - 1) (by omega) v4 M) rfl rfl (Nat.le_of_ble_eq_true rfl) dX9_placesSmelling_26 (fun r101 er101 => ?_)
    cases r101 with
    | none =>
      dsimp only
      refine gx_astoreN (lv' := [some (.inr (some 32)), some (.inl v1), some (.inl v2), some (.inl v3), some (.inl v4), some (.inr none), none, none, none]) dX9_placesSmelling_29 (by decide) rfl ?_
      refine gx_aloadN dX9_placesSmelling_31 rfl ?_
      refine gx_ifnonnullN dX9_placesSmelling_33 ?_
      refine gx_goto (tgt := 131) dX9_placesSmelling_36 (by decide) ?_
      refine gx_iinc (y := v4 + 1) (lv' := [some (.inr (some 32)), some (.inl v1), some (.inl v2), some (.inl v3), some (.inl (v4 + 1)), some (.inr none), none, none, none]) dX9_placesSmelling_131 rfl rfl (by decide) rfl ?_
      refine gx_goto (tgt := 13) dX9_placesSmelling_134 (by decide) ?_
      refine gx_mk (lv' := [some (.inr (some 32)), some (.inl v1), some (.inl v2), some (.inl v3), some (.inl (v4 + 1)), none, none, none, none]) [true, true, true, true, true, false, false, false, false] rfl ?_
      exact ih v3 (v4 + 1) M
    | some o102 =>
      have ho102 := co_X0_laid er101
      dsimp only
      refine gx_astore (lv' := [some (.inr (some 32)), some (.inl v1), some (.inl v2), some (.inl v3), some (.inl v4), some (.inr (some o102)), none, none, none]) dX9_placesSmelling_29 (by decide) rfl ?_
      refine gx_aload dX9_placesSmelling_31 rfl ?_
      refine gx_ifnonnullS (tgt := 39) dX9_placesSmelling_33 (by decide) ?_
      refine gx_aload dX9_placesSmelling_39 rfl ?_
      refine gx_getI fl_X9_28 (shC ho102) rfl dX9_placesSmelling_41 ?_
      refine gx_istore (lv' := [some (.inr (some 32)), some (.inl v1), some (.inl v2), some (.inl v3), some (.inl v4), some (.inr (some o102)), some (.inl (M o102 3)), none, none]) dX9_placesSmelling_44 (by decide) rfl ?_
      refine gx_mk (lv' := [some (.inr (some 32)), some (.inl v1), some (.inl v2), some (.inl v3), some (.inl v4), some (.inr (some o102)), some (.inl (M o102 3)), none, none]) [true, true, true, true, true, true, true, false, false] rfl ?_
      exact w_X9_placesSmelling_L46 d hd n (f_X9_placesSmelling_L13 n v1 v2 k) v1 v2 v4 o102 ho102 ih n v3 (M o102 3) M
def f_X9_placesSmelling (n : Nat) (v1 : Int32) (v2 : Int32) (M : HMem) : Option (Int32 × HMem) :=
  hb1 (f_J7_fill_53178 n 33 192 0 M) (fun M101 =>
  f_X9_placesSmelling_L13 n v1 v2 n 0 0 M101)
set_option maxRecDepth 20000 in
theorem w_X9_placesSmelling (d : Nat) (hd : 4 ≤ d) (n : Nat) (v1 : Int32) (v2 : Int32) (M : HMem) : GX iX9_placesSmelling d eI (f_X9_placesSmelling n v1 v2 M) 0 [some (.inr (some 32)), some (.inl v1), some (.inl v2), none, none, none, none, none, none] [] M := by
  rw [f_X9_placesSmelling]
  refine gx_aload_n dX9_placesSmelling_0 rfl ?_
  refine gx_getR fl_X9_9 sh32 rfl dX9_placesSmelling_1 ?_
  refine gx_iconst (x := 0) (by decide) dX9_placesSmelling_4 ?_
  refine gx_cS_vm (av := [.inr (some 33), .inl 0]) (st := []) ml_X9_22 (by omega) (c_J7_fill_53178 (d - 1) (by omega) n 33 192 sh33 0 M) rfl rfl (Nat.le_of_ble_eq_true rfl) dX9_placesSmelling_5 (fun M101 => ?_)
  refine gx_iconst (x := 0) (by decide) dX9_placesSmelling_8 ?_
  refine gx_istore_n (lv' := [some (.inr (some 32)), some (.inl v1), some (.inl v2), some (.inl 0), none, none, none, none, none]) dX9_placesSmelling_9 (by decide) rfl ?_
  refine gx_iconst (x := 0) (by decide) dX9_placesSmelling_10 ?_
  refine gx_istore (lv' := [some (.inr (some 32)), some (.inl v1), some (.inl v2), some (.inl 0), some (.inl 0), none, none, none, none]) dX9_placesSmelling_11 (by decide) rfl ?_
  refine gx_mk (lv' := [some (.inr (some 32)), some (.inl v1), some (.inl v2), some (.inl 0), some (.inl 0), none, none, none, none]) [true, true, true, true, true, false, false, false, false] rfl ?_
  exact w_X9_placesSmelling_L13 d hd n v1 v2 n 0 0 M101
theorem c_X9_placesSmelling (d : Nat) (hd : 4 ≤ d) (n : Nat) (v1 : Int32) (v2 : Int32) (M : HMem) : MX iX9_placesSmelling d [.inr (some 32), .inl v1, .inl v2] M eI (f_X9_placesSmelling n v1 v2 M) := mx_of (by decide +kernel) (Nat.le_of_ble_eq_true rfl) rfl (w_X9_placesSmelling d hd n v1 v2 M)
-- X10_hasRoom
def f_X10_hasRoom (v1 : Int32) (M : HMem) : Int32 :=
  if 260 < ((M 1 1) + v1) then
    (0)
  else
    (1)
set_option maxRecDepth 20000 in
theorem w_X10_hasRoom (d : Nat) (hd : 0 ≤ d) (v1 : Int32) (M : HMem) : GX iX10_hasRoom d (eP M) (some (f_X10_hasRoom v1 M)) 0 [some (.inr (some 1)), some (.inl v1)] [] M := by
  rw [f_X10_hasRoom]
  refine gx_aload_n dX10_hasRoom_0 rfl ?_
  refine gx_getI fl_X10_15 sh1 rfl dX10_hasRoom_1 ?_
  refine gx_iload_n dX10_hasRoom_4 rfl ?_
  refine gx_iadd dX10_hasRoom_5 ?_
  refine gx_aload_n dX10_hasRoom_6 rfl ?_
  refine gx_getR fl_X10_9 sh1 rfl dX10_hasRoom_7 ?_
  refine gx_alen (x := 260) sh2 (by decide) (by decide) dX10_hasRoom_10 ?_
  refine gxt_icmp_gt (tgt := 18) dX10_hasRoom_11 (by decide) ?_ ?_
  · refine gx_iconst (x := 0) (by decide) dX10_hasRoom_18 ?_
    exact gx_zret rfl (by decide) rfl dX10_hasRoom_19
  refine gx_iconst (x := 1) (by decide) dX10_hasRoom_14 ?_
  refine gx_goto (tgt := 19) dX10_hasRoom_15 (by decide) ?_
  exact gx_zret rfl (by decide) rfl dX10_hasRoom_19
theorem c_X10_hasRoom (d : Nat) (hd : 0 ≤ d) (v1 : Int32) (M : HMem) : MX iX10_hasRoom d [.inr (some 1), .inl v1] M (eP M) (some (f_X10_hasRoom v1 M)) := mx_of (by decide +kernel) (Nat.le_of_ble_eq_true rfl) rfl (w_X10_hasRoom d hd v1 M)
-- X10_append
def f_X10_append_L3 (n : Nat) (v1 : Int32) : Nat → Int32 → HMem → Option HMem
  | 0, _, _ => none
  | k + 1, v2, M =>
    if v2 < 0 then
      (some M)
    else
      (if 260 ≤ (M 1 1) then
        (some M)
      else
        (if hib (M 1 1) 260 then
        hb1 (some (hset M 2 (Int32.toNatClampNeg (M 1 1)) ((v1 >>> (v2 &&& 31)) &&& 255))) (fun M101 =>
        f_X10_append_L3 n v1 k (v2 + (-8)) (hset M101 1 1 ((M101 1 1) + 1)))
        else none))
set_option maxRecDepth 20000 in
theorem w_X10_append_L3 (d : Nat) (hd : 0 ≤ d) (n : Nat) (v1 : Int32) : ∀ (k : Nat) (v2 : Int32) (M : HMem), GX iX10_append d eV (f_X10_append_L3 n v1 k v2 M) 3 [some (.inr (some 1)), some (.inl v1), some (.inl v2)] [] M := by
  intro k
  induction k with
  | zero => intro v2 M; exact gx_none
  | succ k ih =>
    intro v2 M
    rw [f_X10_append_L3]
    refine gx_iload_n dX10_append_3 rfl ?_
    refine gx_if_lt (tgt := 51) dX10_append_4 (by decide) ?_ ?_
    · exact gx_vret rfl rfl dX10_append_51
    refine gx_aload_n dX10_append_7 rfl ?_
    refine gx_getI fl_X10_15 sh1 rfl dX10_append_8 ?_
    refine gx_aload_n dX10_append_11 rfl ?_
    refine gx_getR fl_X10_9 sh1 rfl dX10_append_12 ?_
    refine gx_alen (x := 260) sh2 (by decide) (by decide) dX10_append_15 ?_
    refine gx_icmp_ge (tgt := 51) dX10_append_16 (by decide) ?_ ?_
    · exact gx_vret rfl rfl dX10_append_51
    refine gx_aload_n dX10_append_19 rfl ?_
    refine gx_getR fl_X10_9 sh1 rfl dX10_append_20 ?_
    refine gx_aload_n dX10_append_23 rfl ?_
    refine gx_getI fl_X10_15 sh1 rfl dX10_append_24 ?_
    refine gx_iload_n dX10_append_27 rfl ?_
    refine gx_iload_n dX10_append_28 rfl ?_
    refine gx_ishr dX10_append_29 ?_
    refine gx_sipush (x := 255) (by decide) dX10_append_30 ?_
    refine gx_iand dX10_append_33 ?_
    refine gx_iastore sh2 dX10_append_34 ?_
    refine gx_aload_n dX10_append_35 rfl ?_
    refine gx_dup dX10_append_36 ?_
    refine gx_nm (fun M101 => ?_)
    refine gx_getI fl_X10_15 sh1 rfl dX10_append_37 ?_
    refine gx_iconst (x := 1) (by decide) dX10_append_40 ?_
    refine gx_iadd dX10_append_41 ?_
    refine gx_putI fl_X10_15 fp_X10_1 sh1 rfl dX10_append_42 ?_
    refine gx_iinc (y := v2 + (-8)) (lv' := [some (.inr (some 1)), some (.inl v1), some (.inl (v2 + (-8)))]) dX10_append_45 rfl rfl (by decide) rfl ?_
    refine gx_goto (tgt := 3) dX10_append_48 (by decide) ?_
    refine gx_mk (lv' := [some (.inr (some 1)), some (.inl v1), some (.inl (v2 + (-8)))]) [true, true, true] rfl ?_
    exact ih (v2 + (-8)) (hset M101 1 1 ((M101 1 1) + 1))
def f_X10_append (n : Nat) (v1 : Int32) (M : HMem) : Option HMem :=
  f_X10_append_L3 n v1 n 24 M
set_option maxRecDepth 20000 in
theorem w_X10_append (d : Nat) (hd : 0 ≤ d) (n : Nat) (v1 : Int32) (M : HMem) : GX iX10_append d eV (f_X10_append n v1 M) 0 [some (.inr (some 1)), some (.inl v1), none] [] M := by
  rw [f_X10_append]
  refine gx_bipush (x := 24) (by decide) dX10_append_0 ?_
  refine gx_istore_n (lv' := [some (.inr (some 1)), some (.inl v1), some (.inl 24)]) dX10_append_2 (by decide) rfl ?_
  refine gx_mk (lv' := [some (.inr (some 1)), some (.inl v1), some (.inl 24)]) [true, true, true] rfl ?_
  exact w_X10_append_L3 d hd n v1 n 24 M
theorem c_X10_append (d : Nat) (hd : 0 ≤ d) (n : Nat) (v1 : Int32) (M : HMem) : MX iX10_append d [.inr (some 1), .inl v1] M eV (f_X10_append n v1 M) := mx_of (by decide +kernel) (Nat.le_of_ble_eq_true rfl) rfl (w_X10_append d hd n v1 M)
-- X10_has
def f_X10_has (v1 : Int32) (M : HMem) : Int32 :=
  if (M 1 1) < v1 then
    (0)
  else
    (1)
set_option maxRecDepth 20000 in
theorem w_X10_has (d : Nat) (hd : 0 ≤ d) (v1 : Int32) (M : HMem) : GX iX10_has d (eP M) (some (f_X10_has v1 M)) 0 [some (.inr (some 1)), some (.inl v1)] [] M := by
  rw [f_X10_has]
  refine gx_iload_n dX10_has_0 rfl ?_
  refine gx_aload_n dX10_has_1 rfl ?_
  refine gx_getI fl_X10_15 sh1 rfl dX10_has_2 ?_
  refine gxt_icmp_gt (tgt := 12) dX10_has_5 (by decide) ?_ ?_
  · refine gx_iconst (x := 0) (by decide) dX10_has_12 ?_
    exact gx_zret rfl (by decide) rfl dX10_has_13
  refine gx_iconst (x := 1) (by decide) dX10_has_8 ?_
  refine gx_goto (tgt := 13) dX10_has_9 (by decide) ?_
  exact gx_zret rfl (by decide) rfl dX10_has_13
theorem c_X10_has (d : Nat) (hd : 0 ≤ d) (v1 : Int32) (M : HMem) : MX iX10_has d [.inr (some 1), .inl v1] M (eP M) (some (f_X10_has v1 M)) := mx_of (by decide +kernel) (Nat.le_of_ble_eq_true rfl) rfl (w_X10_has d hd v1 M)
-- X10_canTell
def f_X10_canTell (v1 : Int32) (v2 : Int32) (M : HMem) : Int32 :=
  if v1 < 1 then
    (0)
  else
    (if v2 < v1 then
      (0)
    else
      (if (f_X10_has v1 M) = 0 then
        (0)
      else
        (1)))
set_option maxRecDepth 20000 in
theorem w_X10_canTell (d : Nat) (hd : 1 ≤ d) (v1 : Int32) (v2 : Int32) (M : HMem) : GX iX10_canTell d (eP M) (some (f_X10_canTell v1 v2 M)) 0 [some (.inr (some 1)), some (.inl v1), some (.inl v2)] [] M := by
  rw [f_X10_canTell]
  refine gx_iload_n dX10_canTell_0 rfl ?_
  refine gx_iconst (x := 1) (by decide) dX10_canTell_1 ?_
  refine gxt_icmp_lt (tgt := 22) dX10_canTell_2 (by decide) ?_ ?_
  · refine gx_iconst (x := 0) (by decide) dX10_canTell_22 ?_
    exact gx_zret rfl (by decide) rfl dX10_canTell_23
  refine gx_iload_n dX10_canTell_5 rfl ?_
  refine gx_iload_n dX10_canTell_6 rfl ?_
  refine gxt_icmp_gt (tgt := 22) dX10_canTell_7 (by decide) ?_ ?_
  · refine gx_iconst (x := 0) (by decide) dX10_canTell_22 ?_
    exact gx_zret rfl (by decide) rfl dX10_canTell_23
  refine gx_aload_n dX10_canTell_10 rfl ?_
  refine gx_iload_n dX10_canTell_11 rfl ?_
  refine gx_cV_it (av := [.inl v1]) (st := []) ml_X10_31 (by omega) sh1 (c_X10_has (d - 1) (by omega) v1 M) rfl rfl (Nat.le_of_ble_eq_true rfl) dX10_canTell_12 ?_
  refine gxt_if_eq (tgt := 22) dX10_canTell_15 (by decide) ?_ ?_
  · refine gx_iconst (x := 0) (by decide) dX10_canTell_22 ?_
    exact gx_zret rfl (by decide) rfl dX10_canTell_23
  refine gx_iconst (x := 1) (by decide) dX10_canTell_18 ?_
  refine gx_goto (tgt := 23) dX10_canTell_19 (by decide) ?_
  exact gx_zret rfl (by decide) rfl dX10_canTell_23
theorem c_X10_canTell (d : Nat) (hd : 1 ≤ d) (v1 : Int32) (v2 : Int32) (M : HMem) : MX iX10_canTell d [.inr (some 1), .inl v1, .inl v2] M (eP M) (some (f_X10_canTell v1 v2 M)) := mx_of (by decide +kernel) (Nat.le_of_ble_eq_true rfl) rfl (w_X10_canTell d hd v1 v2 M)
-- X10_byteAt
def f_X10_byteAt (v1 : Int32) (M : HMem) : Option Int32 :=
  if v1 < 0 then
    (some 0)
  else
    (if 260 ≤ v1 then
      (some 0)
    else
      (if hib v1 260 then
      some (M 2 (Int32.toNatClampNeg v1))
      else none))
set_option maxRecDepth 20000 in
theorem w_X10_byteAt (d : Nat) (hd : 0 ≤ d) (v1 : Int32) (M : HMem) : GX iX10_byteAt d (eP M) (f_X10_byteAt v1 M) 0 [some (.inr (some 1)), some (.inl v1)] [] M := by
  rw [f_X10_byteAt]
  refine gx_iload_n dX10_byteAt_0 rfl ?_
  refine gx_if_lt (tgt := 22) dX10_byteAt_1 (by decide) ?_ ?_
  · refine gx_iconst (x := 0) (by decide) dX10_byteAt_22 ?_
    exact gx_iret rfl rfl dX10_byteAt_23
  refine gx_iload_n dX10_byteAt_4 rfl ?_
  refine gx_aload_n dX10_byteAt_5 rfl ?_
  refine gx_getR fl_X10_9 sh1 rfl dX10_byteAt_6 ?_
  refine gx_alen (x := 260) sh2 (by decide) (by decide) dX10_byteAt_9 ?_
  refine gx_icmp_ge (tgt := 22) dX10_byteAt_10 (by decide) ?_ ?_
  · refine gx_iconst (x := 0) (by decide) dX10_byteAt_22 ?_
    exact gx_iret rfl rfl dX10_byteAt_23
  refine gx_aload_n dX10_byteAt_13 rfl ?_
  refine gx_getR fl_X10_9 sh1 rfl dX10_byteAt_14 ?_
  refine gx_iload_n dX10_byteAt_17 rfl ?_
  refine gx_iaload sh2 dX10_byteAt_18 ?_
  refine gx_goto (tgt := 23) dX10_byteAt_19 (by decide) ?_
  exact gx_iret rfl rfl dX10_byteAt_23
theorem c_X10_byteAt (d : Nat) (hd : 0 ≤ d) (v1 : Int32) (M : HMem) : MX iX10_byteAt d [.inr (some 1), .inl v1] M (eP M) (f_X10_byteAt v1 M) := mx_of (by decide +kernel) (Nat.le_of_ble_eq_true rfl) rfl (w_X10_byteAt d hd v1 M)
-- X10_empty
def f_X10_empty  (M : HMem) : HMem :=
  hset M 1 1 0
set_option maxRecDepth 20000 in
theorem w_X10_empty (d : Nat) (hd : 0 ≤ d)  (M : HMem) : GX iX10_empty d eV (some (f_X10_empty  M)) 0 [some (.inr (some 1))] [] M := by
  rw [f_X10_empty]
  refine gx_aload_n dX10_empty_0 rfl ?_
  refine gx_iconst (x := 0) (by decide) dX10_empty_1 ?_
  refine gx_putI fl_X10_15 fp_X10_1 sh1 rfl dX10_empty_2 ?_
  exact gx_vret rfl rfl dX10_empty_5
theorem c_X10_empty (d : Nat) (hd : 0 ≤ d)  (M : HMem) : MX iX10_empty d [.inr (some 1)] M eV (some (f_X10_empty  M)) := mx_of (by decide +kernel) (Nat.le_of_ble_eq_true rfl) rfl (w_X10_empty d hd  M)
-- X10_open
def f_X10_open (v1 : Int32) (M : HMem) : HMem :=
  hset (hset (hset (hset M 1 2 v1) 1 3 0) 1 4 0) 1 5 0
set_option maxRecDepth 20000 in
theorem w_X10_open (d : Nat) (hd : 0 ≤ d) (v1 : Int32) (M : HMem) : GX iX10_open d eV (some (f_X10_open v1 M)) 0 [some (.inr (some 1)), some (.inl v1)] [] M := by
  rw [f_X10_open]
  refine gx_aload_n dX10_open_0 rfl ?_
  refine gx_iload_n dX10_open_1 rfl ?_
  refine gx_putI fl_X10_19 fp_X10_2 sh1 rfl dX10_open_2 ?_
  refine gx_aload_n dX10_open_5 rfl ?_
  refine gx_iconst (x := 0) (by decide) dX10_open_6 ?_
  refine gx_putI fl_X10_22 fp_X10_3 sh1 rfl dX10_open_7 ?_
  refine gx_aload_n dX10_open_10 rfl ?_
  refine gx_iconst (x := 0) (by decide) dX10_open_11 ?_
  refine gx_putI fl_X10_25 fp_X10_4 sh1 rfl dX10_open_12 ?_
  refine gx_aload_n dX10_open_15 rfl ?_
  refine gx_iconst (x := 0) (by decide) dX10_open_16 ?_
  refine gx_putI fl_X10_28 fp_X10_5 sh1 rfl dX10_open_17 ?_
  exact gx_vret rfl rfl dX10_open_20
theorem c_X10_open (d : Nat) (hd : 0 ≤ d) (v1 : Int32) (M : HMem) : MX iX10_open d [.inr (some 1), .inl v1] M eV (some (f_X10_open v1 M)) := mx_of (by decide +kernel) (Nat.le_of_ble_eq_true rfl) rfl (w_X10_open d hd v1 M)
-- X10_faultAnswer
def f_X10_faultAnswer  (M : HMem) : Int32 :=
  (((-1000) * (M 1 4)) - (M 1 5))
set_option maxRecDepth 20000 in
theorem w_X10_faultAnswer (d : Nat) (hd : 0 ≤ d)  (M : HMem) : GX iX10_faultAnswer d (eP M) (some (f_X10_faultAnswer  M)) 0 [some (.inr (some 1))] [] M := by
  rw [f_X10_faultAnswer]
  refine gx_sipush (x := (-1000)) (by decide) dX10_faultAnswer_0 ?_
  refine gx_aload_n dX10_faultAnswer_3 rfl ?_
  refine gx_getI fl_X10_25 sh1 rfl dX10_faultAnswer_4 ?_
  refine gx_imul dX10_faultAnswer_7 ?_
  refine gx_aload_n dX10_faultAnswer_8 rfl ?_
  refine gx_getI fl_X10_28 sh1 rfl dX10_faultAnswer_9 ?_
  refine gx_isub dX10_faultAnswer_12 ?_
  exact gx_iret rfl rfl dX10_faultAnswer_13
theorem c_X10_faultAnswer (d : Nat) (hd : 0 ≤ d)  (M : HMem) : MX iX10_faultAnswer d [.inr (some 1)] M (eP M) (some (f_X10_faultAnswer  M)) := mx_of (by decide +kernel) (Nat.le_of_ble_eq_true rfl) rfl (w_X10_faultAnswer d hd  M)
-- X11_hound
def f_X11_hound (v1 : Int32) (v2 : Int32) (v3 : Int32) (M : HMem) : Option (Int32 × HMem) :=
  if (f_X11_isWithin v1 5) = 0 then
    (some (0, M))
  else
    (if (f_X11_isOnLand v2 v3) = 0 then
      (some (0, M))
    else
      (hb1 (f_X8_tell 35 v1 (f_X11_placeOf v2 v3) M) (fun M101 =>
      some (1, M101))))
set_option maxRecDepth 20000 in
theorem w_X11_hound (d : Nat) (hd : 2 ≤ d) (v1 : Int32) (v2 : Int32) (v3 : Int32) (M : HMem) : GX iX11_hound d eI (f_X11_hound v1 v2 v3 M) 0 [some (.inr (some 0)), some (.inl v1), some (.inl v2), some (.inl v3)] [] M := by
  rw [f_X11_hound]
  refine gx_iload_n dX11_hound_0 rfl ?_
  refine gx_iconst (x := 5) (by decide) dX11_hound_1 ?_
  refine gx_cS_it (av := [.inl v1, .inl 5]) (st := []) ml_X11_88 (by omega) (c_X11_isWithin (d - 1) (by omega) v1 5 M) rfl rfl (Nat.le_of_ble_eq_true rfl) dX11_hound_2 ?_
  refine gx_if_eq (tgt := 16) dX11_hound_5 (by decide) ?_ ?_
  · refine gx_iconst (x := 0) (by decide) dX11_hound_16 ?_
    exact gx_zret rfl (by decide) rfl dX11_hound_17
  refine gx_iload_n dX11_hound_8 rfl ?_
  refine gx_iload_n dX11_hound_9 rfl ?_
  refine gx_cS_it (av := [.inl v2, .inl v3]) (st := []) ml_X11_92 (by omega) (c_X11_isOnLand (d - 1) (by omega) v2 v3 M) rfl rfl (Nat.le_of_ble_eq_true rfl) dX11_hound_10 ?_
  refine gx_if_ne (tgt := 18) dX11_hound_13 (by decide) ?_ ?_
  · refine gx_aload_n dX11_hound_18 rfl ?_
    refine gx_getR fl_X11_74 sh0 rfl dX11_hound_19 ?_
    refine gx_iload_n dX11_hound_22 rfl ?_
    refine gx_iload_n dX11_hound_23 rfl ?_
    refine gx_iload_n dX11_hound_24 rfl ?_
    refine gx_cS_it (av := [.inl v2, .inl v3]) (st := [.inl v1, .inr (some 35)]) ml_X11_95 (by omega) (c_X11_placeOf (d - 1) (by omega) v2 v3 M) rfl rfl (Nat.le_of_ble_eq_true rfl) dX11_hound_25 ?_
    refine gx_cV_vm (av := [.inl v1, .inl (f_X11_placeOf v2 v3)]) (st := []) ml_X11_99 (by omega) sh35 (c_X8_tell (d - 1) (by omega) 35 (Or.inl rfl) v1 (f_X11_placeOf v2 v3) M) rfl rfl (Nat.le_of_ble_eq_true rfl) dX11_hound_28 (fun M101 => ?_)
    refine gx_iconst (x := 1) (by decide) dX11_hound_31 ?_
    exact gx_zret rfl (by decide) rfl dX11_hound_32
  refine gx_iconst (x := 0) (by decide) dX11_hound_16 ?_
  exact gx_zret rfl (by decide) rfl dX11_hound_17
theorem c_X11_hound (d : Nat) (hd : 2 ≤ d) (v1 : Int32) (v2 : Int32) (v3 : Int32) (M : HMem) : MX iX11_hound d [.inr (some 0), .inl v1, .inl v2, .inl v3] M eI (f_X11_hound v1 v2 v3 M) := mx_of (by decide +kernel) (Nat.le_of_ble_eq_true rfl) rfl (w_X11_hound d hd v1 v2 v3 M)
-- X11_fading
def f_X11_fading (v1 : Int32) (M : HMem) : Option (Int32 × HMem) :=
  if (f_X11_isWithin v1 9) = 0 then
    (some (0, M))
  else
    (some (1, hset M 3 2 v1))
set_option maxRecDepth 20000 in
theorem w_X11_fading (d : Nat) (hd : 1 ≤ d) (v1 : Int32) (M : HMem) : GX iX11_fading d eI (f_X11_fading v1 M) 0 [some (.inr (some 0)), some (.inl v1)] [] M := by
  rw [f_X11_fading]
  refine gx_iload_n dX11_fading_0 rfl ?_
  refine gx_bipush (x := 9) (by decide) dX11_fading_1 ?_
  refine gx_cS_it (av := [.inl v1, .inl 9]) (st := []) ml_X11_88 (by omega) (c_X11_isWithin (d - 1) (by omega) v1 9 M) rfl rfl (Nat.le_of_ble_eq_true rfl) dX11_fading_3 ?_
  refine gx_if_ne (tgt := 11) dX11_fading_6 (by decide) ?_ ?_
  · refine gx_aload_n dX11_fading_11 rfl ?_
    refine gx_getR fl_X11_19 sh0 rfl dX11_fading_12 ?_
    refine gx_iload_n dX11_fading_15 rfl ?_
    refine gx_putI fl_X11_103 fp_X0_2 sh3 rfl dX11_fading_16 ?_
    refine gx_iconst (x := 1) (by decide) dX11_fading_19 ?_
    exact gx_zret rfl (by decide) rfl dX11_fading_20
  refine gx_iconst (x := 0) (by decide) dX11_fading_9 ?_
  exact gx_zret rfl (by decide) rfl dX11_fading_10
theorem c_X11_fading (d : Nat) (hd : 1 ≤ d) (v1 : Int32) (M : HMem) : MX iX11_fading d [.inr (some 0), .inl v1] M eI (f_X11_fading v1 M) := mx_of (by decide +kernel) (Nat.le_of_ble_eq_true rfl) rfl (w_X11_fading d hd v1 M)
-- X11_time
def f_X11_time (v1 : Int32) (M : HMem) : Option (Int32 × HMem) :=
  if v1 < (M 35 4) then
    (some (0, M))
  else
    (if v1 ≤ 9999 then
      (some (1, hset M 35 4 v1))
    else
      (some (0, M)))
set_option maxRecDepth 20000 in
theorem w_X11_time (d : Nat) (hd : 0 ≤ d) (v1 : Int32) (M : HMem) : GX iX11_time d eI (f_X11_time v1 M) 0 [some (.inr (some 0)), some (.inl v1)] [] M := by
  rw [f_X11_time]
  refine gx_iload_n dX11_time_0 rfl ?_
  refine gx_aload_n dX11_time_1 rfl ?_
  refine gx_getR fl_X11_74 sh0 rfl dX11_time_2 ?_
  refine gx_getI fl_X11_107 sh35 rfl dX11_time_5 ?_
  refine gx_icmp_lt (tgt := 18) dX11_time_8 (by decide) ?_ ?_
  · refine gx_iconst (x := 0) (by decide) dX11_time_18 ?_
    exact gx_zret rfl (by decide) rfl dX11_time_19
  refine gx_iload_n dX11_time_11 rfl ?_
  refine gx_sipush (x := 9999) (by decide) dX11_time_12 ?_
  refine gx_icmp_le (tgt := 20) dX11_time_15 (by decide) ?_ ?_
  · refine gx_aload_n dX11_time_20 rfl ?_
    refine gx_getR fl_X11_74 sh0 rfl dX11_time_21 ?_
    refine gx_iload_n dX11_time_24 rfl ?_
    refine gx_putI fl_X11_107 fp_X8_4 sh35 rfl dX11_time_25 ?_
    refine gx_iconst (x := 1) (by decide) dX11_time_28 ?_
    exact gx_zret rfl (by decide) rfl dX11_time_29
  refine gx_iconst (x := 0) (by decide) dX11_time_18 ?_
  exact gx_zret rfl (by decide) rfl dX11_time_19
theorem c_X11_time (d : Nat) (hd : 0 ≤ d) (v1 : Int32) (M : HMem) : MX iX11_time d [.inr (some 0), .inl v1] M eI (f_X11_time v1 M) := mx_of (by decide +kernel) (Nat.le_of_ble_eq_true rfl) rfl (w_X11_time d hd v1 M)

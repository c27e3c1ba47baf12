-- X12_momentGoes
def f_X12_momentGoes_L2 (n : Nat)  : Nat → Int32 → HMem → Option HMem
  | 0, _, _ => none
  | k + 1, v1, M =>
    if 6 ≤ v1 then
      (some (hset M 75 30 ((M 75 30) + 1)))
    else
      (hb1 (f_X12_isHound v1 M) (fun x101 =>
      if x101 = 0 then
        (f_X12_momentGoes_L2 n k (v1 + 1) M)
      else
        (if hib (24 + v1) 32 then
        if (M 75 (Int32.toNatClampNeg (24 + v1))) = 0 then
          (hb1 (f_X12_turnOf n v1 M) (fun M102 =>
          f_X12_momentGoes_L2 n k (v1 + 1) M102))
        else
          (f_X12_momentGoes_L2 n k (v1 + 1) M)
        else none)))
set_option maxRecDepth 20000 in
theorem w_X12_momentGoes_L2 (d : Nat) (hd : 7 ≤ d) (n : Nat)  : ∀ (k : Nat) (v1 : Int32) (M : HMem), GX iX12_momentGoes d eV (f_X12_momentGoes_L2 n k v1 M) 2 [some (.inr (some 74)), some (.inl v1)] [] M := by
  intro k
  induction k with
  | zero => intro v1 M; exact gx_none
  | succ k ih =>
    intro v1 M
    rw [f_X12_momentGoes_L2]
    refine gx_iload_n dX12_momentGoes_2 rfl ?_
    refine gx_bipush (x := 6) (by decide) dX12_momentGoes_3 ?_
    refine gx_icmp_ge (tgt := 39) dX12_momentGoes_5 (by decide) ?_ ?_
    · refine gx_aload_n dX12_momentGoes_39 rfl ?_
      refine gx_getR fl_X12_7 sh74 rfl dX12_momentGoes_40 ?_
      refine gx_bipush (x := 30) (by decide) dX12_momentGoes_43 ?_
      refine gx_aload_n dX12_momentGoes_45 rfl ?_
      refine gx_getR fl_X12_7 sh74 rfl dX12_momentGoes_46 ?_
      refine gx_bipush (x := 30) (by decide) dX12_momentGoes_49 ?_
      refine gx_ialoadL (j := 30) sh75 (by decide) (by decide) dX12_momentGoes_51 ?_
      refine gx_iconst (x := 1) (by decide) dX12_momentGoes_52 ?_
      refine gx_iadd dX12_momentGoes_53 ?_
      refine gx_iastoreL (j := 30) sh75 (by decide) (by decide) dX12_momentGoes_54 ?_
      exact gx_vret rfl rfl dX12_momentGoes_55
    refine gx_aload_n dX12_momentGoes_8 rfl ?_
    refine gx_iload_n dX12_momentGoes_9 rfl ?_
    refine gx_cV_ip (av := [.inl v1]) (st := []) ml_X12_286 (by omega) sh74 (c_X12_isHound (d - 1) (by omega) v1 M) rfl rfl (Nat.le_of_ble_eq_true rfl) dX12_momentGoes_10 (fun x101 => ?_)
    refine gx_if_eq (tgt := 33) dX12_momentGoes_13 (by decide) ?_ ?_
    · refine gx_iinc (y := v1 + 1) (lv' := [some (.inr (some 74)), some (.inl (v1 + 1))]) dX12_momentGoes_33 rfl rfl (by decide) rfl ?_
      refine gx_goto (tgt := 2) dX12_momentGoes_36 (by decide) ?_
      refine gx_mk (lv' := [some (.inr (some 74)), some (.inl (v1 + 1))]) [true, true] rfl ?_
      exact ih (v1 + 1) M
    refine gx_aload_n dX12_momentGoes_16 rfl ?_
    refine gx_getR fl_X12_7 sh74 rfl dX12_momentGoes_17 ?_
    refine gx_bipush (x := 24) (by decide) dX12_momentGoes_20 ?_
    refine gx_iload_n dX12_momentGoes_22 rfl ?_
    refine gx_iadd dX12_momentGoes_23 ?_
    refine gx_iaload sh75 dX12_momentGoes_24 ?_
    refine gx_if_ne (tgt := 33) dX12_momentGoes_25 (by decide) ?_ ?_
    · refine gx_iinc (y := v1 + 1) (lv' := [some (.inr (some 74)), some (.inl (v1 + 1))]) dX12_momentGoes_33 rfl rfl (by decide) rfl ?_
      refine gx_goto (tgt := 2) dX12_momentGoes_36 (by decide) ?_
      refine gx_mk (lv' := [some (.inr (some 74)), some (.inl (v1 + 1))]) [true, true] rfl ?_
      exact ih (v1 + 1) M
    refine gx_aload_n dX12_momentGoes_28 rfl ?_
    refine gx_iload_n dX12_momentGoes_29 rfl ?_
    refine gx_cV_vm (av := [.inl v1]) (st := []) ml_X12_331 (by omega) sh74 (c_X12_turnOf (d - 1) (by omega) n v1 M) rfl rfl (Nat.le_of_ble_eq_true rfl) dX12_momentGoes_30 (fun M102 => ?_)
    refine gx_iinc (y := v1 + 1) (lv' := [some (.inr (some 74)), some (.inl (v1 + 1))]) dX12_momentGoes_33 rfl rfl (by decide) rfl ?_
    refine gx_goto (tgt := 2) dX12_momentGoes_36 (by decide) ?_
    refine gx_mk (lv' := [some (.inr (some 74)), some (.inl (v1 + 1))]) [true, true] rfl ?_
    exact ih (v1 + 1) M102
def f_X12_momentGoes (n : Nat)  (M : HMem) : Option HMem :=
  f_X12_momentGoes_L2 n n 0 M
set_option maxRecDepth 20000 in
theorem w_X12_momentGoes (d : Nat) (hd : 7 ≤ d) (n : Nat)  (M : HMem) : GX iX12_momentGoes d eV (f_X12_momentGoes n  M) 0 [some (.inr (some 74)), none] [] M := by
  rw [f_X12_momentGoes]
  refine gx_iconst (x := 0) (by decide) dX12_momentGoes_0 ?_
  refine gx_istore_n (lv' := [some (.inr (some 74)), some (.inl 0)]) dX12_momentGoes_1 (by decide) rfl ?_
  refine gx_mk (lv' := [some (.inr (some 74)), some (.inl 0)]) [true, true] rfl ?_
  exact w_X12_momentGoes_L2 d hd n  n 0 M
theorem c_X12_momentGoes (d : Nat) (hd : 7 ≤ d) (n : Nat)  (M : HMem) : MX iX12_momentGoes d [.inr (some 74)] M eV (f_X12_momentGoes n  M) := mx_of (by decide +kernel) (Nat.le_of_ble_eq_true rfl) rfl (w_X12_momentGoes d hd n  M)
-- X12_momentsGo
def f_X12_momentsGo_L2 (n : Nat) (v1 : Int32) : Nat → Int32 → HMem → Option HMem
  | 0, _, _ => none
  | k + 1, v2, M =>
    if v1 ≤ v2 then
      (some M)
    else
      (if 9999 ≤ (M 75 30) then
        (some M)
      else
        (hb1 (f_X12_momentGoes n  M) (fun M101 =>
        f_X12_momentsGo_L2 n v1 k (v2 + 1) M101)))
set_option maxRecDepth 20000 in
theorem w_X12_momentsGo_L2 (d : Nat) (hd : 8 ≤ d) (n : Nat) (v1 : Int32) : ∀ (k : Nat) (v2 : Int32) (M : HMem), GX iX12_momentsGo d eV (f_X12_momentsGo_L2 n v1 k v2 M) 2 [some (.inr (some 74)), some (.inl v1), some (.inl v2)] [] M := by
  intro k
  induction k with
  | zero => intro v2 M; exact gx_none
  | succ k ih =>
    intro v2 M
    rw [f_X12_momentsGo_L2]
    refine gx_iload_n dX12_momentsGo_2 rfl ?_
    refine gx_iload_n dX12_momentsGo_3 rfl ?_
    refine gx_icmp_ge (tgt := 30) dX12_momentsGo_4 (by decide) ?_ ?_
    · exact gx_vret rfl rfl dX12_momentsGo_30
    refine gx_aload_n dX12_momentsGo_7 rfl ?_
    refine gx_getR fl_X12_7 sh74 rfl dX12_momentsGo_8 ?_
    refine gx_bipush (x := 30) (by decide) dX12_momentsGo_11 ?_
    refine gx_ialoadL (j := 30) sh75 (by decide) (by decide) dX12_momentsGo_13 ?_
    refine gx_sipush (x := 9999) (by decide) dX12_momentsGo_14 ?_
    refine gx_icmp_ge (tgt := 30) dX12_momentsGo_17 (by decide) ?_ ?_
    · exact gx_vret rfl rfl dX12_momentsGo_30
    refine gx_aload_n dX12_momentsGo_20 rfl ?_
    refine gx_cV_vm (av := []) (st := []) ml_X12_334 (by omega) sh74 (c_X12_momentGoes (d - 1) (by omega) n  M) rfl rfl (Nat.le_of_ble_eq_true rfl) dX12_momentsGo_21 (fun M101 => ?_)
    refine gx_iinc (y := v2 + 1) (lv' := [some (.inr (some 74)), some (.inl v1), some (.inl (v2 + 1))]) dX12_momentsGo_24 rfl rfl (by decide) rfl ?_
    refine gx_goto (tgt := 2) dX12_momentsGo_27 (by decide) ?_
    refine gx_mk (lv' := [some (.inr (some 74)), some (.inl v1), some (.inl (v2 + 1))]) [true, true, true] rfl ?_
    exact ih (v2 + 1) M101
def f_X12_momentsGo (n : Nat) (v1 : Int32) (M : HMem) : Option HMem :=
  f_X12_momentsGo_L2 n v1 n 0 M
set_option maxRecDepth 20000 in
theorem w_X12_momentsGo (d : Nat) (hd : 8 ≤ d) (n : Nat) (v1 : Int32) (M : HMem) : GX iX12_momentsGo d eV (f_X12_momentsGo n v1 M) 0 [some (.inr (some 74)), some (.inl v1), none] [] M := by
  rw [f_X12_momentsGo]
  refine gx_iconst (x := 0) (by decide) dX12_momentsGo_0 ?_
  refine gx_istore_n (lv' := [some (.inr (some 74)), some (.inl v1), some (.inl 0)]) dX12_momentsGo_1 (by decide) rfl ?_
  refine gx_mk (lv' := [some (.inr (some 74)), some (.inl v1), some (.inl 0)]) [true, true, true] rfl ?_
  exact w_X12_momentsGo_L2 d hd n v1 n 0 M
theorem c_X12_momentsGo (d : Nat) (hd : 8 ≤ d) (n : Nat) (v1 : Int32) (M : HMem) : MX iX12_momentsGo d [.inr (some 74), .inl v1] M eV (f_X12_momentsGo n v1 M) := mx_of (by decide +kernel) (Nat.le_of_ble_eq_true rfl) rfl (w_X12_momentsGo d hd n v1 M)
-- X12_faring
def f_X12_faring_L4 (n : Nat) (v1 : Int32) (M : HMem) : Nat → Int32 → Int32 → Option Int32
  | 0, _, _ => none
  | k + 1, v2, v3 =>
    if 6 ≤ v3 then
      (some v2)
    else
      (hb1 (f_X12_isHound v3 M) (fun x101 =>
      if x101 = 0 then
        (f_X12_faring_L4 n v1 M k v2 (v3 + 1))
      else
        (if hib (24 + v3) 32 then
        if (M 75 (Int32.toNatClampNeg (24 + v3))) = v1 then
          (f_X12_faring_L4 n v1 M k (v2 ||| (1 <<< (v3 &&& 31))) (v3 + 1))
        else
          (f_X12_faring_L4 n v1 M k v2 (v3 + 1))
        else none)))
set_option maxRecDepth 20000 in
theorem w_X12_faring_L4 (d : Nat) (hd : 2 ≤ d) (n : Nat) (M : HMem) (v1 : Int32) : ∀ (k : Nat) (v2 : Int32) (v3 : Int32), GX iX12_faring d (eP M) (f_X12_faring_L4 n v1 M k v2 v3) 4 [some (.inr (some 74)), some (.inl v1), some (.inl v2), some (.inl v3)] [] M := by
  intro k
  induction k with
  | zero => intro v2 v3; exact gx_none
  | succ k ih =>
    intro v2 v3
    rw [f_X12_faring_L4]
    refine gx_iload_n dX12_faring_4 rfl ?_
    refine gx_bipush (x := 6) (by decide) dX12_faring_5 ?_
    refine gx_icmp_ge (tgt := 43) dX12_faring_7 (by decide) ?_ ?_
    · refine gx_iload_n dX12_faring_43 rfl ?_
      exact gx_iret rfl rfl dX12_faring_44
    refine gx_aload_n dX12_faring_10 rfl ?_
    refine gx_iload_n dX12_faring_11 rfl ?_
    refine gx_cV_ip (av := [.inl v3]) (st := []) ml_X12_286 (by omega) sh74 (c_X12_isHound (d - 1) (by omega) v3 M) rfl rfl (Nat.le_of_ble_eq_true rfl) dX12_faring_12 (fun x101 => ?_)
    refine gx_if_eq (tgt := 37) dX12_faring_15 (by decide) ?_ ?_
    · refine gx_iinc (y := v3 + 1) (lv' := [some (.inr (some 74)), some (.inl v1), some (.inl v2), some (.inl (v3 + 1))]) dX12_faring_37 rfl rfl (by decide) rfl ?_
      refine gx_goto (tgt := 4) dX12_faring_40 (by decide) ?_
      refine gx_mk (lv' := [some (.inr (some 74)), some (.inl v1), some (.inl v2), some (.inl (v3 + 1))]) [true, true, true, true] rfl ?_
      exact ih v2 (v3 + 1)
    refine gx_aload_n dX12_faring_18 rfl ?_
    refine gx_getR fl_X12_7 sh74 rfl dX12_faring_19 ?_
    refine gx_bipush (x := 24) (by decide) dX12_faring_22 ?_
    refine gx_iload_n dX12_faring_24 rfl ?_
    refine gx_iadd dX12_faring_25 ?_
    refine gx_iaload sh75 dX12_faring_26 ?_
    refine gx_iload_n dX12_faring_27 rfl ?_
    refine gx_icmp_ne (tgt := 37) dX12_faring_28 (by decide) ?_ ?_
    · refine gx_iinc (y := v3 + 1) (lv' := [some (.inr (some 74)), some (.inl v1), some (.inl v2), some (.inl (v3 + 1))]) dX12_faring_37 rfl rfl (by decide) rfl ?_
      refine gx_goto (tgt := 4) dX12_faring_40 (by decide) ?_
      refine gx_mk (lv' := [some (.inr (some 74)), some (.inl v1), some (.inl v2), some (.inl (v3 + 1))]) [true, true, true, true] rfl ?_
      exact ih v2 (v3 + 1)
    refine gx_iload_n dX12_faring_31 rfl ?_
    refine gx_iconst (x := 1) (by decide) dX12_faring_32 ?_
    refine gx_iload_n dX12_faring_33 rfl ?_
    refine gx_ishl dX12_faring_34 ?_
    refine gx_ior dX12_faring_35 ?_
    refine gx_istore_n (lv' := [some (.inr (some 74)), some (.inl v1), some (.inl (v2 ||| (1 <<< (v3 &&& 31)))), some (.inl v3)]) dX12_faring_36 (by decide) rfl ?_
    refine gx_iinc (y := v3 + 1) (lv' := [some (.inr (some 74)), some (.inl v1), some (.inl (v2 ||| (1 <<< (v3 &&& 31)))), some (.inl (v3 + 1))]) dX12_faring_37 rfl rfl (by decide) rfl ?_
    refine gx_goto (tgt := 4) dX12_faring_40 (by decide) ?_
    refine gx_mk (lv' := [some (.inr (some 74)), some (.inl v1), some (.inl (v2 ||| (1 <<< (v3 &&& 31)))), some (.inl (v3 + 1))]) [true, true, true, true] rfl ?_
    exact ih (v2 ||| (1 <<< (v3 &&& 31))) (v3 + 1)
def f_X12_faring (n : Nat) (v1 : Int32) (M : HMem) : Option Int32 :=
  f_X12_faring_L4 n v1 M n 0 0
set_option maxRecDepth 20000 in
theorem w_X12_faring (d : Nat) (hd : 2 ≤ d) (n : Nat) (v1 : Int32) (M : HMem) : GX iX12_faring d (eP M) (f_X12_faring n v1 M) 0 [some (.inr (some 74)), some (.inl v1), none, none] [] M := by
  rw [f_X12_faring]
  refine gx_iconst (x := 0) (by decide) dX12_faring_0 ?_
  refine gx_istore_n (lv' := [some (.inr (some 74)), some (.inl v1), some (.inl 0), none]) dX12_faring_1 (by decide) rfl ?_
  refine gx_iconst (x := 0) (by decide) dX12_faring_2 ?_
  refine gx_istore_n (lv' := [some (.inr (some 74)), some (.inl v1), some (.inl 0), some (.inl 0)]) dX12_faring_3 (by decide) rfl ?_
  refine gx_mk (lv' := [some (.inr (some 74)), some (.inl v1), some (.inl 0), some (.inl 0)]) [true, true, true, true] rfl ?_
  exact w_X12_faring_L4 d hd n M v1 n 0 0
theorem c_X12_faring (d : Nat) (hd : 2 ≤ d) (n : Nat) (v1 : Int32) (M : HMem) : MX iX12_faring d [.inr (some 74), .inl v1] M (eP M) (f_X12_faring n v1 M) := mx_of (by decide +kernel) (Nat.le_of_ble_eq_true rfl) rfl (w_X12_faring d hd n v1 M)
-- X12_moments
def f_X12_moments (n : Nat) (v1 : Int32) (M : HMem) : Option (Int32 × HMem) :=
  if (f_X12_in v1 1 100) = 0 then
    (some ((-1), M))
  else
    (hb1 (f_X12_momentsGo n v1 M) (fun M101 =>
    hb1 (f_X12_faring n 0 M101) (fun x102 =>
    hb1 (f_X12_bits n x102) (fun x103 =>
    some (x103, M101)))))
set_option maxRecDepth 20000 in
theorem w_X12_moments (d : Nat) (hd : 9 ≤ d) (n : Nat) (v1 : Int32) (M : HMem) : GX iX12_moments d eI (f_X12_moments n v1 M) 0 [some (.inr (some 74)), some (.inl v1)] [] M := by
  rw [f_X12_moments]
  refine gx_iload_n dX12_moments_0 rfl ?_
  refine gx_iconst (x := 1) (by decide) dX12_moments_1 ?_
  refine gx_bipush (x := 100) (by decide) dX12_moments_2 ?_
  refine gx_cS_it (av := [.inl v1, .inl 1, .inl 100]) (st := []) ml_X12_118 (by omega) (c_X12_in (d - 1) (by omega) v1 1 100 M) rfl rfl (Nat.le_of_ble_eq_true rfl) dX12_moments_4 ?_
  refine gx_if_ne (tgt := 12) dX12_moments_7 (by decide) ?_ ?_
  · refine gx_aload_n dX12_moments_12 rfl ?_
    refine gx_iload_n dX12_moments_13 rfl ?_
    refine gx_cV_vm (av := [.inl v1]) (st := []) ml_X12_337 (by omega) sh74 (c_X12_momentsGo (d - 1) (by omega) n v1 M) rfl rfl (Nat.le_of_ble_eq_true rfl) dX12_moments_14 (fun M101 => ?_)
    refine gx_aload_n dX12_moments_17 rfl ?_
    refine gx_iconst (x := 0) (by decide) dX12_moments_18 ?_
    refine gx_cV_ip (av := [.inl 0]) (st := []) ml_X12_340 (by omega) sh74 (c_X12_faring (d - 1) (by omega) n 0 M101) rfl rfl (Nat.le_of_ble_eq_true rfl) dX12_moments_19 (fun x102 => ?_)
    refine gx_cS_ip (av := [.inl x102]) (st := []) ml_X12_343 (by omega) (c_X12_bits (d - 1) (by omega) n x102 M101) rfl rfl (Nat.le_of_ble_eq_true rfl) dX12_moments_22 (fun x103 => ?_)
    exact gx_iret rfl rfl dX12_moments_25
  refine gx_iconst (x := (-1)) (by decide) dX12_moments_10 ?_
  exact gx_iret rfl rfl dX12_moments_11
theorem c_X12_moments (d : Nat) (hd : 9 ≤ d) (n : Nat) (v1 : Int32) (M : HMem) : MX iX12_moments d [.inr (some 74), .inl v1] M eI (f_X12_moments n v1 M) := mx_of (by decide +kernel) (Nat.le_of_ble_eq_true rfl) rfl (w_X12_moments d hd n v1 M)
-- X12_tried
def f_X12_tried_J54 (n : Nat) (v1 : Int32) (v2 : Int32) (M : HMem) : Option (Int32 × HMem) :=
  hb1 (f_X12_copies n 75 32 76 32 M) (fun M101 =>
  hb1 (f_X12_momentsGo n v1 M101) (fun M102 =>
  if 3 ≤ v2 then
    (if 20 ≤ v2 then
      (if 30 ≤ v2 then
        (if hib ((18 + v2) - 30) 32 then
        hb1 (f_X12_copies n 76 32 75 32 M102) (fun M103 =>
        some (M102 75 (Int32.toNatClampNeg ((18 + v2) - 30)), M103))
        else none)
      else
        (if hib ((12 + v2) - 20) 32 then
        hb1 (f_X12_copies n 76 32 75 32 M102) (fun M104 =>
        some (M102 75 (Int32.toNatClampNeg ((12 + v2) - 20)), M104))
        else none))
    else
      (if hib ((6 + v2) - 10) 32 then
      hb1 (f_X12_copies n 76 32 75 32 M102) (fun M105 =>
      some (M102 75 (Int32.toNatClampNeg ((6 + v2) - 10)), M105))
      else none))
  else
    (hb1 (f_X12_faring n v2 M102) (fun x106 =>
    hb1 (f_X12_copies n 76 32 75 32 M102) (fun M107 =>
    some (x106, M107))))))
set_option maxRecDepth 20000 in
theorem w_X12_tried_J54 (d : Nat) (hd : 9 ≤ d) (n : Nat) (M : HMem) (v1 : Int32) (v2 : Int32) : GX iX12_tried d eI (f_X12_tried_J54 n v1 v2 M) 54 [some (.inr (some 74)), some (.inl v1), some (.inl v2), none] [] M := by
  rw [f_X12_tried_J54]
  refine gx_aload_n dX12_tried_54 rfl ?_
  refine gx_getR fl_X12_7 sh74 rfl dX12_tried_55 ?_
  refine gx_aload_n dX12_tried_58 rfl ?_
  refine gx_getR fl_X12_13 sh74 rfl dX12_tried_59 ?_
  refine gx_cS_vm (av := [.inr (some 75), .inr (some 76)]) (st := []) ml_X12_346 (by omega) (c_X12_copies (d - 1) (by omega) n 75 32 sh75 76 32 sh76 M) rfl rfl (Nat.le_of_ble_eq_true rfl) dX12_tried_62 (fun M101 => ?_)
  refine gx_aload_n dX12_tried_65 rfl ?_
  refine gx_iload_n dX12_tried_66 rfl ?_
  refine gx_cV_vm (av := [.inl v1]) (st := []) ml_X12_337 (by omega) sh74 (c_X12_momentsGo (d - 1) (by omega) n v1 M101) rfl rfl (Nat.le_of_ble_eq_true rfl) dX12_tried_67 (fun M102 => ?_)
  refine gx_iload_n dX12_tried_70 rfl ?_
  refine gx_iconst (x := 3) (by decide) dX12_tried_71 ?_
  refine gx_icmp_ge (tgt := 83) dX12_tried_72 (by decide) ?_ ?_
  · refine gx_iload_n dX12_tried_83 rfl ?_
    refine gx_bipush (x := 20) (by decide) dX12_tried_84 ?_
    refine gx_icmp_ge (tgt := 104) dX12_tried_86 (by decide) ?_ ?_
    · refine gx_iload_n dX12_tried_104 rfl ?_
      refine gx_bipush (x := 30) (by decide) dX12_tried_105 ?_
      refine gx_icmp_ge (tgt := 125) dX12_tried_107 (by decide) ?_ ?_
      · refine gx_aload_n dX12_tried_125 rfl ?_
        refine gx_getR fl_X12_7 sh74 rfl dX12_tried_126 ?_
        refine gx_bipush (x := 18) (by decide) dX12_tried_129 ?_
        refine gx_iload_n dX12_tried_131 rfl ?_
        refine gx_iadd dX12_tried_132 ?_
        refine gx_bipush (x := 30) (by decide) dX12_tried_133 ?_
        refine gx_isub dX12_tried_135 ?_
        refine gx_iaload sh75 dX12_tried_136 ?_
        refine gx_istore_n (lv' := [some (.inr (some 74)), some (.inl v1), some (.inl v2), some (.inl (M102 75 (Int32.toNatClampNeg ((18 + v2) - 30))))]) dX12_tried_137 (by decide) rfl ?_
        refine gx_aload_n dX12_tried_138 rfl ?_
        refine gx_getR fl_X12_13 sh74 rfl dX12_tried_139 ?_
        refine gx_aload_n dX12_tried_142 rfl ?_
        refine gx_getR fl_X12_7 sh74 rfl dX12_tried_143 ?_
        refine gx_cS_vm (av := [.inr (some 76), .inr (some 75)]) (st := []) ml_X12_346 (by omega) (c_X12_copies (d - 1) (by omega) n 76 32 sh76 75 32 sh75 M102) rfl rfl (Nat.le_of_ble_eq_true rfl) dX12_tried_146 (fun M103 => ?_)
        refine gx_iload_n dX12_tried_149 rfl ?_
        exact gx_iret rfl rfl dX12_tried_150
      refine gx_aload_n dX12_tried_110 rfl ?_
      refine gx_getR fl_X12_7 sh74 rfl dX12_tried_111 ?_
      refine gx_bipush (x := 12) (by decide) dX12_tried_114 ?_
      refine gx_iload_n dX12_tried_116 rfl ?_
      refine gx_iadd dX12_tried_117 ?_
      refine gx_bipush (x := 20) (by decide) dX12_tried_118 ?_
      refine gx_isub dX12_tried_120 ?_
      refine gx_iaload sh75 dX12_tried_121 ?_
      refine gx_goto (tgt := 137) dX12_tried_122 (by decide) ?_
      refine gx_istore_n (lv' := [some (.inr (some 74)), some (.inl v1), some (.inl v2), some (.inl (M102 75 (Int32.toNatClampNeg ((12 + v2) - 20))))]) dX12_tried_137 (by decide) rfl ?_
      refine gx_aload_n dX12_tried_138 rfl ?_
      refine gx_getR fl_X12_13 sh74 rfl dX12_tried_139 ?_
      refine gx_aload_n dX12_tried_142 rfl ?_
      refine gx_getR fl_X12_7 sh74 rfl dX12_tried_143 ?_
      refine gx_cS_vm (av := [.inr (some 76), .inr (some 75)]) (st := []) ml_X12_346 (by omega) (c_X12_copies (d - 1) (by omega) n 76 32 sh76 75 32 sh75 M102) rfl rfl (Nat.le_of_ble_eq_true rfl) dX12_tried_146 (fun M104 => ?_)
      refine gx_iload_n dX12_tried_149 rfl ?_
      exact gx_iret rfl rfl dX12_tried_150
    refine gx_aload_n dX12_tried_89 rfl ?_
    refine gx_getR fl_X12_7 sh74 rfl dX12_tried_90 ?_
    refine gx_bipush (x := 6) (by decide) dX12_tried_93 ?_
    refine gx_iload_n dX12_tried_95 rfl ?_
    refine gx_iadd dX12_tried_96 ?_
    refine gx_bipush (x := 10) (by decide) dX12_tried_97 ?_
    refine gx_isub dX12_tried_99 ?_
    refine gx_iaload sh75 dX12_tried_100 ?_
    refine gx_goto (tgt := 137) dX12_tried_101 (by decide) ?_
    refine gx_istore_n (lv' := [some (.inr (some 74)), some (.inl v1), some (.inl v2), some (.inl (M102 75 (Int32.toNatClampNeg ((6 + v2) - 10))))]) dX12_tried_137 (by decide) rfl ?_
    refine gx_aload_n dX12_tried_138 rfl ?_
    refine gx_getR fl_X12_13 sh74 rfl dX12_tried_139 ?_
    refine gx_aload_n dX12_tried_142 rfl ?_
    refine gx_getR fl_X12_7 sh74 rfl dX12_tried_143 ?_
    refine gx_cS_vm (av := [.inr (some 76), .inr (some 75)]) (st := []) ml_X12_346 (by omega) (c_X12_copies (d - 1) (by omega) n 76 32 sh76 75 32 sh75 M102) rfl rfl (Nat.le_of_ble_eq_true rfl) dX12_tried_146 (fun M105 => ?_)
    refine gx_iload_n dX12_tried_149 rfl ?_
    exact gx_iret rfl rfl dX12_tried_150
  refine gx_aload_n dX12_tried_75 rfl ?_
  refine gx_iload_n dX12_tried_76 rfl ?_
  refine gx_cV_ip (av := [.inl v2]) (st := []) ml_X12_340 (by omega) sh74 (c_X12_faring (d - 1) (by omega) n v2 M102) rfl rfl (Nat.le_of_ble_eq_true rfl) dX12_tried_77 (fun x106 => ?_)
  refine gx_goto (tgt := 137) dX12_tried_80 (by decide) ?_
  refine gx_istore_n (lv' := [some (.inr (some 74)), some (.inl v1), some (.inl v2), some (.inl x106)]) dX12_tried_137 (by decide) rfl ?_
  refine gx_aload_n dX12_tried_138 rfl ?_
  refine gx_getR fl_X12_13 sh74 rfl dX12_tried_139 ?_
  refine gx_aload_n dX12_tried_142 rfl ?_
  refine gx_getR fl_X12_7 sh74 rfl dX12_tried_143 ?_
  refine gx_cS_vm (av := [.inr (some 76), .inr (some 75)]) (st := []) ml_X12_346 (by omega) (c_X12_copies (d - 1) (by omega) n 76 32 sh76 75 32 sh75 M102) rfl rfl (Nat.le_of_ble_eq_true rfl) dX12_tried_146 (fun M107 => ?_)
  refine gx_iload_n dX12_tried_149 rfl ?_
  exact gx_iret rfl rfl dX12_tried_150
def f_X12_tried (n : Nat) (v1 : Int32) (v2 : Int32) (M : HMem) : Option (Int32 × HMem) :=
  if (f_X12_in v1 1 100) = 0 then
    (some ((-1), M))
  else
    (if (f_X12_in v2 0 2) = 0 then
      (hb1 (f_X12_isHound (v2 - 10) M) (fun x101 =>
      if x101 = 0 then
        (hb1 (f_X12_isHound (v2 - 20) M) (fun x102 =>
        if x102 = 0 then
          (hb1 (f_X12_isHound (v2 - 30) M) (fun x103 =>
          if x103 = 0 then
            (some ((-1), M))
          else
            (f_X12_tried_J54 n v1 v2 M)))
        else
          (f_X12_tried_J54 n v1 v2 M)))
      else
        (f_X12_tried_J54 n v1 v2 M)))
    else
      (f_X12_tried_J54 n v1 v2 M))
set_option maxRecDepth 20000 in
theorem w_X12_tried (d : Nat) (hd : 9 ≤ d) (n : Nat) (v1 : Int32) (v2 : Int32) (M : HMem) : GX iX12_tried d eI (f_X12_tried n v1 v2 M) 0 [some (.inr (some 74)), some (.inl v1), some (.inl v2), none] [] M := by
  rw [f_X12_tried]
  refine gx_iload_n dX12_tried_0 rfl ?_
  refine gx_iconst (x := 1) (by decide) dX12_tried_1 ?_
  refine gx_bipush (x := 100) (by decide) dX12_tried_2 ?_
  refine gx_cS_it (av := [.inl v1, .inl 1, .inl 100]) (st := []) ml_X12_118 (by omega) (c_X12_in (d - 1) (by omega) v1 1 100 M) rfl rfl (Nat.le_of_ble_eq_true rfl) dX12_tried_4 ?_
  refine gx_if_eq (tgt := 52) dX12_tried_7 (by decide) ?_ ?_
  · refine gx_iconst (x := (-1)) (by decide) dX12_tried_52 ?_
    exact gx_iret rfl rfl dX12_tried_53
  refine gx_iload_n dX12_tried_10 rfl ?_
  refine gx_iconst (x := 0) (by decide) dX12_tried_11 ?_
  refine gx_iconst (x := 2) (by decide) dX12_tried_12 ?_
  refine gx_cS_it (av := [.inl v2, .inl 0, .inl 2]) (st := []) ml_X12_118 (by omega) (c_X12_in (d - 1) (by omega) v2 0 2 M) rfl rfl (Nat.le_of_ble_eq_true rfl) dX12_tried_13 ?_
  refine gx_if_ne (tgt := 54) dX12_tried_16 (by decide) ?_ ?_
  · refine gx_mk (lv' := [some (.inr (some 74)), some (.inl v1), some (.inl v2), none]) [true, true, true, false] rfl ?_
    exact w_X12_tried_J54 d hd n M v1 v2
  refine gx_aload_n dX12_tried_19 rfl ?_
  refine gx_iload_n dX12_tried_20 rfl ?_
  refine gx_bipush (x := 10) (by decide) dX12_tried_21 ?_
  refine gx_isub dX12_tried_23 ?_
  refine gx_cV_ip (av := [.inl (v2 - 10)]) (st := []) ml_X12_286 (by omega) sh74 (c_X12_isHound (d - 1) (by omega) (v2 - 10) M) rfl rfl (Nat.le_of_ble_eq_true rfl) dX12_tried_24 (fun x101 => ?_)
  refine gx_if_ne (tgt := 54) dX12_tried_27 (by decide) ?_ ?_
  · refine gx_mk (lv' := [some (.inr (some 74)), some (.inl v1), some (.inl v2), none]) [true, true, true, false] rfl ?_
    exact w_X12_tried_J54 d hd n M v1 v2
  refine gx_aload_n dX12_tried_30 rfl ?_
  refine gx_iload_n dX12_tried_31 rfl ?_
  refine gx_bipush (x := 20) (by decide) dX12_tried_32 ?_
  refine gx_isub dX12_tried_34 ?_
  refine gx_cV_ip (av := [.inl (v2 - 20)]) (st := []) ml_X12_286 (by omega) sh74 (c_X12_isHound (d - 1) (by omega) (v2 - 20) M) rfl rfl (Nat.le_of_ble_eq_true rfl) dX12_tried_35 (fun x102 => ?_)
  refine gx_if_ne (tgt := 54) dX12_tried_38 (by decide) ?_ ?_
  · refine gx_mk (lv' := [some (.inr (some 74)), some (.inl v1), some (.inl v2), none]) [true, true, true, false] rfl ?_
    exact w_X12_tried_J54 d hd n M v1 v2
  refine gx_aload_n dX12_tried_41 rfl ?_
  refine gx_iload_n dX12_tried_42 rfl ?_
  refine gx_bipush (x := 30) (by decide) dX12_tried_43 ?_
  refine gx_isub dX12_tried_45 ?_
  refine gx_cV_ip (av := [.inl (v2 - 30)]) (st := []) ml_X12_286 (by omega) sh74 (c_X12_isHound (d - 1) (by omega) (v2 - 30) M) rfl rfl (Nat.le_of_ble_eq_true rfl) dX12_tried_46 (fun x103 => ?_)
  refine gx_if_ne (tgt := 54) dX12_tried_49 (by decide) ?_ ?_
  · refine gx_mk (lv' := [some (.inr (some 74)), some (.inl v1), some (.inl v2), none]) [true, true, true, false] rfl ?_
    exact w_X12_tried_J54 d hd n M v1 v2
  refine gx_iconst (x := (-1)) (by decide) dX12_tried_52 ?_
  exact gx_iret rfl rfl dX12_tried_53
theorem c_X12_tried (d : Nat) (hd : 9 ≤ d) (n : Nat) (v1 : Int32) (v2 : Int32) (M : HMem) : MX iX12_tried d [.inr (some 74), .inl v1, .inl v2] M eI (f_X12_tried n v1 v2 M) := mx_of (by decide +kernel) (Nat.le_of_ble_eq_true rfl) rfl (w_X12_tried d hd n v1 v2 M)
-- X12_houndIs
def f_X12_houndIs (v1 : Int32) (v2 : Int32) (M : HMem) : Option Int32 :=
  hb1 (f_X12_isHound v1 M) (fun x101 =>
  if x101 = 0 then
    (some (-1))
  else
    (if (f_X12_in v2 0 3) = 0 then
      (some (-1))
    else
      (if hib ((6 + (6 * v2)) + v1) 32 then
      some (M 75 (Int32.toNatClampNeg ((6 + (6 * v2)) + v1)))
      else none)))
set_option maxRecDepth 20000 in
theorem w_X12_houndIs (d : Nat) (hd : 2 ≤ d) (v1 : Int32) (v2 : Int32) (M : HMem) : GX iX12_houndIs d (eP M) (f_X12_houndIs v1 v2 M) 0 [some (.inr (some 74)), some (.inl v1), some (.inl v2)] [] M := by
  rw [f_X12_houndIs]
  refine gx_aload_n dX12_houndIs_0 rfl ?_
  refine gx_iload_n dX12_houndIs_1 rfl ?_
  refine gx_cV_ip (av := [.inl v1]) (st := []) ml_X12_286 (by omega) sh74 (c_X12_isHound (d - 1) (by omega) v1 M) rfl rfl (Nat.le_of_ble_eq_true rfl) dX12_houndIs_2 (fun x101 => ?_)
  refine gx_if_eq (tgt := 34) dX12_houndIs_5 (by decide) ?_ ?_
  · refine gx_iconst (x := (-1)) (by decide) dX12_houndIs_34 ?_
    exact gx_iret rfl rfl dX12_houndIs_35
  refine gx_iload_n dX12_houndIs_8 rfl ?_
  refine gx_iconst (x := 0) (by decide) dX12_houndIs_9 ?_
  refine gx_iconst (x := 3) (by decide) dX12_houndIs_10 ?_
  refine gx_cS_it (av := [.inl v2, .inl 0, .inl 3]) (st := []) ml_X12_118 (by omega) (c_X12_in (d - 1) (by omega) v2 0 3 M) rfl rfl (Nat.le_of_ble_eq_true rfl) dX12_houndIs_11 ?_
  refine gx_if_eq (tgt := 34) dX12_houndIs_14 (by decide) ?_ ?_
  · refine gx_iconst (x := (-1)) (by decide) dX12_houndIs_34 ?_
    exact gx_iret rfl rfl dX12_houndIs_35
  refine gx_aload_n dX12_houndIs_17 rfl ?_
  refine gx_getR fl_X12_7 sh74 rfl dX12_houndIs_18 ?_
  refine gx_bipush (x := 6) (by decide) dX12_houndIs_21 ?_
  refine gx_bipush (x := 6) (by decide) dX12_houndIs_23 ?_
  refine gx_iload_n dX12_houndIs_25 rfl ?_
  refine gx_imul dX12_houndIs_26 ?_
  refine gx_iadd dX12_houndIs_27 ?_
  refine gx_iload_n dX12_houndIs_28 rfl ?_
  refine gx_iadd dX12_houndIs_29 ?_
  refine gx_iaload sh75 dX12_houndIs_30 ?_
  refine gx_goto (tgt := 35) dX12_houndIs_31 (by decide) ?_
  exact gx_iret rfl rfl dX12_houndIs_35
theorem c_X12_houndIs (d : Nat) (hd : 2 ≤ d) (v1 : Int32) (v2 : Int32) (M : HMem) : MX iX12_houndIs d [.inr (some 74), .inl v1, .inl v2] M (eP M) (f_X12_houndIs v1 v2 M) := mx_of (by decide +kernel) (Nat.le_of_ble_eq_true rfl) rfl (w_X12_houndIs d hd v1 v2 M)
-- X12_lowestOf
def f_X12_lowestOf_L2 (n : Nat) (v0 : Int32) : Nat → Int32 → Option Int32
  | 0, _ => none
  | k + 1, v1 =>
    if (f_X12_has v0 v1) = 0 then
      (f_X12_lowestOf_L2 n v0 k (v1 + 1))
    else
      (some v1)
set_option maxRecDepth 20000 in
theorem w_X12_lowestOf_L2 (d : Nat) (hd : 1 ≤ d) (n : Nat) (v0 : Int32) : ∀ (k : Nat) (v1 : Int32) (M : HMem), GX iX12_lowestOf d (eP M) (f_X12_lowestOf_L2 n v0 k v1) 2 [some (.inl v0), some (.inl v1)] [] M := by
  intro k
  induction k with
  | zero => intro v1 M; exact gx_none
  | succ k ih =>
    intro v1 M
    rw [f_X12_lowestOf_L2]
    refine gx_iload_n dX12_lowestOf_2 rfl ?_
    refine gx_iload_n dX12_lowestOf_3 rfl ?_
    refine gx_cS_it (av := [.inl v0, .inl v1]) (st := []) ml_X12_350 (by omega) (c_X12_has (d - 1) (by omega) v0 v1 M) rfl rfl (Nat.le_of_ble_eq_true rfl) dX12_lowestOf_4 ?_
    refine gx_if_ne (tgt := 17) dX12_lowestOf_7 (by decide) ?_ ?_
    · refine gx_iload_n dX12_lowestOf_17 rfl ?_
      exact gx_iret rfl rfl dX12_lowestOf_18
    refine gx_iload_n dX12_lowestOf_10 rfl ?_
    refine gx_iconst (x := 1) (by decide) dX12_lowestOf_11 ?_
    refine gx_iadd dX12_lowestOf_12 ?_
    refine gx_istore_n (lv' := [some (.inl v0), some (.inl (v1 + 1))]) dX12_lowestOf_13 (by decide) rfl ?_
    refine gx_goto (tgt := 2) dX12_lowestOf_14 (by decide) ?_
    refine gx_mk (lv' := [some (.inl v0), some (.inl (v1 + 1))]) [true, true] rfl ?_
    exact ih (v1 + 1) M
def f_X12_lowestOf (n : Nat) (v0 : Int32) : Option Int32 :=
  f_X12_lowestOf_L2 n v0 n 0
set_option maxRecDepth 20000 in
theorem w_X12_lowestOf (d : Nat) (hd : 1 ≤ d) (n : Nat) (v0 : Int32) (M : HMem) : GX iX12_lowestOf d (eP M) (f_X12_lowestOf n v0) 0 [some (.inl v0), none] [] M := by
  rw [f_X12_lowestOf]
  refine gx_iconst (x := 0) (by decide) dX12_lowestOf_0 ?_
  refine gx_istore_n (lv' := [some (.inl v0), some (.inl 0)]) dX12_lowestOf_1 (by decide) rfl ?_
  refine gx_mk (lv' := [some (.inl v0), some (.inl 0)]) [true, true] rfl ?_
  exact w_X12_lowestOf_L2 d hd n v0 n 0 M
theorem c_X12_lowestOf (d : Nat) (hd : 1 ≤ d) (n : Nat) (v0 : Int32) (M : HMem) : MX iX12_lowestOf d [.inl v0] M (eP M) (f_X12_lowestOf n v0) := mx_of (by decide +kernel) (Nat.le_of_ble_eq_true rfl) rfl (w_X12_lowestOf d hd n v0 M)
-- X12_firstHome
def f_X12_firstHome_J71 (n : Nat) (v2 : Int32) (v3 : Int32) (M : HMem) : Option (Int32 × HMem) :=
  hb1 (f_X12_faring n 1 M) (fun x101 =>
  hb1 (f_X12_copies n 76 32 75 32 M) (fun M102 =>
  if x101 = 0 then
    (some ((-2), M102))
  else
    (if v2 = 0 then
      (some (v3, M102))
    else
      (hb1 (f_X12_lowestOf n x101) (fun x103 =>
      some (x103, M102))))))
set_option maxRecDepth 20000 in
theorem w_X12_firstHome_J71 (d : Nat) (hd : 8 ≤ d) (n : Nat) (M : HMem) (v2 : Int32) (v3 : Int32) : GX iX12_firstHome d eI (f_X12_firstHome_J71 n v2 v3 M) 71 [some (.inr (some 74)), none, some (.inl v2), some (.inl v3), none] [] M := by
  rw [f_X12_firstHome_J71]
  refine gx_aload_n dX12_firstHome_71 rfl ?_
  refine gx_iconst (x := 1) (by decide) dX12_firstHome_72 ?_
  refine gx_cV_ip (av := [.inl 1]) (st := []) ml_X12_340 (by omega) sh74 (c_X12_faring (d - 1) (by omega) n 1 M) rfl rfl (Nat.le_of_ble_eq_true rfl) dX12_firstHome_73 (fun x101 => ?_)
  refine gx_istore (lv' := [some (.inr (some 74)), none, some (.inl v2), some (.inl v3), some (.inl x101)]) dX12_firstHome_76 (by decide) rfl ?_
  refine gx_aload_n dX12_firstHome_78 rfl ?_
  refine gx_getR fl_X12_13 sh74 rfl dX12_firstHome_79 ?_
  refine gx_aload_n dX12_firstHome_82 rfl ?_
  refine gx_getR fl_X12_7 sh74 rfl dX12_firstHome_83 ?_
  refine gx_cS_vm (av := [.inr (some 76), .inr (some 75)]) (st := []) ml_X12_346 (by omega) (c_X12_copies (d - 1) (by omega) n 76 32 sh76 75 32 sh75 M) rfl rfl (Nat.le_of_ble_eq_true rfl) dX12_firstHome_86 (fun M102 => ?_)
  refine gx_iload dX12_firstHome_89 rfl ?_
  refine gx_if_ne (tgt := 97) dX12_firstHome_91 (by decide) ?_ ?_
  · refine gx_iload_n dX12_firstHome_97 rfl ?_
    refine gx_if_ne (tgt := 105) dX12_firstHome_98 (by decide) ?_ ?_
    · refine gx_iload dX12_firstHome_105 rfl ?_
      refine gx_cS_ip (av := [.inl x101]) (st := []) ml_X12_353 (by omega) (c_X12_lowestOf (d - 1) (by omega) n x101 M102) rfl rfl (Nat.le_of_ble_eq_true rfl) dX12_firstHome_107 (fun x103 => ?_)
      exact gx_iret rfl rfl dX12_firstHome_110
    refine gx_iload_n dX12_firstHome_101 rfl ?_
    refine gx_goto (tgt := 110) dX12_firstHome_102 (by decide) ?_
    exact gx_iret rfl rfl dX12_firstHome_110
  refine gx_bipush (x := (-2)) (by decide) dX12_firstHome_94 ?_
  exact gx_iret rfl rfl dX12_firstHome_96
def f_X12_firstHome_L34 (n : Nat) (v1 : Int32) (v2 : Int32) : Nat → Int32 → HMem → Option (Int32 × HMem)
  | 0, _, _ => none
  | k + 1, v3, M =>
    hb1 (f_X12_faring n 1 M) (fun x101 =>
    if x101 = 0 then
      (if v1 ≤ v3 then
        (f_X12_firstHome_J71 n v2 v3 M)
      else
        (if 9999 ≤ (M 75 30) then
          (f_X12_firstHome_J71 n v2 v3 M)
        else
          (hb1 (f_X12_momentGoes n  M) (fun M102 =>
          f_X12_firstHome_L34 n v1 v2 k (v3 + 1) M102))))
    else
      (f_X12_firstHome_J71 n v2 v3 M))
set_option maxRecDepth 20000 in
theorem w_X12_firstHome_L34 (d : Nat) (hd : 8 ≤ d) (n : Nat) (v1 : Int32) (v2 : Int32) : ∀ (k : Nat) (v3 : Int32) (M : HMem), GX iX12_firstHome d eI (f_X12_firstHome_L34 n v1 v2 k v3 M) 34 [some (.inr (some 74)), some (.inl v1), some (.inl v2), some (.inl v3), none] [] M := by
  intro k
  induction k with
  | zero => intro v3 M; exact gx_none
  | succ k ih =>
    intro v3 M
    rw [f_X12_firstHome_L34]
    refine gx_aload_n dX12_firstHome_34 rfl ?_
    refine gx_iconst (x := 1) (by decide) dX12_firstHome_35 ?_
    refine gx_cV_ip (av := [.inl 1]) (st := []) ml_X12_340 (by omega) sh74 (c_X12_faring (d - 1) (by omega) n 1 M) rfl rfl (Nat.le_of_ble_eq_true rfl) dX12_firstHome_36 (fun x101 => ?_)
    refine gx_if_ne (tgt := 71) dX12_firstHome_39 (by decide) ?_ ?_
    · refine gx_mk (lv' := [some (.inr (some 74)), none, some (.inl v2), some (.inl v3), none]) [true, false, true, true, false] rfl ?_
      exact w_X12_firstHome_J71 d hd n M v2 v3
    refine gx_iload_n dX12_firstHome_42 rfl ?_
    refine gx_iload_n dX12_firstHome_43 rfl ?_
    refine gx_icmp_ge (tgt := 71) dX12_firstHome_44 (by decide) ?_ ?_
    · refine gx_mk (lv' := [some (.inr (some 74)), none, some (.inl v2), some (.inl v3), none]) [true, false, true, true, false] rfl ?_
      exact w_X12_firstHome_J71 d hd n M v2 v3
    refine gx_aload_n dX12_firstHome_47 rfl ?_
    refine gx_getR fl_X12_7 sh74 rfl dX12_firstHome_48 ?_
    refine gx_bipush (x := 30) (by decide) dX12_firstHome_51 ?_
    refine gx_ialoadL (j := 30) sh75 (by decide) (by decide) dX12_firstHome_53 ?_
    refine gx_sipush (x := 9999) (by decide) dX12_firstHome_54 ?_
    refine gx_icmp_ge (tgt := 71) dX12_firstHome_57 (by decide) ?_ ?_
    · refine gx_mk (lv' := [some (.inr (some 74)), none, some (.inl v2), some (.inl v3), none]) [true, false, true, true, false] rfl ?_
      exact w_X12_firstHome_J71 d hd n M v2 v3
    refine gx_aload_n dX12_firstHome_60 rfl ?_
    refine gx_cV_vm (av := []) (st := []) ml_X12_334 (by omega) sh74 (c_X12_momentGoes (d - 1) (by omega) n  M) rfl rfl (Nat.le_of_ble_eq_true rfl) dX12_firstHome_61 (fun M102 => ?_)
    refine gx_iload_n dX12_firstHome_64 rfl ?_
    refine gx_iconst (x := 1) (by decide) dX12_firstHome_65 ?_
    refine gx_iadd dX12_firstHome_66 ?_
    refine gx_istore_n (lv' := [some (.inr (some 74)), some (.inl v1), some (.inl v2), some (.inl (v3 + 1)), none]) dX12_firstHome_67 (by decide) rfl ?_
    refine gx_goto (tgt := 34) dX12_firstHome_68 (by decide) ?_
    refine gx_mk (lv' := [some (.inr (some 74)), some (.inl v1), some (.inl v2), some (.inl (v3 + 1)), none]) [true, true, true, true, false] rfl ?_
    exact ih (v3 + 1) M102
def f_X12_firstHome (n : Nat) (v1 : Int32) (v2 : Int32) (M : HMem) : Option (Int32 × HMem) :=
  if (f_X12_in v1 1 100) = 0 then
    (some ((-1), M))
  else
    (if (f_X12_in v2 0 1) = 0 then
      (some ((-1), M))
    else
      (hb1 (f_X12_copies n 75 32 76 32 M) (fun M101 =>
      f_X12_firstHome_L34 n v1 v2 n 0 M101)))
set_option maxRecDepth 20000 in
theorem w_X12_firstHome (d : Nat) (hd : 8 ≤ d) (n : Nat) (v1 : Int32) (v2 : Int32) (M : HMem) : GX iX12_firstHome d eI (f_X12_firstHome n v1 v2 M) 0 [some (.inr (some 74)), some (.inl v1), some (.inl v2), none, none] [] M := by
  rw [f_X12_firstHome]
  refine gx_iload_n dX12_firstHome_0 rfl ?_
  refine gx_iconst (x := 1) (by decide) dX12_firstHome_1 ?_
  refine gx_bipush (x := 100) (by decide) dX12_firstHome_2 ?_
  refine gx_cS_it (av := [.inl v1, .inl 1, .inl 100]) (st := []) ml_X12_118 (by omega) (c_X12_in (d - 1) (by omega) v1 1 100 M) rfl rfl (Nat.le_of_ble_eq_true rfl) dX12_firstHome_4 ?_
  refine gx_if_eq (tgt := 19) dX12_firstHome_7 (by decide) ?_ ?_
  · refine gx_iconst (x := (-1)) (by decide) dX12_firstHome_19 ?_
    exact gx_iret rfl rfl dX12_firstHome_20
  refine gx_iload_n dX12_firstHome_10 rfl ?_
  refine gx_iconst (x := 0) (by decide) dX12_firstHome_11 ?_
  refine gx_iconst (x := 1) (by decide) dX12_firstHome_12 ?_
  refine gx_cS_it (av := [.inl v2, .inl 0, .inl 1]) (st := []) ml_X12_118 (by omega) (c_X12_in (d - 1) (by omega) v2 0 1 M) rfl rfl (Nat.le_of_ble_eq_true rfl) dX12_firstHome_13 ?_
  refine gx_if_ne (tgt := 21) dX12_firstHome_16 (by decide) ?_ ?_
  · refine gx_aload_n dX12_firstHome_21 rfl ?_
    refine gx_getR fl_X12_7 sh74 rfl dX12_firstHome_22 ?_
    refine gx_aload_n dX12_firstHome_25 rfl ?_
    refine gx_getR fl_X12_13 sh74 rfl dX12_firstHome_26 ?_
    refine gx_cS_vm (av := [.inr (some 75), .inr (some 76)]) (st := []) ml_X12_346 (by omega) (c_X12_copies (d - 1) (by omega) n 75 32 sh75 76 32 sh76 M) rfl rfl (Nat.le_of_ble_eq_true rfl) dX12_firstHome_29 (fun M101 => ?_)
    refine gx_iconst (x := 0) (by decide) dX12_firstHome_32 ?_
    refine gx_istore_n (lv' := [some (.inr (some 74)), some (.inl v1), some (.inl v2), some (.inl 0), none]) dX12_firstHome_33 (by decide) rfl ?_
    refine gx_mk (lv' := [some (.inr (some 74)), some (.inl v1), some (.inl v2), some (.inl 0), none]) [true, true, true, true, false] rfl ?_
    exact w_X12_firstHome_L34 d hd n v1 v2 n 0 M101
  refine gx_iconst (x := (-1)) (by decide) dX12_firstHome_19 ?_
  exact gx_iret rfl rfl dX12_firstHome_20
theorem c_X12_firstHome (d : Nat) (hd : 8 ≤ d) (n : Nat) (v1 : Int32) (v2 : Int32) (M : HMem) : MX iX12_firstHome d [.inr (some 74), .inl v1, .inl v2] M eI (f_X12_firstHome n v1 v2 M) := mx_of (by decide +kernel) (Nat.le_of_ble_eq_true rfl) rfl (w_X12_firstHome d hd n v1 v2 M)
-- X12_where
def f_X12_where (v1 : Int32) (v2 : Int32) (M : HMem) : Option Int32 :=
  hb1 (f_X12_hasLine v1 M) (fun x101 =>
  if x101 = 0 then
    (some (-1))
  else
    (if (f_X12_in v2 0 20000) = 0 then
      (some (-1))
    else
      (hb1 (f_X12_whereAt v1 v2 M) (fun x102 =>
      if x102 = (-1) then
        (some (-2))
      else
        (some x102)))))
set_option maxRecDepth 20000 in
theorem w_X12_where (d : Nat) (hd : 3 ≤ d) (v1 : Int32) (v2 : Int32) (M : HMem) : GX iX12_where d (eP M) (f_X12_where v1 v2 M) 0 [some (.inr (some 74)), some (.inl v1), some (.inl v2), none] [] M := by
  rw [f_X12_where]
  refine gx_aload_n dX12_where_0 rfl ?_
  refine gx_iload_n dX12_where_1 rfl ?_
  refine gx_cV_ip (av := [.inl v1]) (st := []) ml_X12_122 (by omega) sh74 (c_X12_hasLine (d - 1) (by omega) v1 M) rfl rfl (Nat.le_of_ble_eq_true rfl) dX12_where_2 (fun x101 => ?_)
  refine gx_if_eq (tgt := 19) dX12_where_5 (by decide) ?_ ?_
  · refine gx_iconst (x := (-1)) (by decide) dX12_where_19 ?_
    exact gx_iret rfl rfl dX12_where_20
  refine gx_iload_n dX12_where_8 rfl ?_
  refine gx_iconst (x := 0) (by decide) dX12_where_9 ?_
  refine gx_sipush (x := 20000) (by decide) dX12_where_10 ?_
  refine gx_cS_it (av := [.inl v2, .inl 0, .inl 20000]) (st := []) ml_X12_118 (by omega) (c_X12_in (d - 1) (by omega) v2 0 20000 M) rfl rfl (Nat.le_of_ble_eq_true rfl) dX12_where_13 ?_
  refine gx_if_ne (tgt := 21) dX12_where_16 (by decide) ?_ ?_
  · refine gx_aload_n dX12_where_21 rfl ?_
    refine gx_iload_n dX12_where_22 rfl ?_
    refine gx_iload_n dX12_where_23 rfl ?_
    refine gx_cV_ip (av := [.inl v1, .inl v2]) (st := []) ml_X12_356 (by omega) sh74 (c_X12_whereAt (d - 1) (by omega) v1 v2 M) rfl rfl (Nat.le_of_ble_eq_true rfl) dX12_where_24 (fun x102 => ?_)
    refine gx_istore_n (lv' := [some (.inr (some 74)), some (.inl v1), some (.inl v2), some (.inl x102)]) dX12_where_27 (by decide) rfl ?_
    refine gx_iload_n dX12_where_28 rfl ?_
    refine gx_iconst (x := (-1)) (by decide) dX12_where_29 ?_
    refine gx_icmp_ne (tgt := 38) dX12_where_30 (by decide) ?_ ?_
    · refine gx_iload_n dX12_where_38 rfl ?_
      exact gx_iret rfl rfl dX12_where_39
    refine gx_bipush (x := (-2)) (by decide) dX12_where_33 ?_
    refine gx_goto (tgt := 39) dX12_where_35 (by decide) ?_
    exact gx_iret rfl rfl dX12_where_39
  refine gx_iconst (x := (-1)) (by decide) dX12_where_19 ?_
  exact gx_iret rfl rfl dX12_where_20
theorem c_X12_where (d : Nat) (hd : 3 ≤ d) (v1 : Int32) (v2 : Int32) (M : HMem) : MX iX12_where d [.inr (some 74), .inl v1, .inl v2] M (eP M) (f_X12_where v1 v2 M) := mx_of (by decide +kernel) (Nat.le_of_ble_eq_true rfl) rfl (w_X12_where d hd v1 v2 M)
-- X12_freshest
def f_X12_freshest_L43 (n : Nat) (r33 : Int32 → Int32 → Int32 → Int32 → Option Int32) (v1 : Int32) (v2 : Int32) (v3 : Int32) (v7 : Int32) (M : HMem) : Nat → Int32 → Int32 → Int32 → Int32 → Option Int32
  | 0, _, _, _, _ => none
  | k + 1, v4, v5, v6, v8 =>
    if hib v7 8 then
    if (M 78 (Int32.toNatClampNeg v7)) < v8 then
      (r33 v4 v5 v6 (v7 + 1))
    else
      (hb1 (f_X12_hasLine v7 M) (fun x101 =>
      if x101 = 0 then
        (r33 v4 v5 v6 (v7 + 1))
      else
        (if hib ((97 * v7) + v8) 776 then
        if (M 81 (Int32.toNatClampNeg ((97 * v7) + v8))) = ((16 * v2) + v1) then
          (hb1 (f_X12_strengthOf v7 v8 M) (fun x102 =>
          if x102 = 0 then
            (f_X12_freshest_L43 n r33 v1 v2 v3 v7 M k v4 v5 v6 (v8 + 1))
          else
            (if hib v7 8 then
            if v4 < ((M 79 (Int32.toNatClampNeg v7)) + v8) then
              (if hib v7 8 then
              f_X12_freshest_L43 n r33 v1 v2 v3 v7 M k ((M 79 (Int32.toNatClampNeg v7)) + v8) v7 (v6 + 1) (v8 + 1)
              else none)
            else
              (f_X12_freshest_L43 n r33 v1 v2 v3 v7 M k v4 v5 (v6 + 1) (v8 + 1))
            else none)))
        else
          (f_X12_freshest_L43 n r33 v1 v2 v3 v7 M k v4 v5 v6 (v8 + 1))
        else none)))
    else none
set_option maxRecDepth 20000 in
theorem w_X12_freshest_L43 (d : Nat) (hd : 2 ≤ d) (n : Nat) (r33 : Int32 → Int32 → Int32 → Int32 → Option Int32) (M : HMem) (v1 : Int32) (v2 : Int32) (v3 : Int32) (v7 : Int32) (hr33 : ∀ (v4 : Int32) (v5 : Int32) (v6 : Int32) (v7 : Int32), GX iX12_freshest d (eP M) (r33 v4 v5 v6 v7) 33 [some (.inr (some 74)), some (.inl v1), some (.inl v2), some (.inl v3), some (.inl v4), some (.inl v5), some (.inl v6), some (.inl v7), none] [] M) : ∀ (k : Nat) (v4 : Int32) (v5 : Int32) (v6 : Int32) (v8 : Int32), GX iX12_freshest d (eP M) (f_X12_freshest_L43 n r33 v1 v2 v3 v7 M k v4 v5 v6 v8) 43 [some (.inr (some 74)), some (.inl v1), some (.inl v2), some (.inl v3), some (.inl v4), some (.inl v5), some (.inl v6), some (.inl v7), some (.inl v8)] [] M := by
  intro k
  induction k with
  | zero => intro v4 v5 v6 v8; exact gx_none
  | succ k ih =>
    intro v4 v5 v6 v8
    rw [f_X12_freshest_L43]
    refine gx_iload dX12_freshest_43 rfl ?_
    refine gx_aload_n dX12_freshest_45 rfl ?_
    refine gx_getR fl_X12_19 sh74 rfl dX12_freshest_46 ?_
    refine gx_iload dX12_freshest_49 rfl ?_
    refine gx_iaload sh78 dX12_freshest_51 ?_
    refine gx_icmp_gt (tgt := 146) dX12_freshest_52 (by decide) ?_ ?_
    · refine gx_iinc (y := v7 + 1) (lv' := [some (.inr (some 74)), some (.inl v1), some (.inl v2), some (.inl v3), some (.inl v4), some (.inl v5), some (.inl v6), some (.inl (v7 + 1)), some (.inl v8)]) dX12_freshest_146 rfl rfl (by decide) rfl ?_
      refine gx_goto (tgt := 33) dX12_freshest_149 (by decide) ?_
      refine gx_mk (lv' := [some (.inr (some 74)), some (.inl v1), some (.inl v2), some (.inl v3), some (.inl v4), some (.inl v5), some (.inl v6), some (.inl (v7 + 1)), none]) [true, true, true, true, true, true, true, true, false] rfl ?_
      exact hr33 v4 v5 v6 (v7 + 1)
    refine gx_aload_n dX12_freshest_55 rfl ?_
    refine gx_iload dX12_freshest_56 rfl ?_
    refine gx_cV_ip (av := [.inl v7]) (st := []) ml_X12_122 (by omega) sh74 (c_X12_hasLine (d - 1) (by omega) v7 M) rfl rfl (Nat.le_of_ble_eq_true rfl) dX12_freshest_58 (fun x101 => ?_)
    refine gx_if_eq (tgt := 146) dX12_freshest_61 (by decide) ?_ ?_
    · refine gx_iinc (y := v7 + 1) (lv' := [some (.inr (some 74)), some (.inl v1), some (.inl v2), some (.inl v3), some (.inl v4), some (.inl v5), some (.inl v6), some (.inl (v7 + 1)), some (.inl v8)]) dX12_freshest_146 rfl rfl (by decide) rfl ?_
      refine gx_goto (tgt := 33) dX12_freshest_149 (by decide) ?_
      refine gx_mk (lv' := [some (.inr (some 74)), some (.inl v1), some (.inl v2), some (.inl v3), some (.inl v4), some (.inl v5), some (.inl v6), some (.inl (v7 + 1)), none]) [true, true, true, true, true, true, true, true, false] rfl ?_
      exact hr33 v4 v5 v6 (v7 + 1)
    refine gx_aload_n dX12_freshest_64 rfl ?_
    refine gx_getR fl_X12_28 sh74 rfl dX12_freshest_65 ?_
    refine gx_bipush (x := 97) (by decide) dX12_freshest_68 ?_
    refine gx_iload dX12_freshest_70 rfl ?_
    refine gx_imul dX12_freshest_72 ?_
    refine gx_iload dX12_freshest_73 rfl ?_
    refine gx_iadd dX12_freshest_75 ?_
    refine gx_iaload sh81 dX12_freshest_76 ?_
    refine gx_bipush (x := 16) (by decide) dX12_freshest_77 ?_
    refine gx_iload_n dX12_freshest_79 rfl ?_
    refine gx_imul dX12_freshest_80 ?_
    refine gx_iload_n dX12_freshest_81 rfl ?_
    refine gx_iadd dX12_freshest_82 ?_
    refine gx_icmp_ne (tgt := 140) dX12_freshest_83 (by decide) ?_ ?_
    · refine gx_iinc (y := v8 + 1) (lv' := [some (.inr (some 74)), some (.inl v1), some (.inl v2), some (.inl v3), some (.inl v4), some (.inl v5), some (.inl v6), some (.inl v7), some (.inl (v8 + 1))]) dX12_freshest_140 rfl rfl (by decide) rfl ?_
      refine gx_goto (tgt := 43) dX12_freshest_143 (by decide) ?_
      refine gx_mk (lv' := [some (.inr (some 74)), some (.inl v1), some (.inl v2), some (.inl v3), some (.inl v4), some (.inl v5), some (.inl v6), some (.inl v7), some (.inl (v8 + 1))]) [true, true, true, true, true, true, true, true, true] rfl ?_
      exact ih v4 v5 v6 (v8 + 1)
    refine gx_aload_n dX12_freshest_86 rfl ?_
    refine gx_iload dX12_freshest_87 rfl ?_
    refine gx_iload dX12_freshest_89 rfl ?_
    refine gx_cV_ip (av := [.inl v7, .inl v8]) (st := []) ml_X12_295 (by omega) sh74 (c_X12_strengthOf (d - 1) (by omega) v7 v8 M) rfl rfl (Nat.le_of_ble_eq_true rfl) dX12_freshest_91 (fun x102 => ?_)
    refine gx_if_ne (tgt := 100) dX12_freshest_94 (by decide) ?_ ?_
    · refine gx_iload dX12_freshest_100 rfl ?_
      refine gx_iconst (x := 1) (by decide) dX12_freshest_102 ?_
      refine gx_iadd dX12_freshest_103 ?_
      refine gx_istore (lv' := [some (.inr (some 74)), some (.inl v1), some (.inl v2), some (.inl v3), some (.inl v4), some (.inl v5), some (.inl (v6 + 1)), some (.inl v7), some (.inl v8)]) dX12_freshest_104 (by decide) rfl ?_
      refine gx_aload_n dX12_freshest_106 rfl ?_
      refine gx_getR fl_X12_22 sh74 rfl dX12_freshest_107 ?_
      refine gx_iload dX12_freshest_110 rfl ?_
      refine gx_iaload sh79 dX12_freshest_112 ?_
      refine gx_iload dX12_freshest_113 rfl ?_
      refine gx_iadd dX12_freshest_115 ?_
      refine gx_iload dX12_freshest_116 rfl ?_
      refine gx_icmp_gt (tgt := 124) dX12_freshest_118 (by decide) ?_ ?_
      · refine gx_aload_n dX12_freshest_124 rfl ?_
        refine gx_getR fl_X12_22 sh74 rfl dX12_freshest_125 ?_
        refine gx_iload dX12_freshest_128 rfl ?_
        refine gx_iaload sh79 dX12_freshest_130 ?_
        refine gx_iload dX12_freshest_131 rfl ?_
        refine gx_iadd dX12_freshest_133 ?_
        refine gx_istore (lv' := [some (.inr (some 74)), some (.inl v1), some (.inl v2), some (.inl v3), some (.inl ((M 79 (Int32.toNatClampNeg v7)) + v8)), some (.inl v5), some (.inl (v6 + 1)), some (.inl v7), some (.inl v8)]) dX12_freshest_134 (by decide) rfl ?_
        refine gx_iload dX12_freshest_136 rfl ?_
        refine gx_istore (lv' := [some (.inr (some 74)), some (.inl v1), some (.inl v2), some (.inl v3), some (.inl ((M 79 (Int32.toNatClampNeg v7)) + v8)), some (.inl v7), some (.inl (v6 + 1)), some (.inl v7), some (.inl v8)]) dX12_freshest_138 (by decide) rfl ?_
        refine gx_iinc (y := v8 + 1) (lv' := [some (.inr (some 74)), some (.inl v1), some (.inl v2), some (.inl v3), some (.inl ((M 79 (Int32.toNatClampNeg v7)) + v8)), some (.inl v7), some (.inl (v6 + 1)), some (.inl v7), some (.inl (v8 + 1))]) dX12_freshest_140 rfl rfl (by decide) rfl ?_
        refine gx_goto (tgt := 43) dX12_freshest_143 (by decide) ?_
        refine gx_mk (lv' := [some (.inr (some 74)), some (.inl v1), some (.inl v2), some (.inl v3), some (.inl ((M 79 (Int32.toNatClampNeg v7)) + v8)), some (.inl v7), some (.inl (v6 + 1)), some (.inl v7), some (.inl (v8 + 1))]) [true, true, true, true, true, true, true, true, true] rfl ?_
        exact ih ((M 79 (Int32.toNatClampNeg v7)) + v8) v7 (v6 + 1) (v8 + 1)
      refine gx_goto (tgt := 140) dX12_freshest_121 (by decide) ?_
      refine gx_iinc (y := v8 + 1) (lv' := [some (.inr (some 74)), some (.inl v1), some (.inl v2), some (.inl v3), some (.inl v4), some (.inl v5), some (.inl (v6 + 1)), some (.inl v7), some (.inl (v8 + 1))]) dX12_freshest_140 rfl rfl (by decide) rfl ?_
      refine gx_goto (tgt := 43) dX12_freshest_143 (by decide) ?_
      refine gx_mk (lv' := [some (.inr (some 74)), some (.inl v1), some (.inl v2), some (.inl v3), some (.inl v4), some (.inl v5), some (.inl (v6 + 1)), some (.inl v7), some (.inl (v8 + 1))]) [true, true, true, true, true, true, true, true, true] rfl ?_
      exact ih v4 v5 (v6 + 1) (v8 + 1)
    refine gx_goto (tgt := 140) dX12_freshest_97 (by decide) ?_
    refine gx_iinc (y := v8 + 1) (lv' := [some (.inr (some 74)), some (.inl v1), some (.inl v2), some (.inl v3), some (.inl v4), some (.inl v5), some (.inl v6), some (.inl v7), some (.inl (v8 + 1))]) dX12_freshest_140 rfl rfl (by decide) rfl ?_
    refine gx_goto (tgt := 43) dX12_freshest_143 (by decide) ?_
    refine gx_mk (lv' := [some (.inr (some 74)), some (.inl v1), some (.inl v2), some (.inl v3), some (.inl v4), some (.inl v5), some (.inl v6), some (.inl v7), some (.inl (v8 + 1))]) [true, true, true, true, true, true, true, true, true] rfl ?_
    exact ih v4 v5 v6 (v8 + 1)
def f_X12_freshest_L33 (n : Nat) (v1 : Int32) (v2 : Int32) (v3 : Int32) (M : HMem) : Nat → Int32 → Int32 → Int32 → Int32 → Option Int32
  | 0, _, _, _, _ => none
  | k + 1, v4, v5, v6, v7 =>
    if 8 ≤ v7 then
      (if v3 = 0 then
        (some v4)
      else
        (if v3 = 1 then
          (some v5)
        else
          (some v6)))
    else
      (f_X12_freshest_L43 n (f_X12_freshest_L33 n v1 v2 v3 M k) v1 v2 v3 v7 M n v4 v5 v6 0)
set_option maxRecDepth 20000 in
theorem w_X12_freshest_L33 (d : Nat) (hd : 2 ≤ d) (n : Nat) (M : HMem) (v1 : Int32) (v2 : Int32) (v3 : Int32) : ∀ (k : Nat) (v4 : Int32) (v5 : Int32) (v6 : Int32) (v7 : Int32), GX iX12_freshest d (eP M) (f_X12_freshest_L33 n v1 v2 v3 M k v4 v5 v6 v7) 33 [some (.inr (some 74)), some (.inl v1), some (.inl v2), some (.inl v3), some (.inl v4), some (.inl v5), some (.inl v6), some (.inl v7), none] [] M := by
  intro k
  induction k with
  | zero => intro v4 v5 v6 v7; exact gx_none
  | succ k ih =>
    intro v4 v5 v6 v7
    rw [f_X12_freshest_L33]
    refine gx_iload dX12_freshest_33 rfl ?_
    refine gx_bipush (x := 8) (by decide) dX12_freshest_35 ?_
    refine gx_icmp_ge (tgt := 152) dX12_freshest_37 (by decide) ?_ ?_
    · refine gx_iload_n dX12_freshest_152 rfl ?_
      refine gx_if_ne (tgt := 161) dX12_freshest_153 (by decide) ?_ ?_
      · refine gx_iload_n dX12_freshest_161 rfl ?_
        refine gx_iconst (x := 1) (by decide) dX12_freshest_162 ?_
        refine gx_icmp_ne (tgt := 171) dX12_freshest_163 (by decide) ?_ ?_
        · refine gx_iload dX12_freshest_171 rfl ?_
          exact gx_iret rfl rfl dX12_freshest_173
        refine gx_iload dX12_freshest_166 rfl ?_
        refine gx_goto (tgt := 173) dX12_freshest_168 (by decide) ?_
        exact gx_iret rfl rfl dX12_freshest_173
      refine gx_iload dX12_freshest_156 rfl ?_
      refine gx_goto (tgt := 173) dX12_freshest_158 (by decide) ?_
      exact gx_iret rfl rfl dX12_freshest_173
    refine gx_iconst (x := 0) (by decide) dX12_freshest_40 ?_
    refine gx_istore (lv' := [some (.inr (some 74)), some (.inl v1), some (.inl v2), some (.inl v3), some (.inl v4), some (.inl v5), some (.inl v6), some (.inl v7), some (.inl 0)]) dX12_freshest_41 (by decide) rfl ?_
    refine gx_mk (lv' := [some (.inr (some 74)), some (.inl v1), some (.inl v2), some (.inl v3), some (.inl v4), some (.inl v5), some (.inl v6), some (.inl v7), some (.inl 0)]) [true, true, true, true, true, true, true, true, true] rfl ?_
    exact w_X12_freshest_L43 d hd n (f_X12_freshest_L33 n v1 v2 v3 M k) M v1 v2 v3 v7 ih n v4 v5 v6 0
def f_X12_freshest (n : Nat) (v1 : Int32) (v2 : Int32) (v3 : Int32) (M : HMem) : Option Int32 :=
  if (f_X12_isPlace v1 v2) = 0 then
    (some (-1))
  else
    (if (f_X12_in v3 0 2) = 0 then
      (some (-1))
    else
      (f_X12_freshest_L33 n v1 v2 v3 M n (-2) (-2) 0 0))
set_option maxRecDepth 20000 in
theorem w_X12_freshest (d : Nat) (hd : 2 ≤ d) (n : Nat) (v1 : Int32) (v2 : Int32) (v3 : Int32) (M : HMem) : GX iX12_freshest d (eP M) (f_X12_freshest n v1 v2 v3 M) 0 [some (.inr (some 74)), some (.inl v1), some (.inl v2), some (.inl v3), none, none, none, none, none] [] M := by
  rw [f_X12_freshest]
  refine gx_iload_n dX12_freshest_0 rfl ?_
  refine gx_iload_n dX12_freshest_1 rfl ?_
  refine gx_cS_it (av := [.inl v1, .inl v2]) (st := []) ml_X12_126 (by omega) (c_X12_isPlace (d - 1) (by omega) v1 v2 M) rfl rfl (Nat.le_of_ble_eq_true rfl) dX12_freshest_2 ?_
  refine gx_if_eq (tgt := 17) dX12_freshest_5 (by decide) ?_ ?_
  · refine gx_iconst (x := (-1)) (by decide) dX12_freshest_17 ?_
    exact gx_iret rfl rfl dX12_freshest_18
  refine gx_iload_n dX12_freshest_8 rfl ?_
  refine gx_iconst (x := 0) (by decide) dX12_freshest_9 ?_
  refine gx_iconst (x := 2) (by decide) dX12_freshest_10 ?_
  refine gx_cS_it (av := [.inl v3, .inl 0, .inl 2]) (st := []) ml_X12_118 (by omega) (c_X12_in (d - 1) (by omega) v3 0 2 M) rfl rfl (Nat.le_of_ble_eq_true rfl) dX12_freshest_11 ?_
  refine gx_if_ne (tgt := 19) dX12_freshest_14 (by decide) ?_ ?_
  · refine gx_bipush (x := (-2)) (by decide) dX12_freshest_19 ?_
    refine gx_istore (lv' := [some (.inr (some 74)), some (.inl v1), some (.inl v2), some (.inl v3), some (.inl (-2)), none, none, none, none]) dX12_freshest_21 (by decide) rfl ?_
    refine gx_bipush (x := (-2)) (by decide) dX12_freshest_23 ?_
    refine gx_istore (lv' := [some (.inr (some 74)), some (.inl v1), some (.inl v2), some (.inl v3), some (.inl (-2)), some (.inl (-2)), none, none, none]) dX12_freshest_25 (by decide) rfl ?_
    refine gx_iconst (x := 0) (by decide) dX12_freshest_27 ?_
    refine gx_istore (lv' := [some (.inr (some 74)), some (.inl v1), some (.inl v2), some (.inl v3), some (.inl (-2)), some (.inl (-2)), some (.inl 0), none, none]) dX12_freshest_28 (by decide) rfl ?_
    refine gx_iconst (x := 0) (by decide) dX12_freshest_30 ?_
    refine gx_istore (lv' := [some (.inr (some 74)), some (.inl v1), some (.inl v2), some (.inl v3), some (.inl (-2)), some (.inl (-2)), some (.inl 0), some (.inl 0), none]) dX12_freshest_31 (by decide) rfl ?_
    refine gx_mk (lv' := [some (.inr (some 74)), some (.inl v1), some (.inl v2), some (.inl v3), some (.inl (-2)), some (.inl (-2)), some (.inl 0), some (.inl 0), none]) [true, true, true, true, true, true, true, true, false] rfl ?_
    exact w_X12_freshest_L33 d hd n M v1 v2 v3 n (-2) (-2) 0 0
  refine gx_iconst (x := (-1)) (by decide) dX12_freshest_17 ?_
  exact gx_iret rfl rfl dX12_freshest_18
theorem c_X12_freshest (d : Nat) (hd : 2 ≤ d) (n : Nat) (v1 : Int32) (v2 : Int32) (v3 : Int32) (M : HMem) : MX iX12_freshest d [.inr (some 74), .inl v1, .inl v2, .inl v3] M (eP M) (f_X12_freshest n v1 v2 v3 M) := mx_of (by decide +kernel) (Nat.le_of_ble_eq_true rfl) rfl (w_X12_freshest d hd n v1 v2 v3 M)
-- X12_isOn
def f_X12_isOn_L2 (n : Nat) (v1 : Int32) (v2 : Int32) (M : HMem) : Nat → Int32 → Option Int32
  | 0, _ => none
  | k + 1, v3 =>
    if hib v1 8 then
    if (M 78 (Int32.toNatClampNeg v1)) < v3 then
      (some 0)
    else
      (if hib ((97 * v1) + v3) 776 then
      if (M 81 (Int32.toNatClampNeg ((97 * v1) + v3))) = v2 then
        (some 1)
      else
        (f_X12_isOn_L2 n v1 v2 M k (v3 + 1))
      else none)
    else none
set_option maxRecDepth 20000 in
theorem w_X12_isOn_L2 (d : Nat) (hd : 0 ≤ d) (n : Nat) (M : HMem) (v1 : Int32) (v2 : Int32) : ∀ (k : Nat) (v3 : Int32), GX iX12_isOn d (eP M) (f_X12_isOn_L2 n v1 v2 M k v3) 2 [some (.inr (some 74)), some (.inl v1), some (.inl v2), some (.inl v3)] [] M := by
  intro k
  induction k with
  | zero => intro v3; exact gx_none
  | succ k ih =>
    intro v3
    rw [f_X12_isOn_L2]
    refine gx_iload_n dX12_isOn_2 rfl ?_
    refine gx_aload_n dX12_isOn_3 rfl ?_
    refine gx_getR fl_X12_19 sh74 rfl dX12_isOn_4 ?_
    refine gx_iload_n dX12_isOn_7 rfl ?_
    refine gx_iaload sh78 dX12_isOn_8 ?_
    refine gx_icmp_gt (tgt := 35) dX12_isOn_9 (by decide) ?_ ?_
    · refine gx_iconst (x := 0) (by decide) dX12_isOn_35 ?_
      exact gx_zret rfl (by decide) rfl dX12_isOn_36
    refine gx_aload_n dX12_isOn_12 rfl ?_
    refine gx_getR fl_X12_28 sh74 rfl dX12_isOn_13 ?_
    refine gx_bipush (x := 97) (by decide) dX12_isOn_16 ?_
    refine gx_iload_n dX12_isOn_18 rfl ?_
    refine gx_imul dX12_isOn_19 ?_
    refine gx_iload_n dX12_isOn_20 rfl ?_
    refine gx_iadd dX12_isOn_21 ?_
    refine gx_iaload sh81 dX12_isOn_22 ?_
    refine gx_iload_n dX12_isOn_23 rfl ?_
    refine gx_icmp_ne (tgt := 29) dX12_isOn_24 (by decide) ?_ ?_
    · refine gx_iinc (y := v3 + 1) (lv' := [some (.inr (some 74)), some (.inl v1), some (.inl v2), some (.inl (v3 + 1))]) dX12_isOn_29 rfl rfl (by decide) rfl ?_
      refine gx_goto (tgt := 2) dX12_isOn_32 (by decide) ?_
      refine gx_mk (lv' := [some (.inr (some 74)), some (.inl v1), some (.inl v2), some (.inl (v3 + 1))]) [true, true, true, true] rfl ?_
      exact ih (v3 + 1)
    refine gx_iconst (x := 1) (by decide) dX12_isOn_27 ?_
    exact gx_zret rfl (by decide) rfl dX12_isOn_28
def f_X12_isOn (n : Nat) (v1 : Int32) (v2 : Int32) (M : HMem) : Option Int32 :=
  f_X12_isOn_L2 n v1 v2 M n 0
set_option maxRecDepth 20000 in
theorem w_X12_isOn (d : Nat) (hd : 0 ≤ d) (n : Nat) (v1 : Int32) (v2 : Int32) (M : HMem) : GX iX12_isOn d (eP M) (f_X12_isOn n v1 v2 M) 0 [some (.inr (some 74)), some (.inl v1), some (.inl v2), none] [] M := by
  rw [f_X12_isOn]
  refine gx_iconst (x := 0) (by decide) dX12_isOn_0 ?_
  refine gx_istore_n (lv' := [some (.inr (some 74)), some (.inl v1), some (.inl v2), some (.inl 0)]) dX12_isOn_1 (by decide) rfl ?_
  refine gx_mk (lv' := [some (.inr (some 74)), some (.inl v1), some (.inl v2), some (.inl 0)]) [true, true, true, true] rfl ?_
  exact w_X12_isOn_L2 d hd n M v1 v2 n 0
theorem c_X12_isOn (d : Nat) (hd : 0 ≤ d) (n : Nat) (v1 : Int32) (v2 : Int32) (M : HMem) : MX iX12_isOn d [.inr (some 74), .inl v1, .inl v2] M (eP M) (f_X12_isOn n v1 v2 M) := mx_of (by decide +kernel) (Nat.le_of_ble_eq_true rfl) rfl (w_X12_isOn d hd n v1 v2 M)
-- X12_apartAt
def f_X12_apartAt (v1 : Int32) (v2 : Int32) (v3 : Int32) (M : HMem) : Option Int32 :=
  hb1 (f_X12_whereAt v1 v3 M) (fun x101 =>
  hb1 (f_X12_whereAt v2 v3 M) (fun x102 =>
  if x101 = (-1) then
    (some (-1))
  else
    (if x102 = (-1) then
      (some (-1))
    else
      (some ((f_X12_size ((x101 - x101 / 16 * 16) - (x102 - x102 / 16 * 16))) + (f_X12_size ((x101 / 16) - (x102 / 16))))))))
set_option maxRecDepth 20000 in
theorem w_X12_apartAt (d : Nat) (hd : 3 ≤ d) (v1 : Int32) (v2 : Int32) (v3 : Int32) (M : HMem) : GX iX12_apartAt d (eP M) (f_X12_apartAt v1 v2 v3 M) 0 [some (.inr (some 74)), some (.inl v1), some (.inl v2), some (.inl v3), none, none] [] M := by
  rw [f_X12_apartAt]
  refine gx_aload_n dX12_apartAt_0 rfl ?_
  refine gx_iload_n dX12_apartAt_1 rfl ?_
  refine gx_iload_n dX12_apartAt_2 rfl ?_
  refine gx_cV_ip (av := [.inl v1, .inl v3]) (st := []) ml_X12_356 (by omega) sh74 (c_X12_whereAt (d - 1) (by omega) v1 v3 M) rfl rfl (Nat.le_of_ble_eq_true rfl) dX12_apartAt_3 (fun x101 => ?_)
  refine gx_istore (lv' := [some (.inr (some 74)), some (.inl v1), some (.inl v2), some (.inl v3), some (.inl x101), none]) dX12_apartAt_6 (by decide) rfl ?_
  refine gx_aload_n dX12_apartAt_8 rfl ?_
  refine gx_iload_n dX12_apartAt_9 rfl ?_
  refine gx_iload_n dX12_apartAt_10 rfl ?_
  refine gx_cV_ip (av := [.inl v2, .inl v3]) (st := []) ml_X12_356 (by omega) sh74 (c_X12_whereAt (d - 1) (by omega) v2 v3 M) rfl rfl (Nat.le_of_ble_eq_true rfl) dX12_apartAt_11 (fun x102 => ?_)
  refine gx_istore (lv' := [some (.inr (some 74)), some (.inl v1), some (.inl v2), some (.inl v3), some (.inl x101), some (.inl x102)]) dX12_apartAt_14 (by decide) rfl ?_
  refine gx_iload dX12_apartAt_16 rfl ?_
  refine gx_iconst (x := (-1)) (by decide) dX12_apartAt_18 ?_
  refine gx_icmp_eq (tgt := 28) dX12_apartAt_19 (by decide) ?_ ?_
  · refine gx_iconst (x := (-1)) (by decide) dX12_apartAt_28 ?_
    exact gx_iret rfl rfl dX12_apartAt_29
  refine gx_iload dX12_apartAt_22 rfl ?_
  refine gx_iconst (x := (-1)) (by decide) dX12_apartAt_24 ?_
  refine gx_icmp_ne (tgt := 30) dX12_apartAt_25 (by decide) ?_ ?_
  · refine gx_iload dX12_apartAt_30 rfl ?_
    refine gx_bipush (x := 16) (by decide) dX12_apartAt_32 ?_
    refine gx_iremL (by decide) dX12_apartAt_34 ?_
    refine gx_iload dX12_apartAt_35 rfl ?_
    refine gx_bipush (x := 16) (by decide) dX12_apartAt_37 ?_
    refine gx_iremL (by decide) dX12_apartAt_39 ?_
    refine gx_isub dX12_apartAt_40 ?_
    refine gx_cS_it (av := [.inl ((x101 - x101 / 16 * 16) - (x102 - x102 / 16 * 16))]) (st := []) ml_X12_359 (by omega) (c_X12_size (d - 1) (by omega) ((x101 - x101 / 16 * 16) - (x102 - x102 / 16 * 16)) M) rfl rfl (Nat.le_of_ble_eq_true rfl) dX12_apartAt_41 ?_
    refine gx_iload dX12_apartAt_44 rfl ?_
    refine gx_bipush (x := 16) (by decide) dX12_apartAt_46 ?_
    refine gx_idivL (by decide) dX12_apartAt_48 ?_
    refine gx_iload dX12_apartAt_49 rfl ?_
    refine gx_bipush (x := 16) (by decide) dX12_apartAt_51 ?_
    refine gx_idivL (by decide) dX12_apartAt_53 ?_
    refine gx_isub dX12_apartAt_54 ?_
    refine gx_cS_it (av := [.inl ((x101 / 16) - (x102 / 16))]) (st := [.inl (f_X12_size ((x101 - x101 / 16 * 16) - (x102 - x102 / 16 * 16)))]) ml_X12_359 (by omega) (c_X12_size (d - 1) (by omega) ((x101 / 16) - (x102 / 16)) M) rfl rfl (Nat.le_of_ble_eq_true rfl) dX12_apartAt_55 ?_
    refine gx_iadd dX12_apartAt_58 ?_
    exact gx_iret rfl rfl dX12_apartAt_59
  refine gx_iconst (x := (-1)) (by decide) dX12_apartAt_28 ?_
  exact gx_iret rfl rfl dX12_apartAt_29
theorem c_X12_apartAt (d : Nat) (hd : 3 ≤ d) (v1 : Int32) (v2 : Int32) (v3 : Int32) (M : HMem) : MX iX12_apartAt d [.inr (some 74), .inl v1, .inl v2, .inl v3] M (eP M) (f_X12_apartAt v1 v2 v3 M) := mx_of (by decide +kernel) (Nat.le_of_ble_eq_true rfl) rfl (w_X12_apartAt d hd v1 v2 v3 M)
-- X12_crossedBy
def f_X12_crossedBy_L5 (n : Nat) (v1 : Int32) (v2 : Int32) (M : HMem) : Nat → Int32 → Int32 → Option Int32
  | 0, _, _ => none
  | k + 1, v3, v4 =>
    if 192 ≤ v4 then
      (some v3)
    else
      (hb1 (f_X12_isOn n v1 v4 M) (fun x101 =>
      if x101 = 0 then
        (f_X12_crossedBy_L5 n v1 v2 M k v3 (v4 + 1))
      else
        (hb1 (f_X12_isOn n v2 v4 M) (fun x102 =>
        if x102 = 0 then
          (f_X12_crossedBy_L5 n v1 v2 M k v3 (v4 + 1))
        else
          (f_X12_crossedBy_L5 n v1 v2 M k (v3 + 1) (v4 + 1))))))
set_option maxRecDepth 20000 in
theorem w_X12_crossedBy_L5 (d : Nat) (hd : 1 ≤ d) (n : Nat) (M : HMem) (v1 : Int32) (v2 : Int32) : ∀ (k : Nat) (v3 : Int32) (v4 : Int32), GX iX12_crossedBy d (eP M) (f_X12_crossedBy_L5 n v1 v2 M k v3 v4) 5 [some (.inr (some 74)), some (.inl v1), some (.inl v2), some (.inl v3), some (.inl v4)] [] M := by
  intro k
  induction k with
  | zero => intro v3 v4; exact gx_none
  | succ k ih =>
    intro v3 v4
    rw [f_X12_crossedBy_L5]
    refine gx_iload dX12_crossedBy_5 rfl ?_
    refine gx_sipush (x := 192) (by decide) dX12_crossedBy_7 ?_
    refine gx_icmp_ge (tgt := 43) dX12_crossedBy_10 (by decide) ?_ ?_
    · refine gx_iload_n dX12_crossedBy_43 rfl ?_
      exact gx_iret rfl rfl dX12_crossedBy_44
    refine gx_aload_n dX12_crossedBy_13 rfl ?_
    refine gx_iload_n dX12_crossedBy_14 rfl ?_
    refine gx_iload dX12_crossedBy_15 rfl ?_
    refine gx_cV_ip (av := [.inl v1, .inl v4]) (st := []) ml_X12_362 (by omega) sh74 (c_X12_isOn (d - 1) (by omega) n v1 v4 M) rfl rfl (Nat.le_of_ble_eq_true rfl) dX12_crossedBy_17 (fun x101 => ?_)
    refine gx_if_eq (tgt := 37) dX12_crossedBy_20 (by decide) ?_ ?_
    · refine gx_iinc (y := v4 + 1) (lv' := [some (.inr (some 74)), some (.inl v1), some (.inl v2), some (.inl v3), some (.inl (v4 + 1))]) dX12_crossedBy_37 rfl rfl (by decide) rfl ?_
      refine gx_goto (tgt := 5) dX12_crossedBy_40 (by decide) ?_
      refine gx_mk (lv' := [some (.inr (some 74)), some (.inl v1), some (.inl v2), some (.inl v3), some (.inl (v4 + 1))]) [true, true, true, true, true] rfl ?_
      exact ih v3 (v4 + 1)
    refine gx_aload_n dX12_crossedBy_23 rfl ?_
    refine gx_iload_n dX12_crossedBy_24 rfl ?_
    refine gx_iload dX12_crossedBy_25 rfl ?_
    refine gx_cV_ip (av := [.inl v2, .inl v4]) (st := []) ml_X12_362 (by omega) sh74 (c_X12_isOn (d - 1) (by omega) n v2 v4 M) rfl rfl (Nat.le_of_ble_eq_true rfl) dX12_crossedBy_27 (fun x102 => ?_)
    refine gx_if_eq (tgt := 37) dX12_crossedBy_30 (by decide) ?_ ?_
    · refine gx_iinc (y := v4 + 1) (lv' := [some (.inr (some 74)), some (.inl v1), some (.inl v2), some (.inl v3), some (.inl (v4 + 1))]) dX12_crossedBy_37 rfl rfl (by decide) rfl ?_
      refine gx_goto (tgt := 5) dX12_crossedBy_40 (by decide) ?_
      refine gx_mk (lv' := [some (.inr (some 74)), some (.inl v1), some (.inl v2), some (.inl v3), some (.inl (v4 + 1))]) [true, true, true, true, true] rfl ?_
      exact ih v3 (v4 + 1)
    refine gx_iload_n dX12_crossedBy_33 rfl ?_
    refine gx_iconst (x := 1) (by decide) dX12_crossedBy_34 ?_
    refine gx_iadd dX12_crossedBy_35 ?_
    refine gx_istore_n (lv' := [some (.inr (some 74)), some (.inl v1), some (.inl v2), some (.inl (v3 + 1)), some (.inl v4)]) dX12_crossedBy_36 (by decide) rfl ?_
    refine gx_iinc (y := v4 + 1) (lv' := [some (.inr (some 74)), some (.inl v1), some (.inl v2), some (.inl (v3 + 1)), some (.inl (v4 + 1))]) dX12_crossedBy_37 rfl rfl (by decide) rfl ?_
    refine gx_goto (tgt := 5) dX12_crossedBy_40 (by decide) ?_
    refine gx_mk (lv' := [some (.inr (some 74)), some (.inl v1), some (.inl v2), some (.inl (v3 + 1)), some (.inl (v4 + 1))]) [true, true, true, true, true] rfl ?_
    exact ih (v3 + 1) (v4 + 1)
def f_X12_crossedBy (n : Nat) (v1 : Int32) (v2 : Int32) (M : HMem) : Option Int32 :=
  f_X12_crossedBy_L5 n v1 v2 M n 0 0
set_option maxRecDepth 20000 in
theorem w_X12_crossedBy (d : Nat) (hd : 1 ≤ d) (n : Nat) (v1 : Int32) (v2 : Int32) (M : HMem) : GX iX12_crossedBy d (eP M) (f_X12_crossedBy n v1 v2 M) 0 [some (.inr (some 74)), some (.inl v1), some (.inl v2), none, none] [] M := by
  rw [f_X12_crossedBy]
  refine gx_iconst (x := 0) (by decide) dX12_crossedBy_0 ?_
  refine gx_istore_n (lv' := [some (.inr (some 74)), some (.inl v1), some (.inl v2), some (.inl 0), none]) dX12_crossedBy_1 (by decide) rfl ?_
  refine gx_iconst (x := 0) (by decide) dX12_crossedBy_2 ?_
  refine gx_istore (lv' := [some (.inr (some 74)), some (.inl v1), some (.inl v2), some (.inl 0), some (.inl 0)]) dX12_crossedBy_3 (by decide) rfl ?_
  refine gx_mk (lv' := [some (.inr (some 74)), some (.inl v1), some (.inl v2), some (.inl 0), some (.inl 0)]) [true, true, true, true, true] rfl ?_
  exact w_X12_crossedBy_L5 d hd n M v1 v2 n 0 0
theorem c_X12_crossedBy (d : Nat) (hd : 1 ≤ d) (n : Nat) (v1 : Int32) (v2 : Int32) (M : HMem) : MX iX12_crossedBy d [.inr (some 74), .inl v1, .inl v2] M (eP M) (f_X12_crossedBy n v1 v2 M) := mx_of (by decide +kernel) (Nat.le_of_ble_eq_true rfl) rfl (w_X12_crossedBy d hd n v1 v2 M)
-- X12_two
def f_X12_two_L47 (n : Nat) (v1 : Int32) (v2 : Int32) (v3 : Int32) (M : HMem) : Nat → Int32 → Int32 → Int32 → Option Int32
  | 0, _, _, _ => none
  | k + 1, v4, v5, v6 =>
    if hib v1 8 then
    if hib v1 8 then
    if ((M 79 (Int32.toNatClampNeg v1)) + (M 78 (Int32.toNatClampNeg v1))) < v6 then
      (if v3 = 1 then
        (if v4 = 0 then
          (some v5)
        else
          (some (-2)))
      else
        (if v3 = 2 then
          (some v4)
        else
          (some v5)))
    else
      (hb1 (f_X12_apartAt v1 v2 v6 M) (fun x101 =>
      if x101 = (-1) then
        (f_X12_two_L47 n v1 v2 v3 M k v4 v5 (v6 + 1))
      else
        (if v4 = (-2) then
          (f_X12_two_L47 n v1 v2 v3 M k x101 v6 (v6 + 1))
        else
          (if x101 < v4 then
            (f_X12_two_L47 n v1 v2 v3 M k x101 v6 (v6 + 1))
          else
            (f_X12_two_L47 n v1 v2 v3 M k v4 v5 (v6 + 1))))))
    else none
    else none
set_option maxRecDepth 20000 in
theorem w_X12_two_L47 (d : Nat) (hd : 4 ≤ d) (n : Nat) (M : HMem) (v1 : Int32) (v2 : Int32) (v3 : Int32) : ∀ (k : Nat) (v4 : Int32) (v5 : Int32) (v6 : Int32), GX iX12_two d (eP M) (f_X12_two_L47 n v1 v2 v3 M k v4 v5 v6) 47 [some (.inr (some 74)), some (.inl v1), some (.inl v2), some (.inl v3), some (.inl v4), some (.inl v5), some (.inl v6), none] [] M := by
  intro k
  induction k with
  | zero => intro v4 v5 v6; exact gx_none
  | succ k ih =>
    intro v4 v5 v6
    rw [f_X12_two_L47]
    refine gx_iload dX12_two_47 rfl ?_
    refine gx_aload_n dX12_two_49 rfl ?_
    refine gx_getR fl_X12_22 sh74 rfl dX12_two_50 ?_
    refine gx_iload_n dX12_two_53 rfl ?_
    refine gx_iaload sh79 dX12_two_54 ?_
    refine gx_aload_n dX12_two_55 rfl ?_
    refine gx_getR fl_X12_19 sh74 rfl dX12_two_56 ?_
    refine gx_iload_n dX12_two_59 rfl ?_
    refine gx_iaload sh78 dX12_two_60 ?_
    refine gx_iadd dX12_two_61 ?_
    refine gx_icmp_gt (tgt := 112) dX12_two_62 (by decide) ?_ ?_
    · refine gx_iload_n dX12_two_112 rfl ?_
      refine gx_iconst (x := 1) (by decide) dX12_two_113 ?_
      refine gx_icmp_ne (tgt := 130) dX12_two_114 (by decide) ?_ ?_
      · refine gx_iload_n dX12_two_130 rfl ?_
        refine gx_iconst (x := 2) (by decide) dX12_two_131 ?_
        refine gx_icmp_ne (tgt := 140) dX12_two_132 (by decide) ?_ ?_
        · refine gx_iload dX12_two_140 rfl ?_
          exact gx_iret rfl rfl dX12_two_142
        refine gx_iload dX12_two_135 rfl ?_
        refine gx_goto (tgt := 142) dX12_two_137 (by decide) ?_
        exact gx_iret rfl rfl dX12_two_142
      refine gx_iload dX12_two_117 rfl ?_
      refine gx_if_ne (tgt := 127) dX12_two_119 (by decide) ?_ ?_
      · refine gx_bipush (x := (-2)) (by decide) dX12_two_127 ?_
        exact gx_iret rfl rfl dX12_two_129
      refine gx_iload dX12_two_122 rfl ?_
      refine gx_goto (tgt := 129) dX12_two_124 (by decide) ?_
      exact gx_iret rfl rfl dX12_two_129
    refine gx_aload_n dX12_two_65 rfl ?_
    refine gx_iload_n dX12_two_66 rfl ?_
    refine gx_iload_n dX12_two_67 rfl ?_
    refine gx_iload dX12_two_68 rfl ?_
    refine gx_cV_ip (av := [.inl v1, .inl v2, .inl v6]) (st := []) ml_X12_371 (by omega) sh74 (c_X12_apartAt (d - 1) (by omega) v1 v2 v6 M) rfl rfl (Nat.le_of_ble_eq_true rfl) dX12_two_70 (fun x101 => ?_)
    refine gx_istore (lv' := [some (.inr (some 74)), some (.inl v1), some (.inl v2), some (.inl v3), some (.inl v4), some (.inl v5), some (.inl v6), some (.inl x101)]) dX12_two_73 (by decide) rfl ?_
    refine gx_iload dX12_two_75 rfl ?_
    refine gx_iconst (x := (-1)) (by decide) dX12_two_77 ?_
    refine gx_icmp_eq (tgt := 106) dX12_two_78 (by decide) ?_ ?_
    · refine gx_iinc (y := v6 + 1) (lv' := [some (.inr (some 74)), some (.inl v1), some (.inl v2), some (.inl v3), some (.inl v4), some (.inl v5), some (.inl (v6 + 1)), some (.inl x101)]) dX12_two_106 rfl rfl (by decide) rfl ?_
      refine gx_goto (tgt := 47) dX12_two_109 (by decide) ?_
      refine gx_mk (lv' := [some (.inr (some 74)), some (.inl v1), some (.inl v2), some (.inl v3), some (.inl v4), some (.inl v5), some (.inl (v6 + 1)), none]) [true, true, true, true, true, true, true, false] rfl ?_
      exact ih v4 v5 (v6 + 1)
    refine gx_iload dX12_two_81 rfl ?_
    refine gx_bipush (x := (-2)) (by decide) dX12_two_83 ?_
    refine gx_icmp_eq (tgt := 98) dX12_two_85 (by decide) ?_ ?_
    · refine gx_iload dX12_two_98 rfl ?_
      refine gx_istore (lv' := [some (.inr (some 74)), some (.inl v1), some (.inl v2), some (.inl v3), some (.inl x101), some (.inl v5), some (.inl v6), some (.inl x101)]) dX12_two_100 (by decide) rfl ?_
      refine gx_iload dX12_two_102 rfl ?_
      refine gx_istore (lv' := [some (.inr (some 74)), some (.inl v1), some (.inl v2), some (.inl v3), some (.inl x101), some (.inl v6), some (.inl v6), some (.inl x101)]) dX12_two_104 (by decide) rfl ?_
      refine gx_iinc (y := v6 + 1) (lv' := [some (.inr (some 74)), some (.inl v1), some (.inl v2), some (.inl v3), some (.inl x101), some (.inl v6), some (.inl (v6 + 1)), some (.inl x101)]) dX12_two_106 rfl rfl (by decide) rfl ?_
      refine gx_goto (tgt := 47) dX12_two_109 (by decide) ?_
      refine gx_mk (lv' := [some (.inr (some 74)), some (.inl v1), some (.inl v2), some (.inl v3), some (.inl x101), some (.inl v6), some (.inl (v6 + 1)), none]) [true, true, true, true, true, true, true, false] rfl ?_
      exact ih x101 v6 (v6 + 1)
    refine gx_iload dX12_two_88 rfl ?_
    refine gx_iload dX12_two_90 rfl ?_
    refine gx_icmp_lt (tgt := 98) dX12_two_92 (by decide) ?_ ?_
    · refine gx_iload dX12_two_98 rfl ?_
      refine gx_istore (lv' := [some (.inr (some 74)), some (.inl v1), some (.inl v2), some (.inl v3), some (.inl x101), some (.inl v5), some (.inl v6), some (.inl x101)]) dX12_two_100 (by decide) rfl ?_
      refine gx_iload dX12_two_102 rfl ?_
      refine gx_istore (lv' := [some (.inr (some 74)), some (.inl v1), some (.inl v2), some (.inl v3), some (.inl x101), some (.inl v6), some (.inl v6), some (.inl x101)]) dX12_two_104 (by decide) rfl ?_
      refine gx_iinc (y := v6 + 1) (lv' := [some (.inr (some 74)), some (.inl v1), some (.inl v2), some (.inl v3), some (.inl x101), some (.inl v6), some (.inl (v6 + 1)), some (.inl x101)]) dX12_two_106 rfl rfl (by decide) rfl ?_
      refine gx_goto (tgt := 47) dX12_two_109 (by decide) ?_
      refine gx_mk (lv' := [some (.inr (some 74)), some (.inl v1), some (.inl v2), some (.inl v3), some (.inl x101), some (.inl v6), some (.inl (v6 + 1)), none]) [true, true, true, true, true, true, true, false] rfl ?_
      exact ih x101 v6 (v6 + 1)
    refine gx_goto (tgt := 106) dX12_two_95 (by decide) ?_
    refine gx_iinc (y := v6 + 1) (lv' := [some (.inr (some 74)), some (.inl v1), some (.inl v2), some (.inl v3), some (.inl v4), some (.inl v5), some (.inl (v6 + 1)), some (.inl x101)]) dX12_two_106 rfl rfl (by decide) rfl ?_
    refine gx_goto (tgt := 47) dX12_two_109 (by decide) ?_
    refine gx_mk (lv' := [some (.inr (some 74)), some (.inl v1), some (.inl v2), some (.inl v3), some (.inl v4), some (.inl v5), some (.inl (v6 + 1)), none]) [true, true, true, true, true, true, true, false] rfl ?_
    exact ih v4 v5 (v6 + 1)
def f_X12_two (n : Nat) (v1 : Int32) (v2 : Int32) (v3 : Int32) (M : HMem) : Option Int32 :=
  hb1 (f_X12_areTwo v1 v2 M) (fun x101 =>
  if x101 = 0 then
    (some (-1))
  else
    (if (f_X12_in v3 0 3) = 0 then
      (some (-1))
    else
      (if v3 = 0 then
        (hb1 (f_X12_crossedBy n v1 v2 M) (fun x102 =>
        some x102))
      else
        (if hib v1 8 then
        f_X12_two_L47 n v1 v2 v3 M n (-2) (-2) (M 79 (Int32.toNatClampNeg v1))
        else none))))
set_option maxRecDepth 20000 in
theorem w_X12_two (d : Nat) (hd : 4 ≤ d) (n : Nat) (v1 : Int32) (v2 : Int32) (v3 : Int32) (M : HMem) : GX iX12_two d (eP M) (f_X12_two n v1 v2 v3 M) 0 [some (.inr (some 74)), some (.inl v1), some (.inl v2), some (.inl v3), none, none, none, none] [] M := by
  rw [f_X12_two]
  refine gx_aload_n dX12_two_0 rfl ?_
  refine gx_iload_n dX12_two_1 rfl ?_
  refine gx_iload_n dX12_two_2 rfl ?_
  refine gx_cV_ip (av := [.inl v1, .inl v2]) (st := []) ml_X12_365 (by omega) sh74 (c_X12_areTwo (d - 1) (by omega) v1 v2 M) rfl rfl (Nat.le_of_ble_eq_true rfl) dX12_two_3 (fun x101 => ?_)
  refine gx_if_eq (tgt := 18) dX12_two_6 (by decide) ?_ ?_
  · refine gx_iconst (x := (-1)) (by decide) dX12_two_18 ?_
    exact gx_iret rfl rfl dX12_two_19
  refine gx_iload_n dX12_two_9 rfl ?_
  refine gx_iconst (x := 0) (by decide) dX12_two_10 ?_
  refine gx_iconst (x := 3) (by decide) dX12_two_11 ?_
  refine gx_cS_it (av := [.inl v3, .inl 0, .inl 3]) (st := []) ml_X12_118 (by omega) (c_X12_in (d - 1) (by omega) v3 0 3 M) rfl rfl (Nat.le_of_ble_eq_true rfl) dX12_two_12 ?_
  refine gx_if_ne (tgt := 20) dX12_two_15 (by decide) ?_ ?_
  · refine gx_iload_n dX12_two_20 rfl ?_
    refine gx_if_ne (tgt := 31) dX12_two_21 (by decide) ?_ ?_
    · refine gx_bipush (x := (-2)) (by decide) dX12_two_31 ?_
      refine gx_istore (lv' := [some (.inr (some 74)), some (.inl v1), some (.inl v2), some (.inl v3), some (.inl (-2)), none, none, none]) dX12_two_33 (by decide) rfl ?_
      refine gx_bipush (x := (-2)) (by decide) dX12_two_35 ?_
      refine gx_istore (lv' := [some (.inr (some 74)), some (.inl v1), some (.inl v2), some (.inl v3), some (.inl (-2)), some (.inl (-2)), none, none]) dX12_two_37 (by decide) rfl ?_
      refine gx_aload_n dX12_two_39 rfl ?_
      refine gx_getR fl_X12_22 sh74 rfl dX12_two_40 ?_
      refine gx_iload_n dX12_two_43 rfl ?_
      refine gx_iaload sh79 dX12_two_44 ?_
      refine gx_istore (lv' := [some (.inr (some 74)), some (.inl v1), some (.inl v2), some (.inl v3), some (.inl (-2)), some (.inl (-2)), some (.inl (M 79 (Int32.toNatClampNeg v1))), none]) dX12_two_45 (by decide) rfl ?_
      refine gx_mk (lv' := [some (.inr (some 74)), some (.inl v1), some (.inl v2), some (.inl v3), some (.inl (-2)), some (.inl (-2)), some (.inl (M 79 (Int32.toNatClampNeg v1))), none]) [true, true, true, true, true, true, true, false] rfl ?_
      exact w_X12_two_L47 d hd n M v1 v2 v3 n (-2) (-2) (M 79 (Int32.toNatClampNeg v1))
    refine gx_aload_n dX12_two_24 rfl ?_
    refine gx_iload_n dX12_two_25 rfl ?_
    refine gx_iload_n dX12_two_26 rfl ?_
    refine gx_cV_ip (av := [.inl v1, .inl v2]) (st := []) ml_X12_368 (by omega) sh74 (c_X12_crossedBy (d - 1) (by omega) n v1 v2 M) rfl rfl (Nat.le_of_ble_eq_true rfl) dX12_two_27 (fun x102 => ?_)
    exact gx_iret rfl rfl dX12_two_30
  refine gx_iconst (x := (-1)) (by decide) dX12_two_18 ?_
  exact gx_iret rfl rfl dX12_two_19
theorem c_X12_two (d : Nat) (hd : 4 ≤ d) (n : Nat) (v1 : Int32) (v2 : Int32) (v3 : Int32) (M : HMem) : MX iX12_two d [.inr (some 74), .inl v1, .inl v2, .inl v3] M (eP M) (f_X12_two n v1 v2 v3 M) := mx_of (by decide +kernel) (Nat.le_of_ble_eq_true rfl) rfl (w_X12_two d hd n v1 v2 v3 M)
-- X12_together
def f_X12_together_L32 (n : Nat) (v1 : Int32) (v2 : Int32) (v3 : Int32) (M : HMem) : Nat → Int32 → Int32 → Option Int32
  | 0, _, _ => none
  | k + 1, v4, v5 =>
    if hib v1 8 then
    if hib v1 8 then
    if ((M 79 (Int32.toNatClampNeg v1)) + (M 78 (Int32.toNatClampNeg v1))) < v5 then
      (some v4)
    else
      (hb1 (f_X12_apartAt v1 v2 v5 M) (fun x101 =>
      if x101 = (-1) then
        (f_X12_together_L32 n v1 v2 v3 M k v4 (v5 + 1))
      else
        (hb1 (f_X12_apartAt v1 v2 v5 M) (fun x102 =>
        if v3 < x102 then
          (f_X12_together_L32 n v1 v2 v3 M k v4 (v5 + 1))
        else
          (f_X12_together_L32 n v1 v2 v3 M k (v4 + 1) (v5 + 1))))))
    else none
    else none
set_option maxRecDepth 20000 in
theorem w_X12_together_L32 (d : Nat) (hd : 4 ≤ d) (n : Nat) (M : HMem) (v1 : Int32) (v2 : Int32) (v3 : Int32) : ∀ (k : Nat) (v4 : Int32) (v5 : Int32), GX iX12_together d (eP M) (f_X12_together_L32 n v1 v2 v3 M k v4 v5) 32 [some (.inr (some 74)), some (.inl v1), some (.inl v2), some (.inl v3), some (.inl v4), some (.inl v5)] [] M := by
  intro k
  induction k with
  | zero => intro v4 v5; exact gx_none
  | succ k ih =>
    intro v4 v5
    rw [f_X12_together_L32]
    refine gx_iload dX12_together_32 rfl ?_
    refine gx_aload_n dX12_together_34 rfl ?_
    refine gx_getR fl_X12_22 sh74 rfl dX12_together_35 ?_
    refine gx_iload_n dX12_together_38 rfl ?_
    refine gx_iaload sh79 dX12_together_39 ?_
    refine gx_aload_n dX12_together_40 rfl ?_
    refine gx_getR fl_X12_19 sh74 rfl dX12_together_41 ?_
    refine gx_iload_n dX12_together_44 rfl ?_
    refine gx_iaload sh78 dX12_together_45 ?_
    refine gx_iadd dX12_together_46 ?_
    refine gx_icmp_gt (tgt := 86) dX12_together_47 (by decide) ?_ ?_
    · refine gx_iload dX12_together_86 rfl ?_
      exact gx_iret rfl rfl dX12_together_88
    refine gx_aload_n dX12_together_50 rfl ?_
    refine gx_iload_n dX12_together_51 rfl ?_
    refine gx_iload_n dX12_together_52 rfl ?_
    refine gx_iload dX12_together_53 rfl ?_
    refine gx_cV_ip (av := [.inl v1, .inl v2, .inl v5]) (st := []) ml_X12_371 (by omega) sh74 (c_X12_apartAt (d - 1) (by omega) v1 v2 v5 M) rfl rfl (Nat.le_of_ble_eq_true rfl) dX12_together_55 (fun x101 => ?_)
    refine gx_iconst (x := (-1)) (by decide) dX12_together_58 ?_
    refine gx_icmp_eq (tgt := 80) dX12_together_59 (by decide) ?_ ?_
    · refine gx_iinc (y := v5 + 1) (lv' := [some (.inr (some 74)), some (.inl v1), some (.inl v2), some (.inl v3), some (.inl v4), some (.inl (v5 + 1))]) dX12_together_80 rfl rfl (by decide) rfl ?_
      refine gx_goto (tgt := 32) dX12_together_83 (by decide) ?_
      refine gx_mk (lv' := [some (.inr (some 74)), some (.inl v1), some (.inl v2), some (.inl v3), some (.inl v4), some (.inl (v5 + 1))]) [true, true, true, true, true, true] rfl ?_
      exact ih v4 (v5 + 1)
    refine gx_aload_n dX12_together_62 rfl ?_
    refine gx_iload_n dX12_together_63 rfl ?_
    refine gx_iload_n dX12_together_64 rfl ?_
    refine gx_iload dX12_together_65 rfl ?_
    refine gx_cV_ip (av := [.inl v1, .inl v2, .inl v5]) (st := []) ml_X12_371 (by omega) sh74 (c_X12_apartAt (d - 1) (by omega) v1 v2 v5 M) rfl rfl (Nat.le_of_ble_eq_true rfl) dX12_together_67 (fun x102 => ?_)
    refine gx_iload_n dX12_together_70 rfl ?_
    refine gx_icmp_gt (tgt := 80) dX12_together_71 (by decide) ?_ ?_
    · refine gx_iinc (y := v5 + 1) (lv' := [some (.inr (some 74)), some (.inl v1), some (.inl v2), some (.inl v3), some (.inl v4), some (.inl (v5 + 1))]) dX12_together_80 rfl rfl (by decide) rfl ?_
      refine gx_goto (tgt := 32) dX12_together_83 (by decide) ?_
      refine gx_mk (lv' := [some (.inr (some 74)), some (.inl v1), some (.inl v2), some (.inl v3), some (.inl v4), some (.inl (v5 + 1))]) [true, true, true, true, true, true] rfl ?_
      exact ih v4 (v5 + 1)
    refine gx_iload dX12_together_74 rfl ?_
    refine gx_iconst (x := 1) (by decide) dX12_together_76 ?_
    refine gx_iadd dX12_together_77 ?_
    refine gx_istore (lv' := [some (.inr (some 74)), some (.inl v1), some (.inl v2), some (.inl v3), some (.inl (v4 + 1)), some (.inl v5)]) dX12_together_78 (by decide) rfl ?_
    refine gx_iinc (y := v5 + 1) (lv' := [some (.inr (some 74)), some (.inl v1), some (.inl v2), some (.inl v3), some (.inl (v4 + 1)), some (.inl (v5 + 1))]) dX12_together_80 rfl rfl (by decide) rfl ?_
    refine gx_goto (tgt := 32) dX12_together_83 (by decide) ?_
    refine gx_mk (lv' := [some (.inr (some 74)), some (.inl v1), some (.inl v2), some (.inl v3), some (.inl (v4 + 1)), some (.inl (v5 + 1))]) [true, true, true, true, true, true] rfl ?_
    exact ih (v4 + 1) (v5 + 1)
def f_X12_together (n : Nat) (v1 : Int32) (v2 : Int32) (v3 : Int32) (M : HMem) : Option Int32 :=
  hb1 (f_X12_areTwo v1 v2 M) (fun x101 =>
  if x101 = 0 then
    (some (-1))
  else
    (if (f_X12_in v3 0 26) = 0 then
      (some (-1))
    else
      (if hib v1 8 then
      f_X12_together_L32 n v1 v2 v3 M n 0 (M 79 (Int32.toNatClampNeg v1))
      else none)))
set_option maxRecDepth 20000 in
theorem w_X12_together (d : Nat) (hd : 4 ≤ d) (n : Nat) (v1 : Int32) (v2 : Int32) (v3 : Int32) (M : HMem) : GX iX12_together d (eP M) (f_X12_together n v1 v2 v3 M) 0 [some (.inr (some 74)), some (.inl v1), some (.inl v2), some (.inl v3), none, none] [] M := by
  rw [f_X12_together]
  refine gx_aload_n dX12_together_0 rfl ?_
  refine gx_iload_n dX12_together_1 rfl ?_
  refine gx_iload_n dX12_together_2 rfl ?_
  refine gx_cV_ip (av := [.inl v1, .inl v2]) (st := []) ml_X12_365 (by omega) sh74 (c_X12_areTwo (d - 1) (by omega) v1 v2 M) rfl rfl (Nat.le_of_ble_eq_true rfl) dX12_together_3 (fun x101 => ?_)
  refine gx_if_eq (tgt := 19) dX12_together_6 (by decide) ?_ ?_
  · refine gx_iconst (x := (-1)) (by decide) dX12_together_19 ?_
    exact gx_iret rfl rfl dX12_together_20
  refine gx_iload_n dX12_together_9 rfl ?_
  refine gx_iconst (x := 0) (by decide) dX12_together_10 ?_
  refine gx_bipush (x := 26) (by decide) dX12_together_11 ?_
  refine gx_cS_it (av := [.inl v3, .inl 0, .inl 26]) (st := []) ml_X12_118 (by omega) (c_X12_in (d - 1) (by omega) v3 0 26 M) rfl rfl (Nat.le_of_ble_eq_true rfl) dX12_together_13 ?_
  refine gx_if_ne (tgt := 21) dX12_together_16 (by decide) ?_ ?_
  · refine gx_iconst (x := 0) (by decide) dX12_together_21 ?_
    refine gx_istore (lv' := [some (.inr (some 74)), some (.inl v1), some (.inl v2), some (.inl v3), some (.inl 0), none]) dX12_together_22 (by decide) rfl ?_
    refine gx_aload_n dX12_together_24 rfl ?_
    refine gx_getR fl_X12_22 sh74 rfl dX12_together_25 ?_
    refine gx_iload_n dX12_together_28 rfl ?_
    refine gx_iaload sh79 dX12_together_29 ?_
    refine gx_istore (lv' := [some (.inr (some 74)), some (.inl v1), some (.inl v2), some (.inl v3), some (.inl 0), some (.inl (M 79 (Int32.toNatClampNeg v1)))]) dX12_together_30 (by decide) rfl ?_
    refine gx_mk (lv' := [some (.inr (some 74)), some (.inl v1), some (.inl v2), some (.inl v3), some (.inl 0), some (.inl (M 79 (Int32.toNatClampNeg v1)))]) [true, true, true, true, true, true] rfl ?_
    exact w_X12_together_L32 d hd n M v1 v2 v3 n 0 (M 79 (Int32.toNatClampNeg v1))
  refine gx_iconst (x := (-1)) (by decide) dX12_together_19 ?_
  exact gx_iret rfl rfl dX12_together_20
theorem c_X12_together (d : Nat) (hd : 4 ≤ d) (n : Nat) (v1 : Int32) (v2 : Int32) (v3 : Int32) (M : HMem) : MX iX12_together d [.inr (some 74), .inl v1, .inl v2, .inl v3] M (eP M) (f_X12_together n v1 v2 v3 M) := mx_of (by decide +kernel) (Nat.le_of_ble_eq_true rfl) rfl (w_X12_together d hd n v1 v2 v3 M)
-- X12_crowd
def f_X12_crowd_L45 (n : Nat) (r31 : Int32 → Int32 → Int32 → Option Int32) (v1 : Int32) (v2 : Int32) (v3 : Int32) (v4 : Int32) (v5 : Int32) (M : HMem) : Nat → Int32 → Int32 → Option Int32
  | 0, _, _ => none
  | k + 1, v6, v7 =>
    if 8 ≤ v7 then
      (if v4 < v6 then
        (r31 v5 v6 (v5 + 1))
      else
        (r31 v3 v4 (v5 + 1)))
    else
      (hb1 (f_X12_whereAt v7 v1 M) (fun x101 =>
      if x101 = v5 then
        (f_X12_crowd_L45 n r31 v1 v2 v3 v4 v5 M k (v6 + 1) (v7 + 1))
      else
        (f_X12_crowd_L45 n r31 v1 v2 v3 v4 v5 M k v6 (v7 + 1))))
set_option maxRecDepth 20000 in
theorem w_X12_crowd_L45 (d : Nat) (hd : 3 ≤ d) (n : Nat) (r31 : Int32 → Int32 → Int32 → Option Int32) (M : HMem) (v1 : Int32) (v2 : Int32) (v3 : Int32) (v4 : Int32) (v5 : Int32) (hr31 : ∀ (v3 : Int32) (v4 : Int32) (v5 : Int32), GX iX12_crowd d (eP M) (r31 v3 v4 v5) 31 [some (.inr (some 74)), some (.inl v1), some (.inl v2), some (.inl v3), some (.inl v4), some (.inl v5), none, none] [] M) : ∀ (k : Nat) (v6 : Int32) (v7 : Int32), GX iX12_crowd d (eP M) (f_X12_crowd_L45 n r31 v1 v2 v3 v4 v5 M k v6 v7) 45 [some (.inr (some 74)), some (.inl v1), some (.inl v2), some (.inl v3), some (.inl v4), some (.inl v5), some (.inl v6), some (.inl v7)] [] M := by
  intro k
  induction k with
  | zero => intro v6 v7; exact gx_none
  | succ k ih =>
    intro v6 v7
    rw [f_X12_crowd_L45]
    refine gx_iload dX12_crowd_45 rfl ?_
    refine gx_bipush (x := 8) (by decide) dX12_crowd_47 ?_
    refine gx_icmp_ge (tgt := 76) dX12_crowd_49 (by decide) ?_ ?_
    · refine gx_iload dX12_crowd_76 rfl ?_
      refine gx_iload dX12_crowd_78 rfl ?_
      refine gx_icmp_gt (tgt := 86) dX12_crowd_80 (by decide) ?_ ?_
      · refine gx_iload dX12_crowd_86 rfl ?_
        refine gx_istore (lv' := [some (.inr (some 74)), some (.inl v1), some (.inl v2), some (.inl v3), some (.inl v6), some (.inl v5), some (.inl v6), some (.inl v7)]) dX12_crowd_88 (by decide) rfl ?_
        refine gx_iload dX12_crowd_90 rfl ?_
        refine gx_istore_n (lv' := [some (.inr (some 74)), some (.inl v1), some (.inl v2), some (.inl v5), some (.inl v6), some (.inl v5), some (.inl v6), some (.inl v7)]) dX12_crowd_92 (by decide) rfl ?_
        refine gx_iinc (y := v5 + 1) (lv' := [some (.inr (some 74)), some (.inl v1), some (.inl v2), some (.inl v5), some (.inl v6), some (.inl (v5 + 1)), some (.inl v6), some (.inl v7)]) dX12_crowd_93 rfl rfl (by decide) rfl ?_
        refine gx_goto (tgt := 31) dX12_crowd_96 (by decide) ?_
        refine gx_mk (lv' := [some (.inr (some 74)), some (.inl v1), some (.inl v2), some (.inl v5), some (.inl v6), some (.inl (v5 + 1)), none, none]) [true, true, true, true, true, true, false, false] rfl ?_
        exact hr31 v5 v6 (v5 + 1)
      refine gx_goto (tgt := 93) dX12_crowd_83 (by decide) ?_
      refine gx_iinc (y := v5 + 1) (lv' := [some (.inr (some 74)), some (.inl v1), some (.inl v2), some (.inl v3), some (.inl v4), some (.inl (v5 + 1)), some (.inl v6), some (.inl v7)]) dX12_crowd_93 rfl rfl (by decide) rfl ?_
      refine gx_goto (tgt := 31) dX12_crowd_96 (by decide) ?_
      refine gx_mk (lv' := [some (.inr (some 74)), some (.inl v1), some (.inl v2), some (.inl v3), some (.inl v4), some (.inl (v5 + 1)), none, none]) [true, true, true, true, true, true, false, false] rfl ?_
      exact hr31 v3 v4 (v5 + 1)
    refine gx_aload_n dX12_crowd_52 rfl ?_
    refine gx_iload dX12_crowd_53 rfl ?_
    refine gx_iload_n dX12_crowd_55 rfl ?_
    refine gx_cV_ip (av := [.inl v7, .inl v1]) (st := []) ml_X12_356 (by omega) sh74 (c_X12_whereAt (d - 1) (by omega) v7 v1 M) rfl rfl (Nat.le_of_ble_eq_true rfl) dX12_crowd_56 (fun x101 => ?_)
    refine gx_iload dX12_crowd_59 rfl ?_
    refine gx_icmp_ne (tgt := 70) dX12_crowd_61 (by decide) ?_ ?_
    · refine gx_iinc (y := v7 + 1) (lv' := [some (.inr (some 74)), some (.inl v1), some (.inl v2), some (.inl v3), some (.inl v4), some (.inl v5), some (.inl v6), some (.inl (v7 + 1))]) dX12_crowd_70 rfl rfl (by decide) rfl ?_
      refine gx_goto (tgt := 45) dX12_crowd_73 (by decide) ?_
      refine gx_mk (lv' := [some (.inr (some 74)), some (.inl v1), some (.inl v2), some (.inl v3), some (.inl v4), some (.inl v5), some (.inl v6), some (.inl (v7 + 1))]) [true, true, true, true, true, true, true, true] rfl ?_
      exact ih v6 (v7 + 1)
    refine gx_iload dX12_crowd_64 rfl ?_
    refine gx_iconst (x := 1) (by decide) dX12_crowd_66 ?_
    refine gx_iadd dX12_crowd_67 ?_
    refine gx_istore (lv' := [some (.inr (some 74)), some (.inl v1), some (.inl v2), some (.inl v3), some (.inl v4), some (.inl v5), some (.inl (v6 + 1)), some (.inl v7)]) dX12_crowd_68 (by decide) rfl ?_
    refine gx_iinc (y := v7 + 1) (lv' := [some (.inr (some 74)), some (.inl v1), some (.inl v2), some (.inl v3), some (.inl v4), some (.inl v5), some (.inl (v6 + 1)), some (.inl (v7 + 1))]) dX12_crowd_70 rfl rfl (by decide) rfl ?_
    refine gx_goto (tgt := 45) dX12_crowd_73 (by decide) ?_
    refine gx_mk (lv' := [some (.inr (some 74)), some (.inl v1), some (.inl v2), some (.inl v3), some (.inl v4), some (.inl v5), some (.inl (v6 + 1)), some (.inl (v7 + 1))]) [true, true, true, true, true, true, true, true] rfl ?_
    exact ih (v6 + 1) (v7 + 1)
def f_X12_crowd_L31 (n : Nat) (v1 : Int32) (v2 : Int32) (M : HMem) : Nat → Int32 → Int32 → Int32 → Option Int32
  | 0, _, _, _ => none
  | k + 1, v3, v4, v5 =>
    if 192 ≤ v5 then
      (if v2 = 0 then
        (some v3)
      else
        (some v4))
    else
      (f_X12_crowd_L45 n (f_X12_crowd_L31 n v1 v2 M k) v1 v2 v3 v4 v5 M n 0 0)
set_option maxRecDepth 20000 in
theorem w_X12_crowd_L31 (d : Nat) (hd : 3 ≤ d) (n : Nat) (M : HMem) (v1 : Int32) (v2 : Int32) : ∀ (k : Nat) (v3 : Int32) (v4 : Int32) (v5 : Int32), GX iX12_crowd d (eP M) (f_X12_crowd_L31 n v1 v2 M k v3 v4 v5) 31 [some (.inr (some 74)), some (.inl v1), some (.inl v2), some (.inl v3), some (.inl v4), some (.inl v5), none, none] [] M := by
  intro k
  induction k with
  | zero => intro v3 v4 v5; exact gx_none
  | succ k ih =>
    intro v3 v4 v5
    rw [f_X12_crowd_L31]
    refine gx_iload dX12_crowd_31 rfl ?_
    refine gx_sipush (x := 192) (by decide) dX12_crowd_33 ?_
    refine gx_icmp_ge (tgt := 99) dX12_crowd_36 (by decide) ?_ ?_
    · refine gx_iload_n dX12_crowd_99 rfl ?_
      refine gx_if_ne (tgt := 107) dX12_crowd_100 (by decide) ?_ ?_
      · refine gx_iload dX12_crowd_107 rfl ?_
        exact gx_iret rfl rfl dX12_crowd_109
      refine gx_iload_n dX12_crowd_103 rfl ?_
      refine gx_goto (tgt := 109) dX12_crowd_104 (by decide) ?_
      exact gx_iret rfl rfl dX12_crowd_109
    refine gx_iconst (x := 0) (by decide) dX12_crowd_39 ?_
    refine gx_istore (lv' := [some (.inr (some 74)), some (.inl v1), some (.inl v2), some (.inl v3), some (.inl v4), some (.inl v5), some (.inl 0), none]) dX12_crowd_40 (by decide) rfl ?_
    refine gx_iconst (x := 0) (by decide) dX12_crowd_42 ?_
    refine gx_istore (lv' := [some (.inr (some 74)), some (.inl v1), some (.inl v2), some (.inl v3), some (.inl v4), some (.inl v5), some (.inl 0), some (.inl 0)]) dX12_crowd_43 (by decide) rfl ?_
    refine gx_mk (lv' := [some (.inr (some 74)), some (.inl v1), some (.inl v2), some (.inl v3), some (.inl v4), some (.inl v5), some (.inl 0), some (.inl 0)]) [true, true, true, true, true, true, true, true] rfl ?_
    exact w_X12_crowd_L45 d hd n (f_X12_crowd_L31 n v1 v2 M k) M v1 v2 v3 v4 v5 ih n 0 0
def f_X12_crowd (n : Nat) (v1 : Int32) (v2 : Int32) (M : HMem) : Option Int32 :=
  if (f_X12_in v1 0 20000) = 0 then
    (some (-1))
  else
    (if (f_X12_in v2 0 1) = 0 then
      (some (-1))
    else
      (f_X12_crowd_L31 n v1 v2 M n (-2) 0 0))
set_option maxRecDepth 20000 in
theorem w_X12_crowd (d : Nat) (hd : 3 ≤ d) (n : Nat) (v1 : Int32) (v2 : Int32) (M : HMem) : GX iX12_crowd d (eP M) (f_X12_crowd n v1 v2 M) 0 [some (.inr (some 74)), some (.inl v1), some (.inl v2), none, none, none, none, none] [] M := by
  rw [f_X12_crowd]
  refine gx_iload_n dX12_crowd_0 rfl ?_
  refine gx_iconst (x := 0) (by decide) dX12_crowd_1 ?_
  refine gx_sipush (x := 20000) (by decide) dX12_crowd_2 ?_
  refine gx_cS_it (av := [.inl v1, .inl 0, .inl 20000]) (st := []) ml_X12_118 (by omega) (c_X12_in (d - 1) (by omega) v1 0 20000 M) rfl rfl (Nat.le_of_ble_eq_true rfl) dX12_crowd_5 ?_
  refine gx_if_eq (tgt := 20) dX12_crowd_8 (by decide) ?_ ?_
  · refine gx_iconst (x := (-1)) (by decide) dX12_crowd_20 ?_
    exact gx_iret rfl rfl dX12_crowd_21
  refine gx_iload_n dX12_crowd_11 rfl ?_
  refine gx_iconst (x := 0) (by decide) dX12_crowd_12 ?_
  refine gx_iconst (x := 1) (by decide) dX12_crowd_13 ?_
  refine gx_cS_it (av := [.inl v2, .inl 0, .inl 1]) (st := []) ml_X12_118 (by omega) (c_X12_in (d - 1) (by omega) v2 0 1 M) rfl rfl (Nat.le_of_ble_eq_true rfl) dX12_crowd_14 ?_
  refine gx_if_ne (tgt := 22) dX12_crowd_17 (by decide) ?_ ?_
  · refine gx_bipush (x := (-2)) (by decide) dX12_crowd_22 ?_
    refine gx_istore_n (lv' := [some (.inr (some 74)), some (.inl v1), some (.inl v2), some (.inl (-2)), none, none, none, none]) dX12_crowd_24 (by decide) rfl ?_
    refine gx_iconst (x := 0) (by decide) dX12_crowd_25 ?_
    refine gx_istore (lv' := [some (.inr (some 74)), some (.inl v1), some (.inl v2), some (.inl (-2)), some (.inl 0), none, none, none]) dX12_crowd_26 (by decide) rfl ?_
    refine gx_iconst (x := 0) (by decide) dX12_crowd_28 ?_
    refine gx_istore (lv' := [some (.inr (some 74)), some (.inl v1), some (.inl v2), some (.inl (-2)), some (.inl 0), some (.inl 0), none, none]) dX12_crowd_29 (by decide) rfl ?_
    refine gx_mk (lv' := [some (.inr (some 74)), some (.inl v1), some (.inl v2), some (.inl (-2)), some (.inl 0), some (.inl 0), none, none]) [true, true, true, true, true, true, false, false] rfl ?_
    exact w_X12_crowd_L31 d hd n M v1 v2 n (-2) 0 0
  refine gx_iconst (x := (-1)) (by decide) dX12_crowd_20 ?_
  exact gx_iret rfl rfl dX12_crowd_21
theorem c_X12_crowd (d : Nat) (hd : 3 ≤ d) (n : Nat) (v1 : Int32) (v2 : Int32) (M : HMem) : MX iX12_crowd d [.inr (some 74), .inl v1, .inl v2] M (eP M) (f_X12_crowd n v1 v2 M) := mx_of (by decide +kernel) (Nat.le_of_ble_eq_true rfl) rfl (w_X12_crowd d hd n v1 v2 M)

-- X11_isWithin
def f_X11_isWithin (v0 : Int32) (v1 : Int32) : Int32 :=
  if v0 < 0 then
    (0)
  else
    (if v1 < v0 then
      (0)
    else
      (1))
set_option maxRecDepth 20000 in
theorem w_X11_isWithin (d : Nat) (hd : 0 ≤ d) (v0 : Int32) (v1 : Int32) (M : HMem) : GX iX11_isWithin d (eP M) (some (f_X11_isWithin v0 v1)) 0 [some (.inl v0), some (.inl v1)] [] M := by
  rw [f_X11_isWithin]
  refine gx_iload_n dX11_isWithin_0 rfl ?_
  refine gxt_if_lt (tgt := 13) dX11_isWithin_1 (by decide) ?_ ?_
  · refine gx_iconst (x := 0) (by decide) dX11_isWithin_13 ?_
    exact gx_zret rfl (by decide) rfl dX11_isWithin_14
  refine gx_iload_n dX11_isWithin_4 rfl ?_
  refine gx_iload_n dX11_isWithin_5 rfl ?_
  refine gxt_icmp_gt (tgt := 13) dX11_isWithin_6 (by decide) ?_ ?_
  · refine gx_iconst (x := 0) (by decide) dX11_isWithin_13 ?_
    exact gx_zret rfl (by decide) rfl dX11_isWithin_14
  refine gx_iconst (x := 1) (by decide) dX11_isWithin_9 ?_
  refine gx_goto (tgt := 14) dX11_isWithin_10 (by decide) ?_
  exact gx_zret rfl (by decide) rfl dX11_isWithin_14
theorem c_X11_isWithin (d : Nat) (hd : 0 ≤ d) (v0 : Int32) (v1 : Int32) (M : HMem) : MX iX11_isWithin d [.inl v0, .inl v1] M (eP M) (some (f_X11_isWithin v0 v1)) := mx_of (by decide +kernel) (Nat.le_of_ble_eq_true rfl) rfl (w_X11_isWithin d hd v0 v1 M)
-- X0_courseOf
def f_X0_courseOf (v1 : Int32) : Option (Option Nat) :=
  if (f_X11_isWithin v1 7) = 0 then
    (some (none))
  else
    (if hib v1 8 then
    some (some (50 + 3 * Int32.toNatClampNeg v1))
    else none)
set_option maxRecDepth 20000 in
theorem w_X0_courseOf (d : Nat) (hd : 1 ≤ d) (v1 : Int32) (M : HMem) : GX iX0_courseOf d (eR M) (f_X0_courseOf v1) 0 [some (.inr (some 3)), some (.inl v1)] [] M := by
  rw [f_X0_courseOf]
  refine gx_iload_n dX0_courseOf_0 rfl ?_
  refine gx_bipush (x := 7) (by decide) dX0_courseOf_1 ?_
  refine gx_cS_it (av := [.inl v1, .inl 7]) (st := []) ml_X0_29 (by omega) (c_X11_isWithin (d - 1) (by omega) v1 7 M) rfl rfl (Nat.le_of_ble_eq_true rfl) dX0_courseOf_3 ?_
  refine gx_if_eq (tgt := 18) dX0_courseOf_6 (by decide) ?_ ?_
  · refine gx_null dX0_courseOf_18 ?_
    exact gx_aret rfl rfl dX0_courseOf_19
  refine gx_aload_n dX0_courseOf_9 rfl ?_
  refine gx_getR fl_X0_11 sh3 rfl dX0_courseOf_10 ?_
  refine gx_iload_n dX0_courseOf_13 rfl ?_
  refine gx_courses dX0_courseOf_14 ?_
  refine gx_goto (tgt := 19) dX0_courseOf_15 (by decide) ?_
  exact gx_aret rfl rfl dX0_courseOf_19
theorem c_X0_courseOf (d : Nat) (hd : 1 ≤ d) (v1 : Int32) (M : HMem) : MX iX0_courseOf d [.inr (some 3), .inl v1] M (eR M) (f_X0_courseOf v1) := mx_of (by decide +kernel) (Nat.le_of_ble_eq_true rfl) rfl (w_X0_courseOf d hd v1 M)
theorem co_X0_courseOf {a : Int32} {o : Nat} (h : f_X0_courseOf a = some (some o)) : isCo o := by
  rw [f_X0_courseOf] at h
  split at h
  · cases h
  · split at h
    · next hb =>
      simp only [hib, Bool.and_eq_true, decide_eq_true_eq] at hb
      cases h
      exact ⟨_, hb.2, rfl⟩
    · cases h
-- X0_laid
def f_X0_laid (v1 : Int32) (M : HMem) : Option (Option Nat) :=
  hb1 (f_X0_courseOf v1) (fun r101 => match r101 with
    | none => (some (none))
    | some o102 => (if (M o102 2) = 0 then
        (some (none))
      else
        (some (some o102))))
set_option maxRecDepth 20000 in
theorem w_X0_laid (d : Nat) (hd : 2 ≤ d) (v1 : Int32) (M : HMem) : GX iX0_laid d (eR M) (f_X0_laid v1 M) 0 [some (.inr (some 3)), some (.inl v1), none] [] M := by
  rw [f_X0_laid]
  refine gx_aload_n dX0_laid_0 rfl ?_
  refine gx_iload_n dX0_laid_1 rfl ?_
  refine gx_cV_rp (av := [.inl v1]) (st := []) ml_X0_33 (by omega) sh3 (c_X0_courseOf (d - 1) (by omega) v1 M) rfl rfl (Nat.le_of_ble_eq_true rfl) dX0_laid_2 (fun r101 er101 => ?_)
  cases r101 with
  | none =>
    dsimp only
    refine gx_astore_nN (lv' := [some (.inr (some 3)), some (.inl v1), some (.inr none)]) dX0_laid_5 (by decide) rfl ?_
    refine gx_aload_nN dX0_laid_6 rfl ?_
    refine gx_ifnullN (tgt := 21) dX0_laid_7 (by decide) ?_
    refine gx_null dX0_laid_21 ?_
    exact gx_aret rfl rfl dX0_laid_22
  | some o102 =>
    have ho102 := co_X0_courseOf er101
    dsimp only
    refine gx_astore_n (lv' := [some (.inr (some 3)), some (.inl v1), some (.inr (some o102))]) dX0_laid_5 (by decide) rfl ?_
    refine gx_aload_n dX0_laid_6 rfl ?_
    refine gx_ifnullS dX0_laid_7 ?_
    refine gx_aload_n dX0_laid_10 rfl ?_
    refine gx_getI fl_X0_37 (shC ho102) rfl dX0_laid_11 ?_
    refine gx_if_eq (tgt := 21) dX0_laid_14 (by decide) ?_ ?_
    · refine gx_null dX0_laid_21 ?_
      exact gx_aret rfl rfl dX0_laid_22
    refine gx_aload_n dX0_laid_17 rfl ?_
    refine gx_goto (tgt := 22) dX0_laid_18 (by decide) ?_
    exact gx_aret rfl rfl dX0_laid_22
theorem c_X0_laid (d : Nat) (hd : 2 ≤ d) (v1 : Int32) (M : HMem) : MX iX0_laid d [.inr (some 3), .inl v1] M (eR M) (f_X0_laid v1 M) := mx_of (by decide +kernel) (Nat.le_of_ble_eq_true rfl) rfl (w_X0_laid d hd v1 M)
theorem co_X0_laid {a : Int32} {M : HMem} {o : Nat} (h : f_X0_laid a M = some (some o)) : isCo o := by
  rw [f_X0_laid] at h
  obtain ⟨r, hr, h⟩ := Option.bind_eq_some_iff.mp h
  cases r with
  | none => cases h
  | some o1 =>
    dsimp only at h
    split at h
    · cases h
    · cases h; exact co_X0_courseOf hr
-- X0_laidBits
def f_X0_laidBits_L4 (n : Nat)  (M : HMem) : Nat → Int32 → Int32 → Option Int32
  | 0, _, _ => none
  | k + 1, v1, v2 =>
    if 8 ≤ v2 then
      (some v1)
    else
      (hb1 (f_X0_laid v2 M) (fun r101 => match r101 with
        | none => (f_X0_laidBits_L4 n M k v1 (v2 + 1))
        | some o102 => (f_X0_laidBits_L4 n M k (v1 ||| (1 <<< (v2 &&& 31))) (v2 + 1))))
set_option maxRecDepth 20000 in
theorem w_X0_laidBits_L4 (d : Nat) (hd : 3 ≤ d) (n : Nat) (M : HMem)  : ∀ (k : Nat) (v1 : Int32) (v2 : Int32), GX iX0_laidBits d (eP M) (f_X0_laidBits_L4 n M k v1 v2) 4 [some (.inr (some 3)), some (.inl v1), some (.inl v2)] [] M := by
  intro k
  induction k with
  | zero => intro v1 v2; exact gx_none
  | succ k ih =>
    intro v1 v2
    rw [f_X0_laidBits_L4]
    refine gx_iload_n dX0_laidBits_4 rfl ?_
    refine gx_bipush (x := 8) (by decide) dX0_laidBits_5 ?_
    refine gx_icmp_ge (tgt := 30) dX0_laidBits_7 (by decide) ?_ ?_
    · refine gx_iload_n dX0_laidBits_30 rfl ?_
      exact gx_iret rfl rfl dX0_laidBits_31
    refine gx_aload_n dX0_laidBits_10 rfl ?_
    refine gx_iload_n dX0_laidBits_11 rfl ?_
    refine gx_cV_rp (av := [.inl v2]) (st := []) ml_X0_41 (by omega) sh3 (c_X0_laid (d - 1) (by omega) v2 M) rfl rfl (Nat.le_of_ble_eq_true rfl) dX0_laidBits_12 (fun r101 er101 => ?_)
    cases r101 with
    | none =>
      dsimp only
      refine gx_ifnullN (tgt := 24) dX0_laidBits_15 (by decide) ?_
      refine gx_iinc (y := v2 + 1) (lv' := [some (.inr (some 3)), some (.inl v1), some (.inl (v2 + 1))]) dX0_laidBits_24 rfl rfl (by decide) rfl ?_
      refine gx_goto (tgt := 4) dX0_laidBits_27 (by decide) ?_
      refine gx_mk (lv' := [some (.inr (some 3)), some (.inl v1), some (.inl (v2 + 1))]) [true, true, true] rfl ?_
      exact ih v1 (v2 + 1)
    | some o102 =>
      have ho102 := co_X0_laid er101
      dsimp only
      refine gx_ifnullS dX0_laidBits_15 ?_
      refine gx_iload_n dX0_laidBits_18 rfl ?_
      refine gx_iconst (x := 1) (by decide) dX0_laidBits_19 ?_
      refine gx_iload_n dX0_laidBits_20 rfl ?_
      refine gx_ishl dX0_laidBits_21 ?_
      refine gx_ior dX0_laidBits_22 ?_
      refine gx_istore_n (lv' := [some (.inr (some 3)), some (.inl (v1 ||| (1 <<< (v2 &&& 31)))), some (.inl v2)]) dX0_laidBits_23 (by decide) rfl ?_
      refine gx_iinc (y := v2 + 1) (lv' := [some (.inr (some 3)), some (.inl (v1 ||| (1 <<< (v2 &&& 31)))), some (.inl (v2 + 1))]) dX0_laidBits_24 rfl rfl (by decide) rfl ?_
      refine gx_goto (tgt := 4) dX0_laidBits_27 (by decide) ?_
      refine gx_mk (lv' := [some (.inr (some 3)), some (.inl (v1 ||| (1 <<< (v2 &&& 31)))), some (.inl (v2 + 1))]) [true, true, true] rfl ?_
      exact ih (v1 ||| (1 <<< (v2 &&& 31))) (v2 + 1)
def f_X0_laidBits (n : Nat)  (M : HMem) : Option Int32 :=
  f_X0_laidBits_L4 n M n 0 0
set_option maxRecDepth 20000 in
theorem w_X0_laidBits (d : Nat) (hd : 3 ≤ d) (n : Nat)  (M : HMem) : GX iX0_laidBits d (eP M) (f_X0_laidBits n  M) 0 [some (.inr (some 3)), none, none] [] M := by
  rw [f_X0_laidBits]
  refine gx_iconst (x := 0) (by decide) dX0_laidBits_0 ?_
  refine gx_istore_n (lv' := [some (.inr (some 3)), some (.inl 0), none]) dX0_laidBits_1 (by decide) rfl ?_
  refine gx_iconst (x := 0) (by decide) dX0_laidBits_2 ?_
  refine gx_istore_n (lv' := [some (.inr (some 3)), some (.inl 0), some (.inl 0)]) dX0_laidBits_3 (by decide) rfl ?_
  refine gx_mk (lv' := [some (.inr (some 3)), some (.inl 0), some (.inl 0)]) [true, true, true] rfl ?_
  exact w_X0_laidBits_L4 d hd n M  n 0 0
theorem c_X0_laidBits (d : Nat) (hd : 3 ≤ d) (n : Nat)  (M : HMem) : MX iX0_laidBits d [.inr (some 3)] M (eP M) (f_X0_laidBits n  M) := mx_of (by decide +kernel) (Nat.le_of_ble_eq_true rfl) rfl (w_X0_laidBits d hd n  M)
-- X11_isPlace
def f_X11_isPlace (v0 : Int32) : Int32 :=
  if v0 < 0 then
    (0)
  else
    (if 192 ≤ v0 then
      (0)
    else
      (1))
set_option maxRecDepth 20000 in
theorem w_X11_isPlace (d : Nat) (hd : 0 ≤ d) (v0 : Int32) (M : HMem) : GX iX11_isPlace d (eP M) (some (f_X11_isPlace v0)) 0 [some (.inl v0)] [] M := by
  rw [f_X11_isPlace]
  refine gx_iload_n dX11_isPlace_0 rfl ?_
  refine gxt_if_lt (tgt := 15) dX11_isPlace_1 (by decide) ?_ ?_
  · refine gx_iconst (x := 0) (by decide) dX11_isPlace_15 ?_
    exact gx_zret rfl (by decide) rfl dX11_isPlace_16
  refine gx_iload_n dX11_isPlace_4 rfl ?_
  refine gx_sipush (x := 192) (by decide) dX11_isPlace_5 ?_
  refine gxt_icmp_ge (tgt := 15) dX11_isPlace_8 (by decide) ?_ ?_
  · refine gx_iconst (x := 0) (by decide) dX11_isPlace_15 ?_
    exact gx_zret rfl (by decide) rfl dX11_isPlace_16
  refine gx_iconst (x := 1) (by decide) dX11_isPlace_11 ?_
  refine gx_goto (tgt := 16) dX11_isPlace_12 (by decide) ?_
  exact gx_zret rfl (by decide) rfl dX11_isPlace_16
theorem c_X11_isPlace (d : Nat) (hd : 0 ≤ d) (v0 : Int32) (M : HMem) : MX iX11_isPlace d [.inl v0] M (eP M) (some (f_X11_isPlace v0)) := mx_of (by decide +kernel) (Nat.le_of_ble_eq_true rfl) rfl (w_X11_isPlace d hd v0 M)
-- X1_placeAt
def f_X1_placeAt (o0 : Nat) (v1 : Int32) (M : HMem) : Option Int32 :=
  if (v1 - (M o0 3)) < 0 then
    (some (-2))
  else
    (if (M o0 4) < (v1 - (M o0 3)) then
      (some (-2))
    else
      (if 97 ≤ (v1 - (M o0 3)) then
        (some (-2))
      else
        (if hib (v1 - (M o0 3)) 97 then
        some (M (o0 + 2) (Int32.toNatClampNeg (v1 - (M o0 3))))
        else none)))
set_option maxRecDepth 20000 in
theorem w_X1_placeAt (d : Nat) (hd : 0 ≤ d) (o0 : Nat) (h0 : isCo o0) (v1 : Int32) (M : HMem) : GX iX1_placeAt d (eP M) (f_X1_placeAt o0 v1 M) 0 [some (.inr (some o0)), some (.inl v1), none] [] M := by
  rw [f_X1_placeAt]
  refine gx_iload_n dX1_placeAt_0 rfl ?_
  refine gx_aload_n dX1_placeAt_1 rfl ?_
  refine gx_getI fl_X1_22 (shC h0) rfl dX1_placeAt_2 ?_
  refine gx_isub dX1_placeAt_5 ?_
  refine gx_istore_n (lv' := [some (.inr (some o0)), some (.inl v1), some (.inl (v1 - (M o0 3)))]) dX1_placeAt_6 (by decide) rfl ?_
  refine gx_iload_n dX1_placeAt_7 rfl ?_
  refine gx_if_lt (tgt := 37) dX1_placeAt_8 (by decide) ?_ ?_
  · refine gx_bipush (x := (-2)) (by decide) dX1_placeAt_37 ?_
    exact gx_iret rfl rfl dX1_placeAt_39
  refine gx_iload_n dX1_placeAt_11 rfl ?_
  refine gx_aload_n dX1_placeAt_12 rfl ?_
  refine gx_getI fl_X1_26 (shC h0) rfl dX1_placeAt_13 ?_
  refine gx_icmp_gt (tgt := 37) dX1_placeAt_16 (by decide) ?_ ?_
  · refine gx_bipush (x := (-2)) (by decide) dX1_placeAt_37 ?_
    exact gx_iret rfl rfl dX1_placeAt_39
  refine gx_iload_n dX1_placeAt_19 rfl ?_
  refine gx_aload_n dX1_placeAt_20 rfl ?_
  refine gx_getR fl_X1_15 (shC h0) rfl dX1_placeAt_21 ?_
  refine gx_alen (x := 97) (shC2 h0) (by decide) (by decide) dX1_placeAt_24 ?_
  refine gx_icmp_ge (tgt := 37) dX1_placeAt_25 (by decide) ?_ ?_
  · refine gx_bipush (x := (-2)) (by decide) dX1_placeAt_37 ?_
    exact gx_iret rfl rfl dX1_placeAt_39
  refine gx_aload_n dX1_placeAt_28 rfl ?_
  refine gx_getR fl_X1_15 (shC h0) rfl dX1_placeAt_29 ?_
  refine gx_iload_n dX1_placeAt_32 rfl ?_
  refine gx_iaload (shC2 h0) dX1_placeAt_33 ?_
  refine gx_goto (tgt := 39) dX1_placeAt_34 (by decide) ?_
  exact gx_iret rfl rfl dX1_placeAt_39
theorem c_X1_placeAt (d : Nat) (hd : 0 ≤ d) (o0 : Nat) (h0 : isCo o0) (v1 : Int32) (M : HMem) : MX iX1_placeAt d [.inr (some o0), .inl v1] M (eP M) (f_X1_placeAt o0 v1 M) := mx_of (by decide +kernel) (Nat.le_of_ble_eq_true rfl) rfl (w_X1_placeAt d hd o0 h0 v1 M)
-- X0_creaturesAt
def f_X0_creaturesAt_L5 (n : Nat) (v1 : Int32) (v2 : Int32) (M : HMem) : Nat → Int32 → Int32 → Option Int32
  | 0, _, _ => none
  | k + 1, v3, v4 =>
    if 8 ≤ v4 then
      (some v3)
    else
      (if (f_X11_isPlace v1) = 0 then
        (some v3)
      else
        (hb1 (f_X0_laid v4 M) (fun r101 => match r101 with
          | none => (f_X0_creaturesAt_L5 n v1 v2 M k v3 (v4 + 1))
          | some o102 => (hb1 (f_X1_placeAt o102 v2 M) (fun x103 =>
            if x103 = v1 then
              (f_X0_creaturesAt_L5 n v1 v2 M k (v3 + 1) (v4 + 1))
            else
              (f_X0_creaturesAt_L5 n v1 v2 M k v3 (v4 + 1)))))))
set_option maxRecDepth 20000 in
theorem w_X0_creaturesAt_L5 (d : Nat) (hd : 3 ≤ d) (n : Nat) (M : HMem) (v1 : Int32) (v2 : Int32) : ∀ (k : Nat) (v3 : Int32) (v4 : Int32), GX iX0_creaturesAt d (eP M) (f_X0_creaturesAt_L5 n v1 v2 M k v3 v4) 5 [some (.inr (some 3)), some (.inl v1), some (.inl v2), some (.inl v3), some (.inl v4), none] [] M := by
  intro k
  induction k with
  | zero => intro v3 v4; exact gx_none
  | succ k ih =>
    intro v3 v4
    rw [f_X0_creaturesAt_L5]
    refine gx_iload dX0_creaturesAt_5 rfl ?_
    refine gx_bipush (x := 8) (by decide) dX0_creaturesAt_7 ?_
    refine gx_icmp_ge (tgt := 51) dX0_creaturesAt_9 (by decide) ?_ ?_
    · refine gx_iload_n dX0_creaturesAt_51 rfl ?_
      exact gx_iret rfl rfl dX0_creaturesAt_52
    refine gx_iload_n dX0_creaturesAt_12 rfl ?_
    refine gx_cS_it (av := [.inl v1]) (st := []) ml_X0_44 (by omega) (c_X11_isPlace (d - 1) (by omega) v1 M) rfl rfl (Nat.le_of_ble_eq_true rfl) dX0_creaturesAt_13 ?_
    refine gx_if_eq (tgt := 51) dX0_creaturesAt_16 (by decide) ?_ ?_
    · refine gx_iload_n dX0_creaturesAt_51 rfl ?_
      exact gx_iret rfl rfl dX0_creaturesAt_52
    refine gx_aload_n dX0_creaturesAt_19 rfl ?_
    refine gx_iload dX0_creaturesAt_20 rfl ?_
    refine gx_cV_rp (av := [.inl v4]) (st := []) ml_X0_41 (by omega) sh3 (c_X0_laid (d - 1) (by omega) v4 M) rfl rfl (Nat.le_of_ble_eq_true rfl) dX0_creaturesAt_22 (fun r101 er101 => ?_)
    cases r101 with
    | none =>
      dsimp only
      refine gx_astoreN (lv' := [some (.inr (some 3)), some (.inl v1), some (.inl v2), some (.inl v3), some (.inl v4), some (.inr none)]) dX0_creaturesAt_25 (by decide) rfl ?_
      refine gx_aloadN dX0_creaturesAt_27 rfl ?_
      refine gx_ifnullN (tgt := 45) dX0_creaturesAt_29 (by decide) ?_
      refine gx_iinc (y := v4 + 1) (lv' := [some (.inr (some 3)), some (.inl v1), some (.inl v2), some (.inl v3), some (.inl (v4 + 1)), some (.inr none)]) dX0_creaturesAt_45 rfl rfl (by decide) rfl ?_
      refine gx_goto (tgt := 5) dX0_creaturesAt_48 (by decide) ?_
      refine gx_mk (lv' := [some (.inr (some 3)), some (.inl v1), some (.inl v2), some (.inl v3), some (.inl (v4 + 1)), none]) [true, true, true, true, true, false] rfl ?_
      exact ih v3 (v4 + 1)
    | some o102 =>
      have ho102 := co_X0_laid er101
      dsimp only
      refine gx_astore (lv' := [some (.inr (some 3)), some (.inl v1), some (.inl v2), some (.inl v3), some (.inl v4), some (.inr (some o102))]) dX0_creaturesAt_25 (by decide) rfl ?_
      refine gx_aload dX0_creaturesAt_27 rfl ?_
      refine gx_ifnullS dX0_creaturesAt_29 ?_
      refine gx_aload dX0_creaturesAt_32 rfl ?_
      refine gx_iload_n dX0_creaturesAt_34 rfl ?_
      refine gx_cV_ip (av := [.inl v2]) (st := []) ml_X0_48 (by omega) (shC ho102) (c_X1_placeAt (d - 1) (by omega) o102 ho102 v2 M) rfl rfl (Nat.le_of_ble_eq_true rfl) dX0_creaturesAt_35 (fun x103 => ?_)
      refine gx_iload_n dX0_creaturesAt_38 rfl ?_
      refine gx_icmp_ne (tgt := 45) dX0_creaturesAt_39 (by decide) ?_ ?_
      · refine gx_iinc (y := v4 + 1) (lv' := [some (.inr (some 3)), some (.inl v1), some (.inl v2), some (.inl v3), some (.inl (v4 + 1)), some (.inr (some o102))]) dX0_creaturesAt_45 rfl rfl (by decide) rfl ?_
        refine gx_goto (tgt := 5) dX0_creaturesAt_48 (by decide) ?_
        refine gx_mk (lv' := [some (.inr (some 3)), some (.inl v1), some (.inl v2), some (.inl v3), some (.inl (v4 + 1)), none]) [true, true, true, true, true, false] rfl ?_
        exact ih v3 (v4 + 1)
      refine gx_iinc (y := v3 + 1) (lv' := [some (.inr (some 3)), some (.inl v1), some (.inl v2), some (.inl (v3 + 1)), some (.inl v4), some (.inr (some o102))]) dX0_creaturesAt_42 rfl rfl (by decide) rfl ?_
      refine gx_iinc (y := v4 + 1) (lv' := [some (.inr (some 3)), some (.inl v1), some (.inl v2), some (.inl (v3 + 1)), some (.inl (v4 + 1)), some (.inr (some o102))]) dX0_creaturesAt_45 rfl rfl (by decide) rfl ?_
      refine gx_goto (tgt := 5) dX0_creaturesAt_48 (by decide) ?_
      refine gx_mk (lv' := [some (.inr (some 3)), some (.inl v1), some (.inl v2), some (.inl (v3 + 1)), some (.inl (v4 + 1)), none]) [true, true, true, true, true, false] rfl ?_
      exact ih (v3 + 1) (v4 + 1)
def f_X0_creaturesAt (n : Nat) (v1 : Int32) (v2 : Int32) (M : HMem) : Option Int32 :=
  f_X0_creaturesAt_L5 n v1 v2 M n 0 0
set_option maxRecDepth 20000 in
theorem w_X0_creaturesAt (d : Nat) (hd : 3 ≤ d) (n : Nat) (v1 : Int32) (v2 : Int32) (M : HMem) : GX iX0_creaturesAt d (eP M) (f_X0_creaturesAt n v1 v2 M) 0 [some (.inr (some 3)), some (.inl v1), some (.inl v2), none, none, none] [] M := by
  rw [f_X0_creaturesAt]
  refine gx_iconst (x := 0) (by decide) dX0_creaturesAt_0 ?_
  refine gx_istore_n (lv' := [some (.inr (some 3)), some (.inl v1), some (.inl v2), some (.inl 0), none, none]) dX0_creaturesAt_1 (by decide) rfl ?_
  refine gx_iconst (x := 0) (by decide) dX0_creaturesAt_2 ?_
  refine gx_istore (lv' := [some (.inr (some 3)), some (.inl v1), some (.inl v2), some (.inl 0), some (.inl 0), none]) dX0_creaturesAt_3 (by decide) rfl ?_
  refine gx_mk (lv' := [some (.inr (some 3)), some (.inl v1), some (.inl v2), some (.inl 0), some (.inl 0), none]) [true, true, true, true, true, false] rfl ?_
  exact w_X0_creaturesAt_L5 d hd n M v1 v2 n 0 0
theorem c_X0_creaturesAt (d : Nat) (hd : 3 ≤ d) (n : Nat) (v1 : Int32) (v2 : Int32) (M : HMem) : MX iX0_creaturesAt d [.inr (some 3), .inl v1, .inl v2] M (eP M) (f_X0_creaturesAt n v1 v2 M) := mx_of (by decide +kernel) (Nat.le_of_ble_eq_true rfl) rfl (w_X0_creaturesAt d hd n v1 v2 M)
-- X0_strength
def f_X0_strength (v1 : Int32) (v2 : Int32) (M : HMem) : Int32 :=
  if v1 ≤ v2 then
    ((99 - ((v2 - v1) * (M 3 2))))
  else
    (0)
set_option maxRecDepth 20000 in
theorem w_X0_strength (d : Nat) (hd : 0 ≤ d) (v1 : Int32) (v2 : Int32) (M : HMem) : GX iX0_strength d (eP M) (some (f_X0_strength v1 v2 M)) 0 [some (.inr (some 3)), some (.inl v1), some (.inl v2)] [] M := by
  rw [f_X0_strength]
  refine gx_iload_n dX0_strength_0 rfl ?_
  refine gx_iload_n dX0_strength_1 rfl ?_
  refine gxt_icmp_le (tgt := 9) dX0_strength_2 (by decide) ?_ ?_
  · refine gx_bipush (x := 99) (by decide) dX0_strength_9 ?_
    refine gx_iload_n dX0_strength_11 rfl ?_
    refine gx_iload_n dX0_strength_12 rfl ?_
    refine gx_isub dX0_strength_13 ?_
    refine gx_aload_n dX0_strength_14 rfl ?_
    refine gx_getI fl_X0_24 sh3 rfl dX0_strength_15 ?_
    refine gx_imul dX0_strength_18 ?_
    refine gx_isub dX0_strength_19 ?_
    exact gx_iret rfl rfl dX0_strength_20
  refine gx_iconst (x := 0) (by decide) dX0_strength_5 ?_
  refine gx_goto (tgt := 20) dX0_strength_6 (by decide) ?_
  exact gx_iret rfl rfl dX0_strength_20
theorem c_X0_strength (d : Nat) (hd : 0 ≤ d) (v1 : Int32) (v2 : Int32) (M : HMem) : MX iX0_strength d [.inr (some 3), .inl v1, .inl v2] M (eP M) (some (f_X0_strength v1 v2 M)) := mx_of (by decide +kernel) (Nat.le_of_ble_eq_true rfl) rfl (w_X0_strength d hd v1 v2 M)
-- X3_kindAt
def f_X3_kindAt (o0 : Nat) (v1 : Int32) (M : HMem) : Option Int32 :=
  if (f_X11_isPlace v1) = 0 then
    (some 0)
  else
    (if hib v1 192 then
    some (M (o0 + 1) (Int32.toNatClampNeg v1))
    else none)
set_option maxRecDepth 20000 in
theorem w_X3_kindAt (d : Nat) (hd : 1 ≤ d) (o0 : Nat) (h0 : isLd o0) (v1 : Int32) (M : HMem) : GX iX3_kindAt d (eP M) (f_X3_kindAt o0 v1 M) 0 [some (.inr (some o0)), some (.inl v1)] [] M := by
  rw [f_X3_kindAt]
  refine gx_iload_n dX3_kindAt_0 rfl ?_
  refine gx_cS_it (av := [.inl v1]) (st := []) ml_X3_34 (by omega) (c_X11_isPlace (d - 1) (by omega) v1 M) rfl rfl (Nat.le_of_ble_eq_true rfl) dX3_kindAt_1 ?_
  refine gx_if_eq (tgt := 16) dX3_kindAt_4 (by decide) ?_ ?_
  · refine gx_iconst (x := 0) (by decide) dX3_kindAt_16 ?_
    exact gx_iret rfl rfl dX3_kindAt_17
  refine gx_aload_n dX3_kindAt_7 rfl ?_
  refine gx_getR fl_X3_9 (shL h0) rfl dX3_kindAt_8 ?_
  refine gx_iload_n dX3_kindAt_11 rfl ?_
  refine gx_iaload (shL1 h0) dX3_kindAt_12 ?_
  refine gx_goto (tgt := 17) dX3_kindAt_13 (by decide) ?_
  exact gx_iret rfl rfl dX3_kindAt_17
theorem c_X3_kindAt (d : Nat) (hd : 1 ≤ d) (o0 : Nat) (h0 : isLd o0) (v1 : Int32) (M : HMem) : MX iX3_kindAt d [.inr (some o0), .inl v1] M (eP M) (f_X3_kindAt o0 v1 M) := mx_of (by decide +kernel) (Nat.le_of_ble_eq_true rfl) rfl (w_X3_kindAt d hd o0 h0 v1 M)
-- X3_isWater
def f_X3_isWater (o0 : Nat) (v1 : Int32) (M : HMem) : Option Int32 :=
  hb1 (f_X3_kindAt o0 v1 M) (fun x101 =>
  if x101 = 1 then
    (some 1)
  else
    (some 0))
set_option maxRecDepth 20000 in
theorem w_X3_isWater (d : Nat) (hd : 2 ≤ d) (o0 : Nat) (h0 : isLd o0) (v1 : Int32) (M : HMem) : GX iX3_isWater d (eP M) (f_X3_isWater o0 v1 M) 0 [some (.inr (some o0)), some (.inl v1)] [] M := by
  rw [f_X3_isWater]
  refine gx_aload_n dX3_isWater_0 rfl ?_
  refine gx_iload_n dX3_isWater_1 rfl ?_
  refine gx_cV_ip (av := [.inl v1]) (st := []) ml_X3_38 (by omega) (shL h0) (c_X3_kindAt (d - 1) (by omega) o0 h0 v1 M) rfl rfl (Nat.le_of_ble_eq_true rfl) dX3_isWater_2 (fun x101 => ?_)
  refine gx_iconst (x := 1) (by decide) dX3_isWater_5 ?_
  refine gx_icmp_ne (tgt := 13) dX3_isWater_6 (by decide) ?_ ?_
  · refine gx_iconst (x := 0) (by decide) dX3_isWater_13 ?_
    exact gx_zret rfl (by decide) rfl dX3_isWater_14
  refine gx_iconst (x := 1) (by decide) dX3_isWater_9 ?_
  refine gx_goto (tgt := 14) dX3_isWater_10 (by decide) ?_
  exact gx_zret rfl (by decide) rfl dX3_isWater_14
theorem c_X3_isWater (d : Nat) (hd : 2 ≤ d) (o0 : Nat) (h0 : isLd o0) (v1 : Int32) (M : HMem) : MX iX3_isWater d [.inr (some o0), .inl v1] M (eP M) (f_X3_isWater o0 v1 M) := mx_of (by decide +kernel) (Nat.le_of_ble_eq_true rfl) rfl (w_X3_isWater d hd o0 h0 v1 M)
-- X0_smells
def f_X0_smells (v1 : Int32) (v2 : Int32) (v3 : Int32) (M : HMem) : Option Int32 :=
  if (f_X11_isPlace v1) = 0 then
    (some 0)
  else
    (hb1 (f_X3_isWater 5 v1 M) (fun x101 =>
    if x101 = 0 then
      (if (f_X0_strength v2 v3 M) ≤ 0 then
        (some 0)
      else
        (some 1))
    else
      (some 0)))
set_option maxRecDepth 20000 in
theorem w_X0_smells (d : Nat) (hd : 3 ≤ d) (v1 : Int32) (v2 : Int32) (v3 : Int32) (M : HMem) : GX iX0_smells d (eP M) (f_X0_smells v1 v2 v3 M) 0 [some (.inr (some 3)), some (.inl v1), some (.inl v2), some (.inl v3)] [] M := by
  rw [f_X0_smells]
  refine gx_iload_n dX0_smells_0 rfl ?_
  refine gx_cS_it (av := [.inl v1]) (st := []) ml_X0_44 (by omega) (c_X11_isPlace (d - 1) (by omega) v1 M) rfl rfl (Nat.le_of_ble_eq_true rfl) dX0_smells_1 ?_
  refine gx_if_eq (tgt := 31) dX0_smells_4 (by decide) ?_ ?_
  · refine gx_iconst (x := 0) (by decide) dX0_smells_31 ?_
    exact gx_zret rfl (by decide) rfl dX0_smells_32
  refine gx_aload_n dX0_smells_7 rfl ?_
  refine gx_getR fl_X0_20 sh3 rfl dX0_smells_8 ?_
  refine gx_iload_n dX0_smells_11 rfl ?_
  refine gx_cV_ip (av := [.inl v1]) (st := []) ml_X0_52 (by omega) sh5 (c_X3_isWater (d - 1) (by omega) 5 (Or.inl rfl) v1 M) rfl rfl (Nat.le_of_ble_eq_true rfl) dX0_smells_12 (fun x101 => ?_)
  refine gx_if_ne (tgt := 31) dX0_smells_15 (by decide) ?_ ?_
  · refine gx_iconst (x := 0) (by decide) dX0_smells_31 ?_
    exact gx_zret rfl (by decide) rfl dX0_smells_32
  refine gx_aload_n dX0_smells_18 rfl ?_
  refine gx_iload_n dX0_smells_19 rfl ?_
  refine gx_iload_n dX0_smells_20 rfl ?_
  refine gx_cV_it (av := [.inl v2, .inl v3]) (st := []) ml_X0_55 (by omega) sh3 (c_X0_strength (d - 1) (by omega) v2 v3 M) rfl rfl (Nat.le_of_ble_eq_true rfl) dX0_smells_21 ?_
  refine gx_if_le (tgt := 31) dX0_smells_24 (by decide) ?_ ?_
  · refine gx_iconst (x := 0) (by decide) dX0_smells_31 ?_
    exact gx_zret rfl (by decide) rfl dX0_smells_32
  refine gx_iconst (x := 1) (by decide) dX0_smells_27 ?_
  refine gx_goto (tgt := 32) dX0_smells_28 (by decide) ?_
  exact gx_zret rfl (by decide) rfl dX0_smells_32
theorem c_X0_smells (d : Nat) (hd : 3 ≤ d) (v1 : Int32) (v2 : Int32) (v3 : Int32) (M : HMem) : MX iX0_smells d [.inr (some 3), .inl v1, .inl v2, .inl v3] M (eP M) (f_X0_smells v1 v2 v3 M) := mx_of (by decide +kernel) (Nat.le_of_ble_eq_true rfl) rfl (w_X0_smells d hd v1 v2 v3 M)
-- X1_last
def f_X1_last (o0 : Nat) (M : HMem) : Int32 :=
  ((M o0 3) + (M o0 4))
set_option maxRecDepth 20000 in
theorem w_X1_last (d : Nat) (hd : 0 ≤ d) (o0 : Nat) (h0 : isCo o0) (M : HMem) : GX iX1_last d (eP M) (some (f_X1_last o0 M)) 0 [some (.inr (some o0))] [] M := by
  rw [f_X1_last]
  refine gx_aload_n dX1_last_0 rfl ?_
  refine gx_getI fl_X1_22 (shC h0) rfl dX1_last_1 ?_
  refine gx_aload_n dX1_last_4 rfl ?_
  refine gx_getI fl_X1_26 (shC h0) rfl dX1_last_5 ?_
  refine gx_iadd dX1_last_8 ?_
  exact gx_iret rfl rfl dX1_last_9
theorem c_X1_last (d : Nat) (hd : 0 ≤ d) (o0 : Nat) (h0 : isCo o0) (M : HMem) : MX iX1_last d [.inr (some o0)] M (eP M) (some (f_X1_last o0 M)) := mx_of (by decide +kernel) (Nat.le_of_ble_eq_true rfl) rfl (w_X1_last d hd o0 h0 M)
-- X0_latestOf
def f_X0_latestOf_L26 (n : Nat) (v2 : Int32) (v3 : Int32) (o4 : Nat) (M : HMem) : Nat → Int32 → Option Int32
  | 0, _ => none
  | k + 1, v5 =>
    if v5 < (M o4 3) then
      (some (-2))
    else
      (hb1 (f_X1_placeAt o4 v5 M) (fun x101 =>
      if x101 = v2 then
        (hb1 (f_X0_smells v2 v5 v3 M) (fun x102 =>
        if x102 = 0 then
          (f_X0_latestOf_L26 n v2 v3 o4 M k (v5 + (-1)))
        else
          (some v5)))
      else
        (f_X0_latestOf_L26 n v2 v3 o4 M k (v5 + (-1)))))
set_option maxRecDepth 20000 in
theorem w_X0_latestOf_L26 (d : Nat) (hd : 4 ≤ d) (n : Nat) (M : HMem) (v2 : Int32) (v3 : Int32) (o4 : Nat) (h4 : isCo o4) : ∀ (k : Nat) (v5 : Int32), GX iX0_latestOf d (eP M) (f_X0_latestOf_L26 n v2 v3 o4 M k v5) 26 [some (.inr (some 3)), none, some (.inl v2), some (.inl v3), some (.inr (some o4)), some (.inl v5)] [] M := by
  intro k
  induction k with
  | zero => intro v5; exact gx_none
  | succ k ih =>
    intro v5
    rw [f_X0_latestOf_L26]
    refine gx_iload dX0_latestOf_26 rfl ?_
    refine gx_aload dX0_latestOf_28 rfl ?_
    refine gx_getI fl_X0_68 (shC h4) rfl dX0_latestOf_30 ?_
    refine gx_icmp_lt (tgt := 67) dX0_latestOf_33 (by decide) ?_ ?_
    · refine gx_bipush (x := (-2)) (by decide) dX0_latestOf_67 ?_
      exact gx_iret rfl rfl dX0_latestOf_69
    refine gx_aload dX0_latestOf_36 rfl ?_
    refine gx_iload dX0_latestOf_38 rfl ?_
    refine gx_cV_ip (av := [.inl v5]) (st := []) ml_X0_48 (by omega) (shC h4) (c_X1_placeAt (d - 1) (by omega) o4 h4 v5 M) rfl rfl (Nat.le_of_ble_eq_true rfl) dX0_latestOf_40 (fun x101 => ?_)
    refine gx_iload_n dX0_latestOf_43 rfl ?_
    refine gx_icmp_ne (tgt := 61) dX0_latestOf_44 (by decide) ?_ ?_
    · refine gx_iinc (y := v5 + (-1)) (lv' := [some (.inr (some 3)), none, some (.inl v2), some (.inl v3), some (.inr (some o4)), some (.inl (v5 + (-1)))]) dX0_latestOf_61 rfl rfl (by decide) rfl ?_
      refine gx_goto (tgt := 26) dX0_latestOf_64 (by decide) ?_
      refine gx_mk (lv' := [some (.inr (some 3)), none, some (.inl v2), some (.inl v3), some (.inr (some o4)), some (.inl (v5 + (-1)))]) [true, false, true, true, true, true] rfl ?_
      exact ih (v5 + (-1))
    refine gx_aload_n dX0_latestOf_47 rfl ?_
    refine gx_iload_n dX0_latestOf_48 rfl ?_
    refine gx_iload dX0_latestOf_49 rfl ?_
    refine gx_iload_n dX0_latestOf_51 rfl ?_
    refine gx_cV_ip (av := [.inl v2, .inl v5, .inl v3]) (st := []) ml_X0_71 (by omega) sh3 (c_X0_smells (d - 1) (by omega) v2 v5 v3 M) rfl rfl (Nat.le_of_ble_eq_true rfl) dX0_latestOf_52 (fun x102 => ?_)
    refine gx_if_eq (tgt := 61) dX0_latestOf_55 (by decide) ?_ ?_
    · refine gx_iinc (y := v5 + (-1)) (lv' := [some (.inr (some 3)), none, some (.inl v2), some (.inl v3), some (.inr (some o4)), some (.inl (v5 + (-1)))]) dX0_latestOf_61 rfl rfl (by decide) rfl ?_
      refine gx_goto (tgt := 26) dX0_latestOf_64 (by decide) ?_
      refine gx_mk (lv' := [some (.inr (some 3)), none, some (.inl v2), some (.inl v3), some (.inr (some o4)), some (.inl (v5 + (-1)))]) [true, false, true, true, true, true] rfl ?_
      exact ih (v5 + (-1))
    refine gx_iload dX0_latestOf_58 rfl ?_
    exact gx_iret rfl rfl dX0_latestOf_60
def f_X0_latestOf (n : Nat) (v1 : Int32) (v2 : Int32) (v3 : Int32) (M : HMem) : Option Int32 :=
  hb1 (f_X0_laid v1 M) (fun r101 => match r101 with
    | none => (some (-2))
    | some o102 => (f_X0_latestOf_L26 n v2 v3 o102 M n (hmin (f_X1_last o102 M) v3)))
set_option maxRecDepth 20000 in
theorem w_X0_latestOf (d : Nat) (hd : 4 ≤ d) (n : Nat) (v1 : Int32) (v2 : Int32) (v3 : Int32) (M : HMem) : GX iX0_latestOf d (eP M) (f_X0_latestOf n v1 v2 v3 M) 0 [some (.inr (some 3)), some (.inl v1), some (.inl v2), some (.inl v3), none, none] [] M := by
  rw [f_X0_latestOf]
  refine gx_aload_n dX0_latestOf_0 rfl ?_
  refine gx_iload_n dX0_latestOf_1 rfl ?_
  refine gx_cV_rp (av := [.inl v1]) (st := []) ml_X0_41 (by omega) sh3 (c_X0_laid (d - 1) (by omega) v1 M) rfl rfl (Nat.le_of_ble_eq_true rfl) dX0_latestOf_2 (fun r101 er101 => ?_)
  cases r101 with
  | none =>
    dsimp only
    refine gx_astoreN (lv' := [some (.inr (some 3)), some (.inl v1), some (.inl v2), some (.inl v3), some (.inr none), none]) dX0_latestOf_5 (by decide) rfl ?_
    refine gx_aloadN dX0_latestOf_7 rfl ?_
    refine gx_ifnonnullN dX0_latestOf_9 ?_
    refine gx_bipush (x := (-2)) (by decide) dX0_latestOf_12 ?_
    exact gx_iret rfl rfl dX0_latestOf_14
  | some o102 =>
    have ho102 := co_X0_laid er101
    dsimp only
    refine gx_astore (lv' := [some (.inr (some 3)), some (.inl v1), some (.inl v2), some (.inl v3), some (.inr (some o102)), none]) dX0_latestOf_5 (by decide) rfl ?_
    refine gx_aload dX0_latestOf_7 rfl ?_
    refine gx_ifnonnullS (tgt := 15) dX0_latestOf_9 (by decide) ?_
    refine gx_aload dX0_latestOf_15 rfl ?_
    refine gx_cV_it (av := []) (st := []) ml_X0_59 (by omega) (shC ho102) (c_X1_last (d - 1) (by omega) o102 ho102 M) rfl rfl (Nat.le_of_ble_eq_true rfl) dX0_latestOf_17 ?_
    refine gx_iload_n dX0_latestOf_20 rfl ?_
    refine gx_min mw948 mw717 mw189 mcode_min (by omega) (Nat.le_of_ble_eq_true rfl) dX0_latestOf_21 ?_
    refine gx_istore (lv' := [some (.inr (some 3)), some (.inl v1), some (.inl v2), some (.inl v3), some (.inr (some o102)), some (.inl (hmin (f_X1_last o102 M) v3))]) dX0_latestOf_24 (by decide) rfl ?_
    refine gx_mk (lv' := [some (.inr (some 3)), none, some (.inl v2), some (.inl v3), some (.inr (some o102)), some (.inl (hmin (f_X1_last o102 M) v3))]) [true, false, true, true, true, true] rfl ?_
    exact w_X0_latestOf_L26 d hd n M v2 v3 o102 ho102 n (hmin (f_X1_last o102 M) v3)
theorem c_X0_latestOf (d : Nat) (hd : 4 ≤ d) (n : Nat) (v1 : Int32) (v2 : Int32) (v3 : Int32) (M : HMem) : MX iX0_latestOf d [.inr (some 3), .inl v1, .inl v2, .inl v3] M (eP M) (f_X0_latestOf n v1 v2 v3 M) := mx_of (by decide +kernel) (Nat.le_of_ble_eq_true rfl) rfl (w_X0_latestOf d hd n v1 v2 v3 M)
-- X0_latestScent
def f_X0_latestScent_L6 (n : Nat) (v1 : Int32) (v2 : Int32) (M : HMem) : Nat → Int32 → Int32 → Option Int32
  | 0, _, _ => none
  | k + 1, v3, v4 =>
    if 8 ≤ v4 then
      (some v3)
    else
      (hb1 (f_X0_latestOf n v4 v1 v2 M) (fun x101 =>
      f_X0_latestScent_L6 n v1 v2 M k (hmax v3 x101) (v4 + 1)))
set_option maxRecDepth 20000 in
theorem w_X0_latestScent_L6 (d : Nat) (hd : 5 ≤ d) (n : Nat) (M : HMem) (v1 : Int32) (v2 : Int32) : ∀ (k : Nat) (v3 : Int32) (v4 : Int32), GX iX0_latestScent d (eP M) (f_X0_latestScent_L6 n v1 v2 M k v3 v4) 6 [some (.inr (some 3)), some (.inl v1), some (.inl v2), some (.inl v3), some (.inl v4)] [] M := by
  intro k
  induction k with
  | zero => intro v3 v4; exact gx_none
  | succ k ih =>
    intro v3 v4
    rw [f_X0_latestScent_L6]
    refine gx_iload dX0_latestScent_6 rfl ?_
    refine gx_bipush (x := 8) (by decide) dX0_latestScent_8 ?_
    refine gx_icmp_ge (tgt := 32) dX0_latestScent_10 (by decide) ?_ ?_
    · refine gx_iload_n dX0_latestScent_32 rfl ?_
      exact gx_iret rfl rfl dX0_latestScent_33
    refine gx_iload_n dX0_latestScent_13 rfl ?_
    refine gx_aload_n dX0_latestScent_14 rfl ?_
    refine gx_iload dX0_latestScent_15 rfl ?_
    refine gx_iload_n dX0_latestScent_17 rfl ?_
    refine gx_iload_n dX0_latestScent_18 rfl ?_
    refine gx_cV_ip (av := [.inl v4, .inl v1, .inl v2]) (st := [.inl v3]) ml_X0_75 (by omega) sh3 (c_X0_latestOf (d - 1) (by omega) n v4 v1 v2 M) rfl rfl (Nat.le_of_ble_eq_true rfl) dX0_latestScent_19 (fun x101 => ?_)
    refine gx_max mw957 mw832 mw189 mcode_max (by omega) (Nat.le_of_ble_eq_true rfl) dX0_latestScent_22 ?_
    refine gx_istore_n (lv' := [some (.inr (some 3)), some (.inl v1), some (.inl v2), some (.inl (hmax v3 x101)), some (.inl v4)]) dX0_latestScent_25 (by decide) rfl ?_
    refine gx_iinc (y := v4 + 1) (lv' := [some (.inr (some 3)), some (.inl v1), some (.inl v2), some (.inl (hmax v3 x101)), some (.inl (v4 + 1))]) dX0_latestScent_26 rfl rfl (by decide) rfl ?_
    refine gx_goto (tgt := 6) dX0_latestScent_29 (by decide) ?_
    refine gx_mk (lv' := [some (.inr (some 3)), some (.inl v1), some (.inl v2), some (.inl (hmax v3 x101)), some (.inl (v4 + 1))]) [true, true, true, true, true] rfl ?_
    exact ih (hmax v3 x101) (v4 + 1)
def f_X0_latestScent (n : Nat) (v1 : Int32) (v2 : Int32) (M : HMem) : Option Int32 :=
  f_X0_latestScent_L6 n v1 v2 M n (-2) 0
set_option maxRecDepth 20000 in
theorem w_X0_latestScent (d : Nat) (hd : 5 ≤ d) (n : Nat) (v1 : Int32) (v2 : Int32) (M : HMem) : GX iX0_latestScent d (eP M) (f_X0_latestScent n v1 v2 M) 0 [some (.inr (some 3)), some (.inl v1), some (.inl v2), none, none] [] M := by
  rw [f_X0_latestScent]
  refine gx_bipush (x := (-2)) (by decide) dX0_latestScent_0 ?_
  refine gx_istore_n (lv' := [some (.inr (some 3)), some (.inl v1), some (.inl v2), some (.inl (-2)), none]) dX0_latestScent_2 (by decide) rfl ?_
  refine gx_iconst (x := 0) (by decide) dX0_latestScent_3 ?_
  refine gx_istore (lv' := [some (.inr (some 3)), some (.inl v1), some (.inl v2), some (.inl (-2)), some (.inl 0)]) dX0_latestScent_4 (by decide) rfl ?_
  refine gx_mk (lv' := [some (.inr (some 3)), some (.inl v1), some (.inl v2), some (.inl (-2)), some (.inl 0)]) [true, true, true, true, true] rfl ?_
  exact w_X0_latestScent_L6 d hd n M v1 v2 n (-2) 0
theorem c_X0_latestScent (d : Nat) (hd : 5 ≤ d) (n : Nat) (v1 : Int32) (v2 : Int32) (M : HMem) : MX iX0_latestScent d [.inr (some 3), .inl v1, .inl v2] M (eP M) (f_X0_latestScent n v1 v2 M) := mx_of (by decide +kernel) (Nat.le_of_ble_eq_true rfl) rfl (w_X0_latestScent d hd n v1 v2 M)
-- X0_latestCreature
def f_X0_latestCreature_L10 (n : Nat) (v1 : Int32) (v2 : Int32) (v3 : Int32) (M : HMem) : Nat → Int32 → Option Int32
  | 0, _ => none
  | k + 1, v4 =>
    if 8 ≤ v4 then
      (some (-2))
    else
      (if v3 = (-2) then
        (some (-2))
      else
        (hb1 (f_X0_latestOf n v4 v1 v2 M) (fun x101 =>
        if x101 = v3 then
          (some v4)
        else
          (f_X0_latestCreature_L10 n v1 v2 v3 M k (v4 + 1)))))
set_option maxRecDepth 20000 in
theorem w_X0_latestCreature_L10 (d : Nat) (hd : 6 ≤ d) (n : Nat) (M : HMem) (v1 : Int32) (v2 : Int32) (v3 : Int32) : ∀ (k : Nat) (v4 : Int32), GX iX0_latestCreature d (eP M) (f_X0_latestCreature_L10 n v1 v2 v3 M k v4) 10 [some (.inr (some 3)), some (.inl v1), some (.inl v2), some (.inl v3), some (.inl v4)] [] M := by
  intro k
  induction k with
  | zero => intro v4; exact gx_none
  | succ k ih =>
    intro v4
    rw [f_X0_latestCreature_L10]
    refine gx_iload dX0_latestCreature_10 rfl ?_
    refine gx_bipush (x := 8) (by decide) dX0_latestCreature_12 ?_
    refine gx_icmp_ge (tgt := 44) dX0_latestCreature_14 (by decide) ?_ ?_
    · refine gx_bipush (x := (-2)) (by decide) dX0_latestCreature_44 ?_
      exact gx_iret rfl rfl dX0_latestCreature_46
    refine gx_iload_n dX0_latestCreature_17 rfl ?_
    refine gx_bipush (x := (-2)) (by decide) dX0_latestCreature_18 ?_
    refine gx_icmp_eq (tgt := 44) dX0_latestCreature_20 (by decide) ?_ ?_
    · refine gx_bipush (x := (-2)) (by decide) dX0_latestCreature_44 ?_
      exact gx_iret rfl rfl dX0_latestCreature_46
    refine gx_aload_n dX0_latestCreature_23 rfl ?_
    refine gx_iload dX0_latestCreature_24 rfl ?_
    refine gx_iload_n dX0_latestCreature_26 rfl ?_
    refine gx_iload_n dX0_latestCreature_27 rfl ?_
    refine gx_cV_ip (av := [.inl v4, .inl v1, .inl v2]) (st := []) ml_X0_75 (by omega) sh3 (c_X0_latestOf (d - 1) (by omega) n v4 v1 v2 M) rfl rfl (Nat.le_of_ble_eq_true rfl) dX0_latestCreature_28 (fun x101 => ?_)
    refine gx_iload_n dX0_latestCreature_31 rfl ?_
    refine gx_icmp_ne (tgt := 38) dX0_latestCreature_32 (by decide) ?_ ?_
    · refine gx_iinc (y := v4 + 1) (lv' := [some (.inr (some 3)), some (.inl v1), some (.inl v2), some (.inl v3), some (.inl (v4 + 1))]) dX0_latestCreature_38 rfl rfl (by decide) rfl ?_
      refine gx_goto (tgt := 10) dX0_latestCreature_41 (by decide) ?_
      refine gx_mk (lv' := [some (.inr (some 3)), some (.inl v1), some (.inl v2), some (.inl v3), some (.inl (v4 + 1))]) [true, true, true, true, true] rfl ?_
      exact ih (v4 + 1)
    refine gx_iload dX0_latestCreature_35 rfl ?_
    exact gx_iret rfl rfl dX0_latestCreature_37
def f_X0_latestCreature (n : Nat) (v1 : Int32) (v2 : Int32) (M : HMem) : Option Int32 :=
  hb1 (f_X0_latestScent n v1 v2 M) (fun x101 =>
  f_X0_latestCreature_L10 n v1 v2 x101 M n 0)
set_option maxRecDepth 20000 in
theorem w_X0_latestCreature (d : Nat) (hd : 6 ≤ d) (n : Nat) (v1 : Int32) (v2 : Int32) (M : HMem) : GX iX0_latestCreature d (eP M) (f_X0_latestCreature n v1 v2 M) 0 [some (.inr (some 3)), some (.inl v1), some (.inl v2), none, none] [] M := by
  rw [f_X0_latestCreature]
  refine gx_aload_n dX0_latestCreature_0 rfl ?_
  refine gx_iload_n dX0_latestCreature_1 rfl ?_
  refine gx_iload_n dX0_latestCreature_2 rfl ?_
  refine gx_cV_ip (av := [.inl v1, .inl v2]) (st := []) ml_X0_82 (by omega) sh3 (c_X0_latestScent (d - 1) (by omega) n v1 v2 M) rfl rfl (Nat.le_of_ble_eq_true rfl) dX0_latestCreature_3 (fun x101 => ?_)
  refine gx_istore_n (lv' := [some (.inr (some 3)), some (.inl v1), some (.inl v2), some (.inl x101), none]) dX0_latestCreature_6 (by decide) rfl ?_
  refine gx_iconst (x := 0) (by decide) dX0_latestCreature_7 ?_
  refine gx_istore (lv' := [some (.inr (some 3)), some (.inl v1), some (.inl v2), some (.inl x101), some (.inl 0)]) dX0_latestCreature_8 (by decide) rfl ?_
  refine gx_mk (lv' := [some (.inr (some 3)), some (.inl v1), some (.inl v2), some (.inl x101), some (.inl 0)]) [true, true, true, true, true] rfl ?_
  exact w_X0_latestCreature_L10 d hd n M v1 v2 x101 n 0
theorem c_X0_latestCreature (d : Nat) (hd : 6 ≤ d) (n : Nat) (v1 : Int32) (v2 : Int32) (M : HMem) : MX iX0_latestCreature d [.inr (some 3), .inl v1, .inl v2] M (eP M) (f_X0_latestCreature n v1 v2 M) := mx_of (by decide +kernel) (Nat.le_of_ble_eq_true rfl) rfl (w_X0_latestCreature d hd n v1 v2 M)
-- X0_scentsAt
def f_X0_scentsAt_L35 (n : Nat) (r5 : Int32 → Int32 → Option Int32) (v1 : Int32) (v2 : Int32) (v4 : Int32) (o5 : Nat) (M : HMem) : Nat → Int32 → Int32 → Option Int32
  | 0, _, _ => none
  | k + 1, v3, v6 =>
    if (f_X1_last o5 M) < v6 then
      (r5 v3 (v4 + 1))
    else
      (hb1 (f_X1_placeAt o5 v6 M) (fun x101 =>
      if x101 = v1 then
        (hb1 (f_X0_smells v1 v6 v2 M) (fun x102 =>
        if x102 = 0 then
          (f_X0_scentsAt_L35 n r5 v1 v2 v4 o5 M k v3 (v6 + 1))
        else
          (f_X0_scentsAt_L35 n r5 v1 v2 v4 o5 M k (v3 + 1) (v6 + 1))))
      else
        (f_X0_scentsAt_L35 n r5 v1 v2 v4 o5 M k v3 (v6 + 1))))
set_option maxRecDepth 20000 in
theorem w_X0_scentsAt_L35 (d : Nat) (hd : 4 ≤ d) (n : Nat) (r5 : Int32 → Int32 → Option Int32) (M : HMem) (v1 : Int32) (v2 : Int32) (v4 : Int32) (o5 : Nat) (h5 : isCo o5) (hr5 : ∀ (v3 : Int32) (v4 : Int32), GX iX0_scentsAt d (eP M) (r5 v3 v4) 5 [some (.inr (some 3)), some (.inl v1), some (.inl v2), some (.inl v3), some (.inl v4), none, none] [] M) : ∀ (k : Nat) (v3 : Int32) (v6 : Int32), GX iX0_scentsAt d (eP M) (f_X0_scentsAt_L35 n r5 v1 v2 v4 o5 M k v3 v6) 35 [some (.inr (some 3)), some (.inl v1), some (.inl v2), some (.inl v3), some (.inl v4), some (.inr (some o5)), some (.inl v6)] [] M := by
  intro k
  induction k with
  | zero => intro v3 v6; exact gx_none
  | succ k ih =>
    intro v3 v6
    rw [f_X0_scentsAt_L35]
    refine gx_iload dX0_scentsAt_35 rfl ?_
    refine gx_aload dX0_scentsAt_37 rfl ?_
    refine gx_cV_it (av := []) (st := [.inl v6]) ml_X0_59 (by omega) (shC h5) (c_X1_last (d - 1) (by omega) o5 h5 M) rfl rfl (Nat.le_of_ble_eq_true rfl) dX0_scentsAt_39 ?_
    refine gx_icmp_gt (tgt := 76) dX0_scentsAt_42 (by decide) ?_ ?_
    · refine gx_iinc (y := v4 + 1) (lv' := [some (.inr (some 3)), some (.inl v1), some (.inl v2), some (.inl v3), some (.inl (v4 + 1)), some (.inr (some o5)), some (.inl v6)]) dX0_scentsAt_76 rfl rfl (by decide) rfl ?_
      refine gx_goto (tgt := 5) dX0_scentsAt_79 (by decide) ?_
      refine gx_mk (lv' := [some (.inr (some 3)), some (.inl v1), some (.inl v2), some (.inl v3), some (.inl (v4 + 1)), none, none]) [true, true, true, true, true, false, false] rfl ?_
      exact hr5 v3 (v4 + 1)
    refine gx_aload dX0_scentsAt_45 rfl ?_
    refine gx_iload dX0_scentsAt_47 rfl ?_
    refine gx_cV_ip (av := [.inl v6]) (st := []) ml_X0_48 (by omega) (shC h5) (c_X1_placeAt (d - 1) (by omega) o5 h5 v6 M) rfl rfl (Nat.le_of_ble_eq_true rfl) dX0_scentsAt_49 (fun x101 => ?_)
    refine gx_iload_n dX0_scentsAt_52 rfl ?_
    refine gx_icmp_ne (tgt := 70) dX0_scentsAt_53 (by decide) ?_ ?_
    · refine gx_iinc (y := v6 + 1) (lv' := [some (.inr (some 3)), some (.inl v1), some (.inl v2), some (.inl v3), some (.inl v4), some (.inr (some o5)), some (.inl (v6 + 1))]) dX0_scentsAt_70 rfl rfl (by decide) rfl ?_
      refine gx_goto (tgt := 35) dX0_scentsAt_73 (by decide) ?_
      refine gx_mk (lv' := [some (.inr (some 3)), some (.inl v1), some (.inl v2), some (.inl v3), some (.inl v4), some (.inr (some o5)), some (.inl (v6 + 1))]) [true, true, true, true, true, true, true] rfl ?_
      exact ih v3 (v6 + 1)
    refine gx_aload_n dX0_scentsAt_56 rfl ?_
    refine gx_iload_n dX0_scentsAt_57 rfl ?_
    refine gx_iload dX0_scentsAt_58 rfl ?_
    refine gx_iload_n dX0_scentsAt_60 rfl ?_
    refine gx_cV_ip (av := [.inl v1, .inl v6, .inl v2]) (st := []) ml_X0_71 (by omega) sh3 (c_X0_smells (d - 1) (by omega) v1 v6 v2 M) rfl rfl (Nat.le_of_ble_eq_true rfl) dX0_scentsAt_61 (fun x102 => ?_)
    refine gx_if_eq (tgt := 70) dX0_scentsAt_64 (by decide) ?_ ?_
    · refine gx_iinc (y := v6 + 1) (lv' := [some (.inr (some 3)), some (.inl v1), some (.inl v2), some (.inl v3), some (.inl v4), some (.inr (some o5)), some (.inl (v6 + 1))]) dX0_scentsAt_70 rfl rfl (by decide) rfl ?_
      refine gx_goto (tgt := 35) dX0_scentsAt_73 (by decide) ?_
      refine gx_mk (lv' := [some (.inr (some 3)), some (.inl v1), some (.inl v2), some (.inl v3), some (.inl v4), some (.inr (some o5)), some (.inl (v6 + 1))]) [true, true, true, true, true, true, true] rfl ?_
      exact ih v3 (v6 + 1)
    refine gx_iinc (y := v3 + 1) (lv' := [some (.inr (some 3)), some (.inl v1), some (.inl v2), some (.inl (v3 + 1)), some (.inl v4), some (.inr (some o5)), some (.inl v6)]) dX0_scentsAt_67 rfl rfl (by decide) rfl ?_
    refine gx_iinc (y := v6 + 1) (lv' := [some (.inr (some 3)), some (.inl v1), some (.inl v2), some (.inl (v3 + 1)), some (.inl v4), some (.inr (some o5)), some (.inl (v6 + 1))]) dX0_scentsAt_70 rfl rfl (by decide) rfl ?_
    refine gx_goto (tgt := 35) dX0_scentsAt_73 (by decide) ?_
    refine gx_mk (lv' := [some (.inr (some 3)), some (.inl v1), some (.inl v2), some (.inl (v3 + 1)), some (.inl v4), some (.inr (some o5)), some (.inl (v6 + 1))]) [true, true, true, true, true, true, true] rfl ?_
    exact ih (v3 + 1) (v6 + 1)
def f_X0_scentsAt_L5 (n : Nat) (v1 : Int32) (v2 : Int32) (M : HMem) : Nat → Int32 → Int32 → Option Int32
  | 0, _, _ => none
  | k + 1, v3, v4 =>
    if 8 ≤ v4 then
      (some v3)
    else
      (hb1 (f_X0_laid v4 M) (fun r101 => match r101 with
        | none => (f_X0_scentsAt_L5 n v1 v2 M k v3 (v4 + 1))
        | some o102 => (f_X0_scentsAt_L35 n (f_X0_scentsAt_L5 n v1 v2 M k) v1 v2 v4 o102 M n v3 (M o102 3))))
set_option maxRecDepth 20000 in
theorem w_X0_scentsAt_L5 (d : Nat) (hd : 4 ≤ d) (n : Nat) (M : HMem) (v1 : Int32) (v2 : Int32) : ∀ (k : Nat) (v3 : Int32) (v4 : Int32), GX iX0_scentsAt d (eP M) (f_X0_scentsAt_L5 n v1 v2 M k v3 v4) 5 [some (.inr (some 3)), some (.inl v1), some (.inl v2), some (.inl v3), some (.inl v4), none, none] [] M := by
  intro k
  induction k with
  | zero => intro v3 v4; exact gx_none
  | succ k ih =>
    intro v3 v4
    rw [f_X0_scentsAt_L5]
    refine gx_iload dX0_scentsAt_5 rfl ?_
    refine gx_bipush (x := 8) (by decide) dX0_scentsAt_7 ?_
    refine gx_icmp_ge (tgt := 82) dX0_scentsAt_9 (by decide) ?_ ?_
    · refine gx_iload_n dX0_scentsAt_82 rfl ?_
      exact gx_iret rfl rfl dX0_scentsAt_83
    refine gx_aload_n dX0_scentsAt_12 rfl ?_
    refine gx_iload dX0_scentsAt_13 rfl ?_
    refine gx_cV_rp (av := [.inl v4]) (st := []) ml_X0_41 (by omega) sh3 (c_X0_laid (d - 1) (by omega) v4 M) rfl rfl (Nat.le_of_ble_eq_true rfl) dX0_scentsAt_15 (fun r101 er101 => ?_)
    cases r101 with
    | none =>
      dsimp only
      refine gx_astoreN (lv' := [some (.inr (some 3)), some (.inl v1), some (.inl v2), some (.inl v3), some (.inl v4), some (.inr none), none]) dX0_scentsAt_18 (by decide) rfl ?_
      refine gx_aloadN dX0_scentsAt_20 rfl ?_
      refine gx_ifnonnullN dX0_scentsAt_22 ?_
      refine gx_goto (tgt := 76) dX0_scentsAt_25 (by decide) ?_
      refine gx_iinc (y := v4 + 1) (lv' := [some (.inr (some 3)), some (.inl v1), some (.inl v2), some (.inl v3), some (.inl (v4 + 1)), some (.inr none), none]) dX0_scentsAt_76 rfl rfl (by decide) rfl ?_
      refine gx_goto (tgt := 5) dX0_scentsAt_79 (by decide) ?_
      refine gx_mk (lv' := [some (.inr (some 3)), some (.inl v1), some (.inl v2), some (.inl v3), some (.inl (v4 + 1)), none, none]) [true, true, true, true, true, false, false] rfl ?_
      exact ih v3 (v4 + 1)
    | some o102 =>
      have ho102 := co_X0_laid er101
      dsimp only
      refine gx_astore (lv' := [some (.inr (some 3)), some (.inl v1), some (.inl v2), some (.inl v3), some (.inl v4), some (.inr (some o102)), none]) dX0_scentsAt_18 (by decide) rfl ?_
      refine gx_aload dX0_scentsAt_20 rfl ?_
      refine gx_ifnonnullS (tgt := 28) dX0_scentsAt_22 (by decide) ?_
      refine gx_aload dX0_scentsAt_28 rfl ?_
      refine gx_getI fl_X0_68 (shC ho102) rfl dX0_scentsAt_30 ?_
      refine gx_istore (lv' := [some (.inr (some 3)), some (.inl v1), some (.inl v2), some (.inl v3), some (.inl v4), some (.inr (some o102)), some (.inl (M o102 3))]) dX0_scentsAt_33 (by decide) rfl ?_
      refine gx_mk (lv' := [some (.inr (some 3)), some (.inl v1), some (.inl v2), some (.inl v3), some (.inl v4), some (.inr (some o102)), some (.inl (M o102 3))]) [true, true, true, true, true, true, true] rfl ?_
      exact w_X0_scentsAt_L35 d hd n (f_X0_scentsAt_L5 n v1 v2 M k) M v1 v2 v4 o102 ho102 ih n v3 (M o102 3)
def f_X0_scentsAt (n : Nat) (v1 : Int32) (v2 : Int32) (M : HMem) : Option Int32 :=
  f_X0_scentsAt_L5 n v1 v2 M n 0 0
set_option maxRecDepth 20000 in
theorem w_X0_scentsAt (d : Nat) (hd : 4 ≤ d) (n : Nat) (v1 : Int32) (v2 : Int32) (M : HMem) : GX iX0_scentsAt d (eP M) (f_X0_scentsAt n v1 v2 M) 0 [some (.inr (some 3)), some (.inl v1), some (.inl v2), none, none, none, none] [] M := by
  rw [f_X0_scentsAt]
  refine gx_iconst (x := 0) (by decide) dX0_scentsAt_0 ?_
  refine gx_istore_n (lv' := [some (.inr (some 3)), some (.inl v1), some (.inl v2), some (.inl 0), none, none, none]) dX0_scentsAt_1 (by decide) rfl ?_
  refine gx_iconst (x := 0) (by decide) dX0_scentsAt_2 ?_
  refine gx_istore (lv' := [some (.inr (some 3)), some (.inl v1), some (.inl v2), some (.inl 0), some (.inl 0), none, none]) dX0_scentsAt_3 (by decide) rfl ?_
  refine gx_mk (lv' := [some (.inr (some 3)), some (.inl v1), some (.inl v2), some (.inl 0), some (.inl 0), none, none]) [true, true, true, true, true, false, false] rfl ?_
  exact w_X0_scentsAt_L5 d hd n M v1 v2 n 0 0
theorem c_X0_scentsAt (d : Nat) (hd : 4 ≤ d) (n : Nat) (v1 : Int32) (v2 : Int32) (M : HMem) : MX iX0_scentsAt d [.inr (some 3), .inl v1, .inl v2] M (eP M) (f_X0_scentsAt n v1 v2 M) := mx_of (by decide +kernel) (Nat.le_of_ble_eq_true rfl) rfl (w_X0_scentsAt d hd n v1 v2 M)
-- X11_across
def f_X11_across (v0 : Int32) (v1 : Int32) : Int32 :=
  (habs ((v0 &&& 15) - (v1 &&& 15)))
set_option maxRecDepth 20000 in
theorem w_X11_across (d : Nat) (hd : 1 ≤ d) (v0 : Int32) (v1 : Int32) (M : HMem) : GX iX11_across d (eP M) (some (f_X11_across v0 v1)) 0 [some (.inl v0), some (.inl v1)] [] M := by
  rw [f_X11_across]
  refine gx_iload_n dX11_across_0 rfl ?_
  refine gx_bipush (x := 15) (by decide) dX11_across_1 ?_
  refine gx_iand dX11_across_3 ?_
  refine gx_iload_n dX11_across_4 rfl ?_
  refine gx_bipush (x := 15) (by decide) dX11_across_5 ?_
  refine gx_iand dX11_across_7 ?_
  refine gx_isub dX11_across_8 ?_
  refine gx_abs mw1007 mw1008 mw189 mcode_abs (by omega) (Nat.le_of_ble_eq_true rfl) dX11_across_9 ?_
  exact gx_iret rfl rfl dX11_across_12
theorem c_X11_across (d : Nat) (hd : 1 ≤ d) (v0 : Int32) (v1 : Int32) (M : HMem) : MX iX11_across d [.inl v0, .inl v1] M (eP M) (some (f_X11_across v0 v1)) := mx_of (by decide +kernel) (Nat.le_of_ble_eq_true rfl) rfl (w_X11_across d hd v0 v1 M)
-- X11_along
def f_X11_along (v0 : Int32) (v1 : Int32) : Int32 :=
  (habs ((v0 >>> (4 &&& 31)) - (v1 >>> (4 &&& 31))))
set_option maxRecDepth 20000 in
theorem w_X11_along (d : Nat) (hd : 1 ≤ d) (v0 : Int32) (v1 : Int32) (M : HMem) : GX iX11_along d (eP M) (some (f_X11_along v0 v1)) 0 [some (.inl v0), some (.inl v1)] [] M := by
  rw [f_X11_along]
  refine gx_iload_n dX11_along_0 rfl ?_
  refine gx_iconst (x := 4) (by decide) dX11_along_1 ?_
  refine gx_ishr dX11_along_2 ?_
  refine gx_iload_n dX11_along_3 rfl ?_
  refine gx_iconst (x := 4) (by decide) dX11_along_4 ?_
  refine gx_ishr dX11_along_5 ?_
  refine gx_isub dX11_along_6 ?_
  refine gx_abs mw1007 mw1008 mw189 mcode_abs (by omega) (Nat.le_of_ble_eq_true rfl) dX11_along_7 ?_
  exact gx_iret rfl rfl dX11_along_10
theorem c_X11_along (d : Nat) (hd : 1 ≤ d) (v0 : Int32) (v1 : Int32) (M : HMem) : MX iX11_along d [.inl v0, .inl v1] M (eP M) (some (f_X11_along v0 v1)) := mx_of (by decide +kernel) (Nat.le_of_ble_eq_true rfl) rfl (w_X11_along d hd v0 v1 M)
-- X0_nearestScent
def f_X0_nearestScent_L37 (n : Nat) (r7 : Int32 → Int32 → Option Int32) (v1 : Int32) (v2 : Int32) (v3 : Int32) (v5 : Int32) (o6 : Nat) (M : HMem) : Nat → Int32 → Int32 → Option Int32
  | 0, _, _ => none
  | k + 1, v4, v7 =>
    if (f_X1_last o6 M) < v7 then
      (r7 v4 (v5 + 1))
    else
      (if v2 ≤ v7 then
        (r7 v4 (v5 + 1))
      else
        (hb1 (f_X1_placeAt o6 v7 M) (fun x101 =>
        hb1 (f_X0_smells x101 v7 v3 M) (fun x102 =>
        if x102 = 0 then
          (f_X0_nearestScent_L37 n r7 v1 v2 v3 v5 o6 M k v4 (v7 + 1))
        else
          (if v4 = (-2) then
            (f_X0_nearestScent_L37 n r7 v1 v2 v3 v5 o6 M k (hmax (f_X11_across v1 x101) (f_X11_along v1 x101)) (v7 + 1))
          else
            (if v4 ≤ (hmax (f_X11_across v1 x101) (f_X11_along v1 x101)) then
              (f_X0_nearestScent_L37 n r7 v1 v2 v3 v5 o6 M k v4 (v7 + 1))
            else
              (f_X0_nearestScent_L37 n r7 v1 v2 v3 v5 o6 M k (hmax (f_X11_across v1 x101) (f_X11_along v1 x101)) (v7 + 1))))))))
set_option maxRecDepth 20000 in
theorem w_X0_nearestScent_L37 (d : Nat) (hd : 4 ≤ d) (n : Nat) (r7 : Int32 → Int32 → Option Int32) (M : HMem) (v1 : Int32) (v2 : Int32) (v3 : Int32) (v5 : Int32) (o6 : Nat) (h6 : isCo o6) (hr7 : ∀ (v4 : Int32) (v5 : Int32), GX iX0_nearestScent d (eP M) (r7 v4 v5) 7 [some (.inr (some 3)), some (.inl v1), some (.inl v2), some (.inl v3), some (.inl v4), some (.inl v5), none, none, none, none] [] M) : ∀ (k : Nat) (v4 : Int32) (v7 : Int32), GX iX0_nearestScent d (eP M) (f_X0_nearestScent_L37 n r7 v1 v2 v3 v5 o6 M k v4 v7) 37 [some (.inr (some 3)), some (.inl v1), some (.inl v2), some (.inl v3), some (.inl v4), some (.inl v5), some (.inr (some o6)), some (.inl v7), none, none] [] M := by
  intro k
  induction k with
  | zero => intro v4 v7; exact gx_none
  | succ k ih =>
    intro v4 v7
    rw [f_X0_nearestScent_L37]
    refine gx_iload dX0_nearestScent_37 rfl ?_
    refine gx_aload dX0_nearestScent_39 rfl ?_
    refine gx_cV_it (av := []) (st := [.inl v7]) ml_X0_59 (by omega) (shC h6) (c_X1_last (d - 1) (by omega) o6 h6 M) rfl rfl (Nat.le_of_ble_eq_true rfl) dX0_nearestScent_41 ?_
    refine gx_icmp_gt (tgt := 115) dX0_nearestScent_44 (by decide) ?_ ?_
    · refine gx_iinc (y := v5 + 1) (lv' := [some (.inr (some 3)), some (.inl v1), some (.inl v2), some (.inl v3), some (.inl v4), some (.inl (v5 + 1)), some (.inr (some o6)), some (.inl v7), none, none]) dX0_nearestScent_115 rfl rfl (by decide) rfl ?_
      refine gx_goto (tgt := 7) dX0_nearestScent_118 (by decide) ?_
      refine gx_mk (lv' := [some (.inr (some 3)), some (.inl v1), some (.inl v2), some (.inl v3), some (.inl v4), some (.inl (v5 + 1)), none, none, none, none]) [true, true, true, true, true, true, false, false, false, false] rfl ?_
      exact hr7 v4 (v5 + 1)
    refine gx_iload dX0_nearestScent_47 rfl ?_
    refine gx_iload_n dX0_nearestScent_49 rfl ?_
    refine gx_icmp_ge (tgt := 115) dX0_nearestScent_50 (by decide) ?_ ?_
    · refine gx_iinc (y := v5 + 1) (lv' := [some (.inr (some 3)), some (.inl v1), some (.inl v2), some (.inl v3), some (.inl v4), some (.inl (v5 + 1)), some (.inr (some o6)), some (.inl v7), none, none]) dX0_nearestScent_115 rfl rfl (by decide) rfl ?_
      refine gx_goto (tgt := 7) dX0_nearestScent_118 (by decide) ?_
      refine gx_mk (lv' := [some (.inr (some 3)), some (.inl v1), some (.inl v2), some (.inl v3), some (.inl v4), some (.inl (v5 + 1)), none, none, none, none]) [true, true, true, true, true, true, false, false, false, false] rfl ?_
      exact hr7 v4 (v5 + 1)
    refine gx_aload dX0_nearestScent_53 rfl ?_
    refine gx_iload dX0_nearestScent_55 rfl ?_
    refine gx_cV_ip (av := [.inl v7]) (st := []) ml_X0_48 (by omega) (shC h6) (c_X1_placeAt (d - 1) (by omega) o6 h6 v7 M) rfl rfl (Nat.le_of_ble_eq_true rfl) dX0_nearestScent_57 (fun x101 => ?_)
    refine gx_istore (lv' := [some (.inr (some 3)), some (.inl v1), some (.inl v2), some (.inl v3), some (.inl v4), some (.inl v5), some (.inr (some o6)), some (.inl v7), some (.inl x101), none]) dX0_nearestScent_60 (by decide) rfl ?_
    refine gx_iload_n dX0_nearestScent_62 rfl ?_
    refine gx_iload dX0_nearestScent_63 rfl ?_
    refine gx_cS_it (av := [.inl v1, .inl x101]) (st := []) ml_X0_85 (by omega) (c_X11_across (d - 1) (by omega) v1 x101 M) rfl rfl (Nat.le_of_ble_eq_true rfl) dX0_nearestScent_65 ?_
    refine gx_iload_n dX0_nearestScent_68 rfl ?_
    refine gx_iload dX0_nearestScent_69 rfl ?_
    refine gx_cS_it (av := [.inl v1, .inl x101]) (st := [.inl (f_X11_across v1 x101)]) ml_X0_88 (by omega) (c_X11_along (d - 1) (by omega) v1 x101 M) rfl rfl (Nat.le_of_ble_eq_true rfl) dX0_nearestScent_71 ?_
    refine gx_max mw957 mw832 mw189 mcode_max (by omega) (Nat.le_of_ble_eq_true rfl) dX0_nearestScent_74 ?_
    refine gx_istore (lv' := [some (.inr (some 3)), some (.inl v1), some (.inl v2), some (.inl v3), some (.inl v4), some (.inl v5), some (.inr (some o6)), some (.inl v7), some (.inl x101), some (.inl (hmax (f_X11_across v1 x101) (f_X11_along v1 x101)))]) dX0_nearestScent_77 (by decide) rfl ?_
    refine gx_aload_n dX0_nearestScent_79 rfl ?_
    refine gx_iload dX0_nearestScent_80 rfl ?_
    refine gx_iload dX0_nearestScent_82 rfl ?_
    refine gx_iload_n dX0_nearestScent_84 rfl ?_
    refine gx_cV_ip (av := [.inl x101, .inl v7, .inl v3]) (st := []) ml_X0_71 (by omega) sh3 (c_X0_smells (d - 1) (by omega) x101 v7 v3 M) rfl rfl (Nat.le_of_ble_eq_true rfl) dX0_nearestScent_85 (fun x102 => ?_)
    refine gx_if_eq (tgt := 109) dX0_nearestScent_88 (by decide) ?_ ?_
    · refine gx_iinc (y := v7 + 1) (lv' := [some (.inr (some 3)), some (.inl v1), some (.inl v2), some (.inl v3), some (.inl v4), some (.inl v5), some (.inr (some o6)), some (.inl (v7 + 1)), some (.inl x101), some (.inl (hmax (f_X11_across v1 x101) (f_X11_along v1 x101)))]) dX0_nearestScent_109 rfl rfl (by decide) rfl ?_
      refine gx_goto (tgt := 37) dX0_nearestScent_112 (by decide) ?_
      refine gx_mk (lv' := [some (.inr (some 3)), some (.inl v1), some (.inl v2), some (.inl v3), some (.inl v4), some (.inl v5), some (.inr (some o6)), some (.inl (v7 + 1)), none, none]) [true, true, true, true, true, true, true, true, false, false] rfl ?_
      exact ih v4 (v7 + 1)
    refine gx_iload dX0_nearestScent_91 rfl ?_
    refine gx_bipush (x := (-2)) (by decide) dX0_nearestScent_93 ?_
    refine gx_icmp_eq (tgt := 105) dX0_nearestScent_95 (by decide) ?_ ?_
    · refine gx_iload dX0_nearestScent_105 rfl ?_
      refine gx_istore (lv' := [some (.inr (some 3)), some (.inl v1), some (.inl v2), some (.inl v3), some (.inl (hmax (f_X11_across v1 x101) (f_X11_along v1 x101))), some (.inl v5), some (.inr (some o6)), some (.inl v7), some (.inl x101), some (.inl (hmax (f_X11_across v1 x101) (f_X11_along v1 x101)))]) dX0_nearestScent_107 (by decide) rfl ?_
      refine gx_iinc (y := v7 + 1) (lv' := [some (.inr (some 3)), some (.inl v1), some (.inl v2), some (.inl v3), some (.inl (hmax (f_X11_across v1 x101) (f_X11_along v1 x101))), some (.inl v5), some (.inr (some o6)), some (.inl (v7 + 1)), some (.inl x101), some (.inl (hmax (f_X11_across v1 x101) (f_X11_along v1 x101)))]) dX0_nearestScent_109 rfl rfl (by decide) rfl ?_
      refine gx_goto (tgt := 37) dX0_nearestScent_112 (by decide) ?_
      refine gx_mk (lv' := [some (.inr (some 3)), some (.inl v1), some (.inl v2), some (.inl v3), some (.inl (hmax (f_X11_across v1 x101) (f_X11_along v1 x101))), some (.inl v5), some (.inr (some o6)), some (.inl (v7 + 1)), none, none]) [true, true, true, true, true, true, true, true, false, false] rfl ?_
      exact ih (hmax (f_X11_across v1 x101) (f_X11_along v1 x101)) (v7 + 1)
    refine gx_iload dX0_nearestScent_98 rfl ?_
    refine gx_iload dX0_nearestScent_100 rfl ?_
    refine gx_icmp_ge (tgt := 109) dX0_nearestScent_102 (by decide) ?_ ?_
    · refine gx_iinc (y := v7 + 1) (lv' := [some (.inr (some 3)), some (.inl v1), some (.inl v2), some (.inl v3), some (.inl v4), some (.inl v5), some (.inr (some o6)), some (.inl (v7 + 1)), some (.inl x101), some (.inl (hmax (f_X11_across v1 x101) (f_X11_along v1 x101)))]) dX0_nearestScent_109 rfl rfl (by decide) rfl ?_
      refine gx_goto (tgt := 37) dX0_nearestScent_112 (by decide) ?_
      refine gx_mk (lv' := [some (.inr (some 3)), some (.inl v1), some (.inl v2), some (.inl v3), some (.inl v4), some (.inl v5), some (.inr (some o6)), some (.inl (v7 + 1)), none, none]) [true, true, true, true, true, true, true, true, false, false] rfl ?_
      exact ih v4 (v7 + 1)
    refine gx_iload dX0_nearestScent_105 rfl ?_
    refine gx_istore (lv' := [some (.inr (some 3)), some (.inl v1), some (.inl v2), some (.inl v3), some (.inl (hmax (f_X11_across v1 x101) (f_X11_along v1 x101))), some (.inl v5), some (.inr (some o6)), some (.inl v7), some (.inl x101), some (.inl (hmax (f_X11_across v1 x101) (f_X11_along v1 x101)))]) dX0_nearestScent_107 (by decide) rfl ?_
    refine gx_iinc (y := v7 + 1) (lv' := [some (.inr (some 3)), some (.inl v1), some (.inl v2), some (.inl v3), some (.inl (hmax (f_X11_across v1 x101) (f_X11_along v1 x101))), some (.inl v5), some (.inr (some o6)), some (.inl (v7 + 1)), some (.inl x101), some (.inl (hmax (f_X11_across v1 x101) (f_X11_along v1 x101)))]) dX0_nearestScent_109 rfl rfl (by decide) rfl ?_
    refine gx_goto (tgt := 37) dX0_nearestScent_112 (by decide) ?_
    refine gx_mk (lv' := [some (.inr (some 3)), some (.inl v1), some (.inl v2), some (.inl v3), some (.inl (hmax (f_X11_across v1 x101) (f_X11_along v1 x101))), some (.inl v5), some (.inr (some o6)), some (.inl (v7 + 1)), none, none]) [true, true, true, true, true, true, true, true, false, false] rfl ?_
    exact ih (hmax (f_X11_across v1 x101) (f_X11_along v1 x101)) (v7 + 1)
def f_X0_nearestScent_L7 (n : Nat) (v1 : Int32) (v2 : Int32) (v3 : Int32) (M : HMem) : Nat → Int32 → Int32 → Option Int32
  | 0, _, _ => none
  | k + 1, v4, v5 =>
    if 8 ≤ v5 then
      (some v4)
    else
      (hb1 (f_X0_laid v5 M) (fun r101 => match r101 with
        | none => (f_X0_nearestScent_L7 n v1 v2 v3 M k v4 (v5 + 1))
        | some o102 => (f_X0_nearestScent_L37 n (f_X0_nearestScent_L7 n v1 v2 v3 M k) v1 v2 v3 v5 o102 M n v4 (M o102 3))))
set_option maxRecDepth 20000 in
theorem w_X0_nearestScent_L7 (d : Nat) (hd : 4 ≤ d) (n : Nat) (M : HMem) (v1 : Int32) (v2 : Int32) (v3 : Int32) : ∀ (k : Nat) (v4 : Int32) (v5 : Int32), GX iX0_nearestScent d (eP M) (f_X0_nearestScent_L7 n v1 v2 v3 M k v4 v5) 7 [some (.inr (some 3)), some (.inl v1), some (.inl v2), some (.inl v3), some (.inl v4), some (.inl v5), none, none, none, none] [] M := by
  intro k
  induction k with
  | zero => intro v4 v5; exact gx_none
  | succ k ih =>
    intro v4 v5
    rw [f_X0_nearestScent_L7]
    refine gx_iload dX0_nearestScent_7 rfl ?_
    refine gx_bipush (x := 8) (by decide) dX0_nearestScent_9 ?_
    refine gx_icmp_ge (tgt := 121) dX0_nearestScent_11 (by decide) ?_ ?_
    · refine gx_iload dX0_nearestScent_121 rfl ?_
      exact gx_iret rfl rfl dX0_nearestScent_123
    refine gx_aload_n dX0_nearestScent_14 rfl ?_
    refine gx_iload dX0_nearestScent_15 rfl ?_
    refine gx_cV_rp (av := [.inl v5]) (st := []) ml_X0_41 (by omega) sh3 (c_X0_laid (d - 1) (by omega) v5 M) rfl rfl (Nat.le_of_ble_eq_true rfl) dX0_nearestScent_17 (fun r101 er101 => ?_)
    cases r101 with
    | none =>
      dsimp only
      refine gx_astoreN (lv' := [some (.inr (some 3)), some (.inl v1), some (.inl v2), some (.inl v3), some (.inl v4), some (.inl v5), some (.inr none), none, none, none]) dX0_nearestScent_20 (by decide) rfl ?_
      refine gx_aloadN dX0_nearestScent_22 rfl ?_
      refine gx_ifnonnullN dX0_nearestScent_24 ?_
      refine gx_goto (tgt := 115) dX0_nearestScent_27 (by decide) ?_
      refine gx_iinc (y := v5 + 1) (lv' := [some (.inr (some 3)), some (.inl v1), some (.inl v2), some (.inl v3), some (.inl v4), some (.inl (v5 + 1)), some (.inr none), none, none, none]) dX0_nearestScent_115 rfl rfl (by decide) rfl ?_
      refine gx_goto (tgt := 7) dX0_nearestScent_118 (by decide) ?_
      refine gx_mk (lv' := [some (.inr (some 3)), some (.inl v1), some (.inl v2), some (.inl v3), some (.inl v4), some (.inl (v5 + 1)), none, none, none, none]) [true, true, true, true, true, true, false, false, false, false] rfl ?_
      exact ih v4 (v5 + 1)
    | some o102 =>
      have ho102 := co_X0_laid er101
      dsimp only
      refine gx_astore (lv' := [some (.inr (some 3)), some (.inl v1), some (.inl v2), some (.inl v3), some (.inl v4), some (.inl v5), some (.inr (some o102)), none, none, none]) dX0_nearestScent_20 (by decide) rfl ?_
      refine gx_aload dX0_nearestScent_22 rfl ?_
      refine gx_ifnonnullS (tgt := 30) dX0_nearestScent_24 (by decide) ?_
      refine gx_aload dX0_nearestScent_30 rfl ?_
      refine gx_getI fl_X0_68 (shC ho102) rfl dX0_nearestScent_32 ?_
      refine gx_istore (lv' := [some (.inr (some 3)), some (.inl v1), some (.inl v2), some (.inl v3), some (.inl v4), some (.inl v5), some (.inr (some o102)), some (.inl (M o102 3)), none, none]) dX0_nearestScent_35 (by decide) rfl ?_
      refine gx_mk (lv' := [some (.inr (some 3)), some (.inl v1), some (.inl v2), some (.inl v3), some (.inl v4), some (.inl v5), some (.inr (some o102)), some (.inl (M o102 3)), none, none]) [true, true, true, true, true, true, true, true, false, false] rfl ?_
      exact w_X0_nearestScent_L37 d hd n (f_X0_nearestScent_L7 n v1 v2 v3 M k) M v1 v2 v3 v5 o102 ho102 ih n v4 (M o102 3)
def f_X0_nearestScent (n : Nat) (v1 : Int32) (v2 : Int32) (v3 : Int32) (M : HMem) : Option Int32 :=
  f_X0_nearestScent_L7 n v1 v2 v3 M n (-2) 0
set_option maxRecDepth 20000 in
theorem w_X0_nearestScent (d : Nat) (hd : 4 ≤ d) (n : Nat) (v1 : Int32) (v2 : Int32) (v3 : Int32) (M : HMem) : GX iX0_nearestScent d (eP M) (f_X0_nearestScent n v1 v2 v3 M) 0 [some (.inr (some 3)), some (.inl v1), some (.inl v2), some (.inl v3), none, none, none, none, none, none] [] M := by
  rw [f_X0_nearestScent]
  refine gx_bipush (x := (-2)) (by decide) dX0_nearestScent_0 ?_
  refine gx_istore (lv' := [some (.inr (some 3)), some (.inl v1), some (.inl v2), some (.inl v3), some (.inl (-2)), none, none, none, none, none]) dX0_nearestScent_2 (by decide) rfl ?_
  refine gx_iconst (x := 0) (by decide) dX0_nearestScent_4 ?_
  refine gx_istore (lv' := [some (.inr (some 3)), some (.inl v1), some (.inl v2), some (.inl v3), some (.inl (-2)), some (.inl 0), none, none, none, none]) dX0_nearestScent_5 (by decide) rfl ?_
  refine gx_mk (lv' := [some (.inr (some 3)), some (.inl v1), some (.inl v2), some (.inl v3), some (.inl (-2)), some (.inl 0), none, none, none, none]) [true, true, true, true, true, true, false, false, false, false] rfl ?_
  exact w_X0_nearestScent_L7 d hd n M v1 v2 v3 n (-2) 0
theorem c_X0_nearestScent (d : Nat) (hd : 4 ≤ d) (n : Nat) (v1 : Int32) (v2 : Int32) (v3 : Int32) (M : HMem) : MX iX0_nearestScent d [.inr (some 3), .inl v1, .inl v2, .inl v3] M (eP M) (f_X0_nearestScent n v1 v2 v3 M) := mx_of (by decide +kernel) (Nat.le_of_ble_eq_true rfl) rfl (w_X0_nearestScent d hd n v1 v2 v3 M)
-- X11_isOnLand
def f_X11_isOnLand (v0 : Int32) (v1 : Int32) : Int32 :=
  if v0 < 0 then
    (0)
  else
    (if 16 ≤ v0 then
      (0)
    else
      (if v1 < 0 then
        (0)
      else
        (if 12 ≤ v1 then
          (0)
        else
          (1))))
set_option maxRecDepth 20000 in
theorem w_X11_isOnLand (d : Nat) (hd : 0 ≤ d) (v0 : Int32) (v1 : Int32) (M : HMem) : GX iX11_isOnLand d (eP M) (some (f_X11_isOnLand v0 v1)) 0 [some (.inl v0), some (.inl v1)] [] M := by
  rw [f_X11_isOnLand]
  refine gx_iload_n dX11_isOnLand_0 rfl ?_
  refine gxt_if_lt (tgt := 24) dX11_isOnLand_1 (by decide) ?_ ?_
  · refine gx_iconst (x := 0) (by decide) dX11_isOnLand_24 ?_
    exact gx_zret rfl (by decide) rfl dX11_isOnLand_25
  refine gx_iload_n dX11_isOnLand_4 rfl ?_
  refine gx_bipush (x := 16) (by decide) dX11_isOnLand_5 ?_
  refine gxt_icmp_ge (tgt := 24) dX11_isOnLand_7 (by decide) ?_ ?_
  · refine gx_iconst (x := 0) (by decide) dX11_isOnLand_24 ?_
    exact gx_zret rfl (by decide) rfl dX11_isOnLand_25
  refine gx_iload_n dX11_isOnLand_10 rfl ?_
  refine gxt_if_lt (tgt := 24) dX11_isOnLand_11 (by decide) ?_ ?_
  · refine gx_iconst (x := 0) (by decide) dX11_isOnLand_24 ?_
    exact gx_zret rfl (by decide) rfl dX11_isOnLand_25
  refine gx_iload_n dX11_isOnLand_14 rfl ?_
  refine gx_bipush (x := 12) (by decide) dX11_isOnLand_15 ?_
  refine gxt_icmp_ge (tgt := 24) dX11_isOnLand_17 (by decide) ?_ ?_
  · refine gx_iconst (x := 0) (by decide) dX11_isOnLand_24 ?_
    exact gx_zret rfl (by decide) rfl dX11_isOnLand_25
  refine gx_iconst (x := 1) (by decide) dX11_isOnLand_20 ?_
  refine gx_goto (tgt := 25) dX11_isOnLand_21 (by decide) ?_
  exact gx_zret rfl (by decide) rfl dX11_isOnLand_25
theorem c_X11_isOnLand (d : Nat) (hd : 0 ≤ d) (v0 : Int32) (v1 : Int32) (M : HMem) : MX iX11_isOnLand d [.inl v0, .inl v1] M (eP M) (some (f_X11_isOnLand v0 v1)) := mx_of (by decide +kernel) (Nat.le_of_ble_eq_true rfl) rfl (w_X11_isOnLand d hd v0 v1 M)
-- X11_placeOf
def f_X11_placeOf (v0 : Int32) (v1 : Int32) : Int32 :=
  ((16 * v1) + v0)
set_option maxRecDepth 20000 in
theorem w_X11_placeOf (d : Nat) (hd : 0 ≤ d) (v0 : Int32) (v1 : Int32) (M : HMem) : GX iX11_placeOf d (eP M) (some (f_X11_placeOf v0 v1)) 0 [some (.inl v0), some (.inl v1)] [] M := by
  rw [f_X11_placeOf]
  refine gx_bipush (x := 16) (by decide) dX11_placeOf_0 ?_
  refine gx_iload_n dX11_placeOf_2 rfl ?_
  refine gx_imul dX11_placeOf_3 ?_
  refine gx_iload_n dX11_placeOf_4 rfl ?_
  refine gx_iadd dX11_placeOf_5 ?_
  exact gx_iret rfl rfl dX11_placeOf_6
theorem c_X11_placeOf (d : Nat) (hd : 0 ≤ d) (v0 : Int32) (v1 : Int32) (M : HMem) : MX iX11_placeOf d [.inl v0, .inl v1] M (eP M) (some (f_X11_placeOf v0 v1)) := mx_of (by decide +kernel) (Nat.le_of_ble_eq_true rfl) rfl (w_X11_placeOf d hd v0 v1 M)
-- X11_beside
def f_X11_beside_J64 (v2 : Int32) (v3 : Int32) : Int32 :=
  if (f_X11_isOnLand v2 v3) = 0 then
    ((-1))
  else
    ((f_X11_placeOf v2 v3))
set_option maxRecDepth 20000 in
theorem w_X11_beside_J64 (d : Nat) (hd : 1 ≤ d) (M : HMem) (v2 : Int32) (v3 : Int32) : GX iX11_beside d (eP M) (some (f_X11_beside_J64 v2 v3)) 64 [none, none, some (.inl v2), some (.inl v3)] [] M := by
  rw [f_X11_beside_J64]
  refine gx_iload_n dX11_beside_64 rfl ?_
  refine gx_iload_n dX11_beside_65 rfl ?_
  refine gx_cS_it (av := [.inl v2, .inl v3]) (st := []) ml_X11_92 (by omega) (c_X11_isOnLand (d - 1) (by omega) v2 v3 M) rfl rfl (Nat.le_of_ble_eq_true rfl) dX11_beside_66 ?_
  refine gxt_if_eq (tgt := 80) dX11_beside_69 (by decide) ?_ ?_
  · refine gx_iconst (x := (-1)) (by decide) dX11_beside_80 ?_
    exact gx_iret rfl rfl dX11_beside_81
  refine gx_iload_n dX11_beside_72 rfl ?_
  refine gx_iload_n dX11_beside_73 rfl ?_
  refine gx_cS_it (av := [.inl v2, .inl v3]) (st := []) ml_X11_95 (by omega) (c_X11_placeOf (d - 1) (by omega) v2 v3 M) rfl rfl (Nat.le_of_ble_eq_true rfl) dX11_beside_74 ?_
  refine gx_goto (tgt := 81) dX11_beside_77 (by decide) ?_
  exact gx_iret rfl rfl dX11_beside_81
def f_X11_beside (v0 : Int32) (v1 : Int32) : Int32 :=
  if v1 = 1 then
    (f_X11_beside_J64 (v0 &&& 15) ((v0 >>> (4 &&& 31)) + (-1)))
  else if v1 = 2 then
    (f_X11_beside_J64 ((v0 &&& 15) + 1) (v0 >>> (4 &&& 31)))
  else if v1 = 3 then
    (f_X11_beside_J64 (v0 &&& 15) ((v0 >>> (4 &&& 31)) + 1))
  else if v1 = 4 then
    (f_X11_beside_J64 ((v0 &&& 15) + (-1)) (v0 >>> (4 &&& 31)))
  else (f_X11_beside_J64 (v0 &&& 15) (v0 >>> (4 &&& 31)))
set_option maxRecDepth 20000 in
theorem w_X11_beside (d : Nat) (hd : 1 ≤ d) (v0 : Int32) (v1 : Int32) (M : HMem) : GX iX11_beside d (eP M) (some (f_X11_beside v0 v1)) 0 [some (.inl v0), some (.inl v1), none, none] [] M := by
  rw [f_X11_beside]
  refine gx_iload_n dX11_beside_0 rfl ?_
  refine gx_bipush (x := 15) (by decide) dX11_beside_1 ?_
  refine gx_iand dX11_beside_3 ?_
  refine gx_istore_n (lv' := [some (.inl v0), some (.inl v1), some (.inl (v0 &&& 15)), none]) dX11_beside_4 (by decide) rfl ?_
  refine gx_iload_n dX11_beside_5 rfl ?_
  refine gx_iconst (x := 4) (by decide) dX11_beside_6 ?_
  refine gx_ishr dX11_beside_7 ?_
  refine gx_istore_n (lv' := [some (.inl v0), some (.inl v1), some (.inl (v0 &&& 15)), some (.inl (v0 >>> (4 &&& 31)))]) dX11_beside_8 (by decide) rfl ?_
  refine gx_iload_n dX11_beside_9 rfl ?_
  refine gxt_swT (k := 1) (kI := 1) (off := 30) (tgt := 40) (by decide) dX11_beside_10 (by decide) (by decide) rfl (by decide) ?_ (fun q10_1 => ?_)
  · refine gx_iinc (y := (v0 >>> (4 &&& 31)) + (-1)) (lv' := [some (.inl v0), some (.inl v1), some (.inl (v0 &&& 15)), some (.inl ((v0 >>> (4 &&& 31)) + (-1)))]) dX11_beside_40 rfl rfl (by decide) rfl ?_
    refine gx_goto (tgt := 64) dX11_beside_43 (by decide) ?_
    refine gx_mk (lv' := [none, none, some (.inl (v0 &&& 15)), some (.inl ((v0 >>> (4 &&& 31)) + (-1)))]) [false, false, true, true] rfl ?_
    exact w_X11_beside_J64 d hd M (v0 &&& 15) ((v0 >>> (4 &&& 31)) + (-1))
  refine gxt_swT (k := 2) (kI := 2) (off := 36) (tgt := 46) (by decide) dX11_beside_10 (by decide) (by decide) rfl (by decide) ?_ (fun q10_2 => ?_)
  · refine gx_iinc (y := (v0 &&& 15) + 1) (lv' := [some (.inl v0), some (.inl v1), some (.inl ((v0 &&& 15) + 1)), some (.inl (v0 >>> (4 &&& 31)))]) dX11_beside_46 rfl rfl (by decide) rfl ?_
    refine gx_goto (tgt := 64) dX11_beside_49 (by decide) ?_
    refine gx_mk (lv' := [none, none, some (.inl ((v0 &&& 15) + 1)), some (.inl (v0 >>> (4 &&& 31)))]) [false, false, true, true] rfl ?_
    exact w_X11_beside_J64 d hd M ((v0 &&& 15) + 1) (v0 >>> (4 &&& 31))
  refine gxt_swT (k := 3) (kI := 3) (off := 42) (tgt := 52) (by decide) dX11_beside_10 (by decide) (by decide) rfl (by decide) ?_ (fun q10_3 => ?_)
  · refine gx_iinc (y := (v0 >>> (4 &&& 31)) + 1) (lv' := [some (.inl v0), some (.inl v1), some (.inl (v0 &&& 15)), some (.inl ((v0 >>> (4 &&& 31)) + 1))]) dX11_beside_52 rfl rfl (by decide) rfl ?_
    refine gx_goto (tgt := 64) dX11_beside_55 (by decide) ?_
    refine gx_mk (lv' := [none, none, some (.inl (v0 &&& 15)), some (.inl ((v0 >>> (4 &&& 31)) + 1))]) [false, false, true, true] rfl ?_
    exact w_X11_beside_J64 d hd M (v0 &&& 15) ((v0 >>> (4 &&& 31)) + 1)
  refine gxt_swT (k := 4) (kI := 4) (off := 48) (tgt := 58) (by decide) dX11_beside_10 (by decide) (by decide) rfl (by decide) ?_ (fun q10_4 => ?_)
  · refine gx_iinc (y := (v0 &&& 15) + (-1)) (lv' := [some (.inl v0), some (.inl v1), some (.inl ((v0 &&& 15) + (-1))), some (.inl (v0 >>> (4 &&& 31)))]) dX11_beside_58 rfl rfl (by decide) rfl ?_
    refine gx_goto (tgt := 64) dX11_beside_61 (by decide) ?_
    refine gx_mk (lv' := [none, none, some (.inl ((v0 &&& 15) + (-1))), some (.inl (v0 >>> (4 &&& 31)))]) [false, false, true, true] rfl ?_
    exact w_X11_beside_J64 d hd M ((v0 &&& 15) + (-1)) (v0 >>> (4 &&& 31))
  refine gx_swTd (tgt := 64) dX11_beside_10 (by have := lv_neT q10_1 (a := 1) (by decide); have := lv_neT q10_2 (a := 2) (by decide); have := lv_neT q10_3 (a := 3) (by decide); have := lv_neT q10_4 (a := 4) (by decide); omega) (by decide) ?_
  refine gx_mk (lv' := [none, none, some (.inl (v0 &&& 15)), some (.inl (v0 >>> (4 &&& 31)))]) [false, false, true, true] rfl ?_
  exact w_X11_beside_J64 d hd M (v0 &&& 15) (v0 >>> (4 &&& 31))
theorem c_X11_beside (d : Nat) (hd : 1 ≤ d) (v0 : Int32) (v1 : Int32) (M : HMem) : MX iX11_beside d [.inl v0, .inl v1] M (eP M) (some (f_X11_beside v0 v1)) := mx_of (by decide +kernel) (Nat.le_of_ble_eq_true rfl) rfl (w_X11_beside d hd v0 v1 M)
-- X1_lay
def f_X1_lay_L39 (n : Nat) (o0 : Nat) : Nat → Int32 → Int32 → HMem → Option HMem
  | 0, _, _, _ => none
  | k + 1, v4, v5, M =>
    if (M o0 4) ≤ v5 then
      (some M)
    else
      (if hib v5 96 then
      if hib v5 96 then
      hb1 (some (hset M (o0 + 1) (Int32.toNatClampNeg v5) (M 9 (Int32.toNatClampNeg v5)))) (fun M101 =>
      if hib v5 96 then
      if (f_X11_beside v4 (M101 (o0 + 1) (Int32.toNatClampNeg v5))) = (-1) then
        (if hib (v5 + 1) 97 then
        f_X1_lay_L39 n o0 k v4 (v5 + 1) (hset M101 (o0 + 2) (Int32.toNatClampNeg (v5 + 1)) v4)
        else none)
      else
        (if hib (v5 + 1) 97 then
        f_X1_lay_L39 n o0 k (f_X11_beside v4 (M101 (o0 + 1) (Int32.toNatClampNeg v5))) (v5 + 1) (hset M101 (o0 + 2) (Int32.toNatClampNeg (v5 + 1)) (f_X11_beside v4 (M101 (o0 + 1) (Int32.toNatClampNeg v5))))
        else none)
      else none)
      else none
      else none)
set_option maxRecDepth 20000 in
theorem w_X1_lay_L39 (d : Nat) (hd : 2 ≤ d) (n : Nat) (o0 : Nat) (h0 : isCo o0) : ∀ (k : Nat) (v4 : Int32) (v5 : Int32) (M : HMem), GX iX1_lay d eV (f_X1_lay_L39 n o0 k v4 v5 M) 39 [some (.inr (some o0)), none, none, some (.inr (some 8)), some (.inl v4), some (.inl v5), none] [] M := by
  intro k
  induction k with
  | zero => intro v4 v5 M; exact gx_none
  | succ k ih =>
    intro v4 v5 M
    rw [f_X1_lay_L39]
    refine gx_iload dX1_lay_39 rfl ?_
    refine gx_aload_n dX1_lay_41 rfl ?_
    refine gx_getI fl_X1_26 (shC h0) rfl dX1_lay_42 ?_
    refine gx_icmp_ge (tgt := 103) dX1_lay_45 (by decide) ?_ ?_
    · exact gx_vret rfl rfl dX1_lay_103
    refine gx_aload_n dX1_lay_48 rfl ?_
    refine gx_getR fl_X1_9 (shC h0) rfl dX1_lay_49 ?_
    refine gx_iload dX1_lay_52 rfl ?_
    refine gx_aload_n dX1_lay_54 rfl ?_
    refine gx_getR fl_X1_38 sh8 rfl dX1_lay_55 ?_
    refine gx_iload dX1_lay_58 rfl ?_
    refine gx_iaload sh9 dX1_lay_60 ?_
    refine gx_iastore (shC1 h0) dX1_lay_61 ?_
    refine gx_iload dX1_lay_62 rfl ?_
    refine gx_aload_n dX1_lay_64 rfl ?_
    refine gx_getR fl_X1_9 (shC h0) rfl dX1_lay_65 ?_
    refine gx_iload dX1_lay_68 rfl ?_
    refine gx_nm (fun M101 => ?_)
    refine gx_iaload (shC1 h0) dX1_lay_70 ?_
    refine gx_cS_it (av := [.inl v4, .inl (M101 (o0 + 1) (Int32.toNatClampNeg v5))]) (st := []) ml_X1_39 (by omega) (c_X11_beside (d - 1) (by omega) v4 (M101 (o0 + 1) (Int32.toNatClampNeg v5)) M101) rfl rfl (Nat.le_of_ble_eq_true rfl) dX1_lay_71 ?_
    refine gx_istore (lv' := [some (.inr (some o0)), none, none, some (.inr (some 8)), some (.inl v4), some (.inl v5), some (.inl (f_X11_beside v4 (M101 (o0 + 1) (Int32.toNatClampNeg v5))))]) dX1_lay_74 (by decide) rfl ?_
    refine gx_iload dX1_lay_76 rfl ?_
    refine gx_iconst (x := (-1)) (by decide) dX1_lay_78 ?_
    refine gx_icmp_eq (tgt := 86) dX1_lay_79 (by decide) ?_ ?_
    · refine gx_aload_n dX1_lay_86 rfl ?_
      refine gx_getR fl_X1_15 (shC h0) rfl dX1_lay_87 ?_
      refine gx_iload dX1_lay_90 rfl ?_
      refine gx_iconst (x := 1) (by decide) dX1_lay_92 ?_
      refine gx_iadd dX1_lay_93 ?_
      refine gx_iload dX1_lay_94 rfl ?_
      refine gx_iastore (shC2 h0) dX1_lay_96 ?_
      refine gx_iinc (y := v5 + 1) (lv' := [some (.inr (some o0)), none, none, some (.inr (some 8)), some (.inl v4), some (.inl (v5 + 1)), some (.inl (f_X11_beside v4 (M101 (o0 + 1) (Int32.toNatClampNeg v5))))]) dX1_lay_97 rfl rfl (by decide) rfl ?_
      refine gx_goto (tgt := 39) dX1_lay_100 (by decide) ?_
      refine gx_mk (lv' := [some (.inr (some o0)), none, none, some (.inr (some 8)), some (.inl v4), some (.inl (v5 + 1)), none]) [true, false, false, true, true, true, false] rfl ?_
      exact ih v4 (v5 + 1) (hset M101 (o0 + 2) (Int32.toNatClampNeg (v5 + 1)) v4)
    refine gx_iload dX1_lay_82 rfl ?_
    refine gx_istore (lv' := [some (.inr (some o0)), none, none, some (.inr (some 8)), some (.inl (f_X11_beside v4 (M101 (o0 + 1) (Int32.toNatClampNeg v5)))), some (.inl v5), some (.inl (f_X11_beside v4 (M101 (o0 + 1) (Int32.toNatClampNeg v5))))]) dX1_lay_84 (by decide) rfl ?_
    refine gx_aload_n dX1_lay_86 rfl ?_
    refine gx_getR fl_X1_15 (shC h0) rfl dX1_lay_87 ?_
    refine gx_iload dX1_lay_90 rfl ?_
    refine gx_iconst (x := 1) (by decide) dX1_lay_92 ?_
    refine gx_iadd dX1_lay_93 ?_
    refine gx_iload dX1_lay_94 rfl ?_
    refine gx_iastore (shC2 h0) dX1_lay_96 ?_
    refine gx_iinc (y := v5 + 1) (lv' := [some (.inr (some o0)), none, none, some (.inr (some 8)), some (.inl (f_X11_beside v4 (M101 (o0 + 1) (Int32.toNatClampNeg v5)))), some (.inl (v5 + 1)), some (.inl (f_X11_beside v4 (M101 (o0 + 1) (Int32.toNatClampNeg v5))))]) dX1_lay_97 rfl rfl (by decide) rfl ?_
    refine gx_goto (tgt := 39) dX1_lay_100 (by decide) ?_
    refine gx_mk (lv' := [some (.inr (some o0)), none, none, some (.inr (some 8)), some (.inl (f_X11_beside v4 (M101 (o0 + 1) (Int32.toNatClampNeg v5)))), some (.inl (v5 + 1)), none]) [true, false, false, true, true, true, false] rfl ?_
    exact ih (f_X11_beside v4 (M101 (o0 + 1) (Int32.toNatClampNeg v5))) (v5 + 1) (hset M101 (o0 + 2) (Int32.toNatClampNeg (v5 + 1)) (f_X11_beside v4 (M101 (o0 + 1) (Int32.toNatClampNeg v5))))
def f_X1_lay (n : Nat) (o0 : Nat) (v1 : Int32) (v2 : Int32) (M : HMem) : Option HMem :=
  f_X1_lay_L39 n o0 n v1 0 (hset (hset (hset (hset M o0 2 1) o0 3 v2) o0 4 (hmin ((hset (hset M o0 2 1) o0 3 v2) 8 2) 96)) (o0 + 2) 0 v1)
set_option maxRecDepth 20000 in
theorem w_X1_lay (d : Nat) (hd : 2 ≤ d) (n : Nat) (o0 : Nat) (h0 : isCo o0) (v1 : Int32) (v2 : Int32) (M : HMem) : GX iX1_lay d eV (f_X1_lay n o0 v1 v2 M) 0 [some (.inr (some o0)), some (.inl v1), some (.inl v2), some (.inr (some 8)), none, none, none] [] M := by
  rw [f_X1_lay]
  refine gx_aload_n dX1_lay_0 rfl ?_
  refine gx_iconst (x := 1) (by decide) dX1_lay_1 ?_
  refine gx_putZ fl_X1_18 fp_X1_2 (shC h0) rfl (by decide) dX1_lay_2 ?_
  refine gx_aload_n dX1_lay_5 rfl ?_
  refine gx_iload_n dX1_lay_6 rfl ?_
  refine gx_putI fl_X1_22 fp_X1_3 (shC h0) rfl dX1_lay_7 ?_
  refine gx_aload_n dX1_lay_10 rfl ?_
  refine gx_aload_n dX1_lay_11 rfl ?_
  refine gx_getI fl_X1_29 sh8 rfl dX1_lay_12 ?_
  refine gx_aload_n dX1_lay_15 rfl ?_
  refine gx_getR fl_X1_9 (shC h0) rfl dX1_lay_16 ?_
  refine gx_alen (x := 96) (shC1 h0) (by decide) (by decide) dX1_lay_19 ?_
  refine gx_min mw716 mw717 mw189 mcode_min (by omega) (Nat.le_of_ble_eq_true rfl) dX1_lay_20 ?_
  refine gx_putI fl_X1_26 fp_X1_4 (shC h0) rfl dX1_lay_23 ?_
  refine gx_aload_n dX1_lay_26 rfl ?_
  refine gx_getR fl_X1_15 (shC h0) rfl dX1_lay_27 ?_
  refine gx_iconst (x := 0) (by decide) dX1_lay_30 ?_
  refine gx_iload_n dX1_lay_31 rfl ?_
  refine gx_iastoreL (j := 0) (shC2 h0) (by decide) (by decide) dX1_lay_32 ?_
  refine gx_iload_n dX1_lay_33 rfl ?_
  refine gx_istore (lv' := [some (.inr (some o0)), some (.inl v1), some (.inl v2), some (.inr (some 8)), some (.inl v1), none, none]) dX1_lay_34 (by decide) rfl ?_
  refine gx_iconst (x := 0) (by decide) dX1_lay_36 ?_
  refine gx_istore (lv' := [some (.inr (some o0)), some (.inl v1), some (.inl v2), some (.inr (some 8)), some (.inl v1), some (.inl 0), none]) dX1_lay_37 (by decide) rfl ?_
  refine gx_mk (lv' := [some (.inr (some o0)), none, none, some (.inr (some 8)), some (.inl v1), some (.inl 0), none]) [true, false, false, true, true, true, false] rfl ?_
  exact w_X1_lay_L39 d hd n o0 h0 n v1 0 (hset (hset (hset (hset M o0 2 1) o0 3 v2) o0 4 (hmin ((hset (hset M o0 2 1) o0 3 v2) 8 2) 96)) (o0 + 2) 0 v1)
theorem c_X1_lay (d : Nat) (hd : 2 ≤ d) (n : Nat) (o0 : Nat) (h0 : isCo o0) (v1 : Int32) (v2 : Int32) (M : HMem) : MX iX1_lay d [.inr (some o0), .inl v1, .inl v2, .inr (some 8)] M eV (f_X1_lay n o0 v1 v2 M) := mx_of (by decide +kernel) (Nat.le_of_ble_eq_true rfl) rfl (w_X1_lay d hd n o0 h0 v1 v2 M)
-- X1_timesAt
def f_X1_timesAt_L4 (n : Nat) (o0 : Nat) (v1 : Int32) (M : HMem) : Nat → Int32 → Int32 → Option Int32
  | 0, _, _ => none
  | k + 1, v2, v3 =>
    if (M o0 4) < v3 then
      (some v2)
    else
      (if 97 ≤ v3 then
        (some v2)
      else
        (if hib v3 97 then
        if (M (o0 + 2) (Int32.toNatClampNeg v3)) = v1 then
          (f_X1_timesAt_L4 n o0 v1 M k (v2 + 1) (v3 + 1))
        else
          (f_X1_timesAt_L4 n o0 v1 M k v2 (v3 + 1))
        else none))
set_option maxRecDepth 20000 in
theorem w_X1_timesAt_L4 (d : Nat) (hd : 0 ≤ d) (n : Nat) (M : HMem) (o0 : Nat) (h0 : isCo o0) (v1 : Int32) : ∀ (k : Nat) (v2 : Int32) (v3 : Int32), GX iX1_timesAt d (eP M) (f_X1_timesAt_L4 n o0 v1 M k v2 v3) 4 [some (.inr (some o0)), some (.inl v1), some (.inl v2), some (.inl v3)] [] M := by
  intro k
  induction k with
  | zero => intro v2 v3; exact gx_none
  | succ k ih =>
    intro v2 v3
    rw [f_X1_timesAt_L4]
    refine gx_iload_n dX1_timesAt_4 rfl ?_
    refine gx_aload_n dX1_timesAt_5 rfl ?_
    refine gx_getI fl_X1_26 (shC h0) rfl dX1_timesAt_6 ?_
    refine gx_icmp_gt (tgt := 40) dX1_timesAt_9 (by decide) ?_ ?_
    · refine gx_iload_n dX1_timesAt_40 rfl ?_
      exact gx_iret rfl rfl dX1_timesAt_41
    refine gx_iload_n dX1_timesAt_12 rfl ?_
    refine gx_aload_n dX1_timesAt_13 rfl ?_
    refine gx_getR fl_X1_15 (shC h0) rfl dX1_timesAt_14 ?_
    refine gx_alen (x := 97) (shC2 h0) (by decide) (by decide) dX1_timesAt_17 ?_
    refine gx_icmp_ge (tgt := 40) dX1_timesAt_18 (by decide) ?_ ?_
    · refine gx_iload_n dX1_timesAt_40 rfl ?_
      exact gx_iret rfl rfl dX1_timesAt_41
    refine gx_aload_n dX1_timesAt_21 rfl ?_
    refine gx_getR fl_X1_15 (shC h0) rfl dX1_timesAt_22 ?_
    refine gx_iload_n dX1_timesAt_25 rfl ?_
    refine gx_iaload (shC2 h0) dX1_timesAt_26 ?_
    refine gx_iload_n dX1_timesAt_27 rfl ?_
    refine gx_icmp_ne (tgt := 34) dX1_timesAt_28 (by decide) ?_ ?_
    · refine gx_iinc (y := v3 + 1) (lv' := [some (.inr (some o0)), some (.inl v1), some (.inl v2), some (.inl (v3 + 1))]) dX1_timesAt_34 rfl rfl (by decide) rfl ?_
      refine gx_goto (tgt := 4) dX1_timesAt_37 (by decide) ?_
      refine gx_mk (lv' := [some (.inr (some o0)), some (.inl v1), some (.inl v2), some (.inl (v3 + 1))]) [true, true, true, true] rfl ?_
      exact ih v2 (v3 + 1)
    refine gx_iinc (y := v2 + 1) (lv' := [some (.inr (some o0)), some (.inl v1), some (.inl (v2 + 1)), some (.inl v3)]) dX1_timesAt_31 rfl rfl (by decide) rfl ?_
    refine gx_iinc (y := v3 + 1) (lv' := [some (.inr (some o0)), some (.inl v1), some (.inl (v2 + 1)), some (.inl (v3 + 1))]) dX1_timesAt_34 rfl rfl (by decide) rfl ?_
    refine gx_goto (tgt := 4) dX1_timesAt_37 (by decide) ?_
    refine gx_mk (lv' := [some (.inr (some o0)), some (.inl v1), some (.inl (v2 + 1)), some (.inl (v3 + 1))]) [true, true, true, true] rfl ?_
    exact ih (v2 + 1) (v3 + 1)
def f_X1_timesAt (n : Nat) (o0 : Nat) (v1 : Int32) (M : HMem) : Option Int32 :=
  f_X1_timesAt_L4 n o0 v1 M n 0 0
set_option maxRecDepth 20000 in
theorem w_X1_timesAt (d : Nat) (hd : 0 ≤ d) (n : Nat) (o0 : Nat) (h0 : isCo o0) (v1 : Int32) (M : HMem) : GX iX1_timesAt d (eP M) (f_X1_timesAt n o0 v1 M) 0 [some (.inr (some o0)), some (.inl v1), none, none] [] M := by
  rw [f_X1_timesAt]
  refine gx_iconst (x := 0) (by decide) dX1_timesAt_0 ?_
  refine gx_istore_n (lv' := [some (.inr (some o0)), some (.inl v1), some (.inl 0), none]) dX1_timesAt_1 (by decide) rfl ?_
  refine gx_iconst (x := 0) (by decide) dX1_timesAt_2 ?_
  refine gx_istore_n (lv' := [some (.inr (some o0)), some (.inl v1), some (.inl 0), some (.inl 0)]) dX1_timesAt_3 (by decide) rfl ?_
  refine gx_mk (lv' := [some (.inr (some o0)), some (.inl v1), some (.inl 0), some (.inl 0)]) [true, true, true, true] rfl ?_
  exact w_X1_timesAt_L4 d hd n M o0 h0 v1 n 0 0
theorem c_X1_timesAt (d : Nat) (hd : 0 ≤ d) (n : Nat) (o0 : Nat) (h0 : isCo o0) (v1 : Int32) (M : HMem) : MX iX1_timesAt d [.inr (some o0), .inl v1] M (eP M) (f_X1_timesAt n o0 v1 M) := mx_of (by decide +kernel) (Nat.le_of_ble_eq_true rfl) rfl (w_X1_timesAt d hd n o0 h0 v1 M)
-- X1_wasAt
def f_X1_wasAt_L20 (n : Nat) (o0 : Nat) (v1 : Int32) (v4 : Int32) (M : HMem) : Nat → Int32 → Option Int32
  | 0, _ => none
  | k + 1, v5 =>
    if v4 < v5 then
      (some 0)
    else
      (hb1 (f_X1_placeAt o0 v5 M) (fun x101 =>
      if x101 = v1 then
        (some 1)
      else
        (f_X1_wasAt_L20 n o0 v1 v4 M k (v5 + 1))))
set_option maxRecDepth 20000 in
theorem w_X1_wasAt_L20 (d : Nat) (hd : 1 ≤ d) (n : Nat) (M : HMem) (o0 : Nat) (h0 : isCo o0) (v1 : Int32) (v4 : Int32) : ∀ (k : Nat) (v5 : Int32), GX iX1_wasAt d (eP M) (f_X1_wasAt_L20 n o0 v1 v4 M k v5) 20 [some (.inr (some o0)), some (.inl v1), none, none, some (.inl v4), some (.inl v5)] [] M := by
  intro k
  induction k with
  | zero => intro v5; exact gx_none
  | succ k ih =>
    intro v5
    rw [f_X1_wasAt_L20]
    refine gx_iload dX1_wasAt_20 rfl ?_
    refine gx_iload dX1_wasAt_22 rfl ?_
    refine gx_icmp_gt (tgt := 45) dX1_wasAt_24 (by decide) ?_ ?_
    · refine gx_iconst (x := 0) (by decide) dX1_wasAt_45 ?_
      exact gx_zret rfl (by decide) rfl dX1_wasAt_46
    refine gx_aload_n dX1_wasAt_27 rfl ?_
    refine gx_iload dX1_wasAt_28 rfl ?_
    refine gx_cV_ip (av := [.inl v5]) (st := []) ml_X1_49 (by omega) (shC h0) (c_X1_placeAt (d - 1) (by omega) o0 h0 v5 M) rfl rfl (Nat.le_of_ble_eq_true rfl) dX1_wasAt_30 (fun x101 => ?_)
    refine gx_iload_n dX1_wasAt_33 rfl ?_
    refine gx_icmp_ne (tgt := 39) dX1_wasAt_34 (by decide) ?_ ?_
    · refine gx_iinc (y := v5 + 1) (lv' := [some (.inr (some o0)), some (.inl v1), none, none, some (.inl v4), some (.inl (v5 + 1))]) dX1_wasAt_39 rfl rfl (by decide) rfl ?_
      refine gx_goto (tgt := 20) dX1_wasAt_42 (by decide) ?_
      refine gx_mk (lv' := [some (.inr (some o0)), some (.inl v1), none, none, some (.inl v4), some (.inl (v5 + 1))]) [true, true, false, false, true, true] rfl ?_
      exact ih (v5 + 1)
    refine gx_iconst (x := 1) (by decide) dX1_wasAt_37 ?_
    exact gx_zret rfl (by decide) rfl dX1_wasAt_38
def f_X1_wasAt (n : Nat) (o0 : Nat) (v1 : Int32) (v2 : Int32) (v3 : Int32) (M : HMem) : Option Int32 :=
  f_X1_wasAt_L20 n o0 v1 (hmin v3 (f_X1_last o0 M)) M n (hmax v2 (M o0 3))
set_option maxRecDepth 20000 in
theorem w_X1_wasAt (d : Nat) (hd : 1 ≤ d) (n : Nat) (o0 : Nat) (h0 : isCo o0) (v1 : Int32) (v2 : Int32) (v3 : Int32) (M : HMem) : GX iX1_wasAt d (eP M) (f_X1_wasAt n o0 v1 v2 v3 M) 0 [some (.inr (some o0)), some (.inl v1), some (.inl v2), some (.inl v3), none, none] [] M := by
  rw [f_X1_wasAt]
  refine gx_iload_n dX1_wasAt_0 rfl ?_
  refine gx_aload_n dX1_wasAt_1 rfl ?_
  refine gx_cV_it (av := []) (st := [.inl v3]) ml_X1_42 (by omega) (shC h0) (c_X1_last (d - 1) (by omega) o0 h0 M) rfl rfl (Nat.le_of_ble_eq_true rfl) dX1_wasAt_2 ?_
  refine gx_min mw716 mw717 mw189 mcode_min (by omega) (Nat.le_of_ble_eq_true rfl) dX1_wasAt_5 ?_
  refine gx_istore (lv' := [some (.inr (some o0)), some (.inl v1), some (.inl v2), some (.inl v3), some (.inl (hmin v3 (f_X1_last o0 M))), none]) dX1_wasAt_8 (by decide) rfl ?_
  refine gx_iload_n dX1_wasAt_10 rfl ?_
  refine gx_aload_n dX1_wasAt_11 rfl ?_
  refine gx_getI fl_X1_22 (shC h0) rfl dX1_wasAt_12 ?_
  refine gx_max mw1147 mw832 mw189 mcode_max (by omega) (Nat.le_of_ble_eq_true rfl) dX1_wasAt_15 ?_
  refine gx_istore (lv' := [some (.inr (some o0)), some (.inl v1), some (.inl v2), some (.inl v3), some (.inl (hmin v3 (f_X1_last o0 M))), some (.inl (hmax v2 (M o0 3)))]) dX1_wasAt_18 (by decide) rfl ?_
  refine gx_mk (lv' := [some (.inr (some o0)), some (.inl v1), none, none, some (.inl (hmin v3 (f_X1_last o0 M))), some (.inl (hmax v2 (M o0 3)))]) [true, true, false, false, true, true] rfl ?_
  exact w_X1_wasAt_L20 d hd n M o0 h0 v1 (hmin v3 (f_X1_last o0 M)) n (hmax v2 (M o0 3))
theorem c_X1_wasAt (d : Nat) (hd : 1 ≤ d) (n : Nat) (o0 : Nat) (h0 : isCo o0) (v1 : Int32) (v2 : Int32) (v3 : Int32) (M : HMem) : MX iX1_wasAt d [.inr (some o0), .inl v1, .inl v2, .inl v3] M (eP M) (f_X1_wasAt n o0 v1 v2 v3 M) := mx_of (by decide +kernel) (Nat.le_of_ble_eq_true rfl) rfl (w_X1_wasAt d hd n o0 h0 v1 v2 v3 M)

-- X11_charges
def f_X11_charges (n : Nat) (v1 : Int32) (v2 : Int32) (M : HMem) : Option Int32 :=
  hb1 (f_X0_laid v1 M) (fun r101 => match r101 with
    | none => (some (-1))
    | some o102 => (if v2 = 0 then
        (hb1 (f_X9_paidInAll n o102 M) (fun x103 =>
        some x103))
      else if v2 = 1 then
        (hb1 (f_X9_dearestField n o102 M) (fun x104 =>
        some x104))
      else if v2 = 2 then
        (hb1 (f_X9_dearestField n o102 M) (fun x105 =>
        hb1 (f_X9_paidFor n o102 x105 M) (fun x106 =>
        some x106)))
      else (some (-1))))
set_option maxRecDepth 20000 in
theorem w_X11_charges (d : Nat) (hd : 4 ≤ d) (n : Nat) (v1 : Int32) (v2 : Int32) (M : HMem) : GX iX11_charges d (eP M) (f_X11_charges n v1 v2 M) 0 [some (.inr (some 0)), some (.inl v1), some (.inl v2), none] [] M := by
  rw [f_X11_charges]
  refine gx_aload_n dX11_charges_0 rfl ?_
  refine gx_getR fl_X11_19 sh0 rfl dX11_charges_1 ?_
  refine gx_iload_n dX11_charges_4 rfl ?_
  refine gx_cV_rp (av := [.inl v1]) (st := []) ml_X11_211 (by omega) sh3 (c_X0_laid (d - 1) (by omega) v1 M) rfl rfl (Nat.le_of_ble_eq_true rfl) dX11_charges_5 (fun r101 er101 => ?_)
  cases r101 with
  | none =>
    dsimp only
    refine gx_astore_nN (lv' := [some (.inr (some 0)), some (.inl v1), some (.inl v2), some (.inr none)]) dX11_charges_8 (by decide) rfl ?_
    refine gx_aload_nN dX11_charges_9 rfl ?_
    refine gx_ifnonnullN dX11_charges_10 ?_
    refine gx_iconst (x := (-1)) (by decide) dX11_charges_13 ?_
    exact gx_iret rfl rfl dX11_charges_14
  | some o102 =>
    have ho102 := co_X0_laid er101
    dsimp only
    refine gx_astore_n (lv' := [some (.inr (some 0)), some (.inl v1), some (.inl v2), some (.inr (some o102))]) dX11_charges_8 (by decide) rfl ?_
    refine gx_aload_n dX11_charges_9 rfl ?_
    refine gx_ifnonnullS (tgt := 15) dX11_charges_10 (by decide) ?_
    refine gx_iload_n dX11_charges_15 rfl ?_
    refine gx_swT (k := 0) (kI := 0) (off := 28) (tgt := 44) (by decide) dX11_charges_16 (by decide) (by decide) rfl (by decide) ?_ (fun q16_0 => ?_)
    · refine gx_aload_n dX11_charges_44 rfl ?_
      refine gx_getR fl_X11_67 sh0 rfl dX11_charges_45 ?_
      refine gx_aload_n dX11_charges_48 rfl ?_
      refine gx_cV_ip (av := [.inr (some o102)]) (st := []) ml_X11_265 (by omega) sh32 (c_X9_paidInAll (d - 1) (by omega) n o102 ho102 M) rfl rfl (Nat.le_of_ble_eq_true rfl) dX11_charges_49 (fun x103 => ?_)
      exact gx_iret rfl rfl dX11_charges_52
    refine gx_swT (k := 1) (kI := 1) (off := 37) (tgt := 53) (by decide) dX11_charges_16 (by decide) (by decide) rfl (by decide) ?_ (fun q16_1 => ?_)
    · refine gx_aload_n dX11_charges_53 rfl ?_
      refine gx_getR fl_X11_67 sh0 rfl dX11_charges_54 ?_
      refine gx_aload_n dX11_charges_57 rfl ?_
      refine gx_cV_ip (av := [.inr (some o102)]) (st := []) ml_X11_268 (by omega) sh32 (c_X9_dearestField (d - 1) (by omega) n o102 ho102 M) rfl rfl (Nat.le_of_ble_eq_true rfl) dX11_charges_58 (fun x104 => ?_)
      exact gx_iret rfl rfl dX11_charges_61
    refine gx_swT (k := 2) (kI := 2) (off := 46) (tgt := 62) (by decide) dX11_charges_16 (by decide) (by decide) rfl (by decide) ?_ (fun q16_2 => ?_)
    · refine gx_aload_n dX11_charges_62 rfl ?_
      refine gx_getR fl_X11_67 sh0 rfl dX11_charges_63 ?_
      refine gx_aload_n dX11_charges_66 rfl ?_
      refine gx_aload_n dX11_charges_67 rfl ?_
      refine gx_getR fl_X11_67 sh0 rfl dX11_charges_68 ?_
      refine gx_aload_n dX11_charges_71 rfl ?_
      refine gx_cV_ip (av := [.inr (some o102)]) (st := [.inr (some o102), .inr (some 32)]) ml_X11_268 (by omega) sh32 (c_X9_dearestField (d - 1) (by omega) n o102 ho102 M) rfl rfl (Nat.le_of_ble_eq_true rfl) dX11_charges_72 (fun x105 => ?_)
      refine gx_cV_ip (av := [.inr (some o102), .inl x105]) (st := []) ml_X11_271 (by omega) sh32 (c_X9_paidFor (d - 1) (by omega) n o102 ho102 x105 M) rfl rfl (Nat.le_of_ble_eq_true rfl) dX11_charges_75 (fun x106 => ?_)
      exact gx_iret rfl rfl dX11_charges_78
    refine gx_swTd (tgt := 79) dX11_charges_16 (by have := lv_neT q16_0 (a := 0) (by decide); have := lv_neT q16_1 (a := 1) (by decide); have := lv_neT q16_2 (a := 2) (by decide); omega) (by decide) ?_
    refine gx_iconst (x := (-1)) (by decide) dX11_charges_79 ?_
    exact gx_iret rfl rfl dX11_charges_80
theorem c_X11_charges (d : Nat) (hd : 4 ≤ d) (n : Nat) (v1 : Int32) (v2 : Int32) (M : HMem) : MX iX11_charges d [.inr (some 0), .inl v1, .inl v2] M (eP M) (f_X11_charges n v1 v2 M) := mx_of (by decide +kernel) (Nat.le_of_ble_eq_true rfl) rfl (w_X11_charges d hd n v1 v2 M)
-- X11_round
def f_X11_round (n : Nat) (v1 : Int32) (v2 : Int32) (M : HMem) : Option (Int32 × HMem) :=
  if (f_X11_isPlace v1) = 0 then
    (some ((-1), M))
  else
    (if (f_X11_isPlace v2) = 0 then
      (some ((-1), M))
    else
      (hb2 (f_X9_stepsByLand n v1 v2 M) (fun x101 M102 =>
      some (x101, M102))))
set_option maxRecDepth 20000 in
theorem w_X11_round (d : Nat) (hd : 4 ≤ d) (n : Nat) (v1 : Int32) (v2 : Int32) (M : HMem) : GX iX11_round d eI (f_X11_round n v1 v2 M) 0 [some (.inr (some 0)), some (.inl v1), some (.inl v2)] [] M := by
  rw [f_X11_round]
  refine gx_iload_n dX11_round_0 rfl ?_
  refine gx_cS_it (av := [.inl v1]) (st := []) ml_X11_275 (by omega) (c_X11_isPlace (d - 1) (by omega) v1 M) rfl rfl (Nat.le_of_ble_eq_true rfl) dX11_round_1 ?_
  refine gx_if_eq (tgt := 14) dX11_round_4 (by decide) ?_ ?_
  · refine gx_iconst (x := (-1)) (by decide) dX11_round_14 ?_
    exact gx_iret rfl rfl dX11_round_15
  refine gx_iload_n dX11_round_7 rfl ?_
  refine gx_cS_it (av := [.inl v2]) (st := []) ml_X11_275 (by omega) (c_X11_isPlace (d - 1) (by omega) v2 M) rfl rfl (Nat.le_of_ble_eq_true rfl) dX11_round_8 ?_
  refine gx_if_ne (tgt := 16) dX11_round_11 (by decide) ?_ ?_
  · refine gx_aload_n dX11_round_16 rfl ?_
    refine gx_getR fl_X11_67 sh0 rfl dX11_round_17 ?_
    refine gx_iload_n dX11_round_20 rfl ?_
    refine gx_iload_n dX11_round_21 rfl ?_
    refine gx_cV_im (av := [.inl v1, .inl v2]) (st := []) ml_X11_278 (by omega) sh32 (c_X9_stepsByLand (d - 1) (by omega) n v1 v2 M) rfl rfl (Nat.le_of_ble_eq_true rfl) dX11_round_22 (fun x101 M102 => ?_)
    exact gx_iret rfl rfl dX11_round_25
  refine gx_iconst (x := (-1)) (by decide) dX11_round_14 ?_
  exact gx_iret rfl rfl dX11_round_15
theorem c_X11_round (d : Nat) (hd : 4 ≤ d) (n : Nat) (v1 : Int32) (v2 : Int32) (M : HMem) : MX iX11_round d [.inr (some 0), .inl v1, .inl v2] M eI (f_X11_round n v1 v2 M) := mx_of (by decide +kernel) (Nat.le_of_ble_eq_true rfl) rfl (w_X11_round d hd n v1 v2 M)
-- X11_cast
def f_X11_cast (n : Nat) (v1 : Int32) (M : HMem) : Option Int32 :=
  hb1 (f_X8_isTold 35 v1 M) (fun x101 =>
  if x101 = 0 then
    (some (-1))
  else
    (hb1 (f_X8_placeOfHound 35 v1 M) (fun x102 =>
    hb1 (f_X8_timeOf 35 v1 M) (fun x103 =>
    hb1 (f_X0_nearestScent n x102 x103 (M 35 4) M) (fun x104 =>
    some x104)))))
set_option maxRecDepth 20000 in
theorem w_X11_cast (d : Nat) (hd : 5 ≤ d) (n : Nat) (v1 : Int32) (M : HMem) : GX iX11_cast d (eP M) (f_X11_cast n v1 M) 0 [some (.inr (some 0)), some (.inl v1)] [] M := by
  rw [f_X11_cast]
  refine gx_aload_n dX11_cast_0 rfl ?_
  refine gx_getR fl_X11_74 sh0 rfl dX11_cast_1 ?_
  refine gx_iload_n dX11_cast_4 rfl ?_
  refine gx_cV_ip (av := [.inl v1]) (st := []) ml_X11_205 (by omega) sh35 (c_X8_isTold (d - 1) (by omega) 35 (Or.inl rfl) v1 M) rfl rfl (Nat.le_of_ble_eq_true rfl) dX11_cast_5 (fun x101 => ?_)
  refine gx_if_ne (tgt := 13) dX11_cast_8 (by decide) ?_ ?_
  · refine gx_aload_n dX11_cast_13 rfl ?_
    refine gx_getR fl_X11_19 sh0 rfl dX11_cast_14 ?_
    refine gx_aload_n dX11_cast_17 rfl ?_
    refine gx_getR fl_X11_74 sh0 rfl dX11_cast_18 ?_
    refine gx_iload_n dX11_cast_21 rfl ?_
    refine gx_cV_ip (av := [.inl v1]) (st := [.inr (some 3)]) ml_X11_196 (by omega) sh35 (c_X8_placeOfHound (d - 1) (by omega) 35 (Or.inl rfl) v1 M) rfl rfl (Nat.le_of_ble_eq_true rfl) dX11_cast_22 (fun x102 => ?_)
    refine gx_aload_n dX11_cast_25 rfl ?_
    refine gx_getR fl_X11_74 sh0 rfl dX11_cast_26 ?_
    refine gx_iload_n dX11_cast_29 rfl ?_
    refine gx_cV_ip (av := [.inl v1]) (st := [.inl x102, .inr (some 3)]) ml_X11_199 (by omega) sh35 (c_X8_timeOf (d - 1) (by omega) 35 (Or.inl rfl) v1 M) rfl rfl (Nat.le_of_ble_eq_true rfl) dX11_cast_30 (fun x103 => ?_)
    refine gx_aload_n dX11_cast_33 rfl ?_
    refine gx_getR fl_X11_74 sh0 rfl dX11_cast_34 ?_
    refine gx_getI fl_X11_107 sh35 rfl dX11_cast_37 ?_
    refine gx_cV_ip (av := [.inl x102, .inl x103, .inl (M 35 4)]) (st := []) ml_X11_281 (by omega) sh3 (c_X0_nearestScent (d - 1) (by omega) n x102 x103 (M 35 4) M) rfl rfl (Nat.le_of_ble_eq_true rfl) dX11_cast_40 (fun x104 => ?_)
    exact gx_iret rfl rfl dX11_cast_43
  refine gx_iconst (x := (-1)) (by decide) dX11_cast_11 ?_
  exact gx_iret rfl rfl dX11_cast_12
theorem c_X11_cast (d : Nat) (hd : 5 ≤ d) (n : Nat) (v1 : Int32) (M : HMem) : MX iX11_cast d [.inr (some 0), .inl v1] M (eP M) (f_X11_cast n v1 M) := mx_of (by decide +kernel) (Nat.le_of_ble_eq_true rfl) rfl (w_X11_cast d hd n v1 M)
-- X11_huntable
def f_X11_huntable (n : Nat) (v1 : Int32) (M : HMem) : Option (Int32 × HMem) :=
  if v1 < 1 then
    (some ((-1), M))
  else
    (if v1 ≤ 99 then
      (hb2 (f_X9_placesSmelling n v1 (M 35 4) M) (fun x101 M102 =>
      some (x101, M102)))
    else
      (some ((-1), M)))
set_option maxRecDepth 20000 in
theorem w_X11_huntable (d : Nat) (hd : 5 ≤ d) (n : Nat) (v1 : Int32) (M : HMem) : GX iX11_huntable d eI (f_X11_huntable n v1 M) 0 [some (.inr (some 0)), some (.inl v1)] [] M := by
  rw [f_X11_huntable]
  refine gx_iload_n dX11_huntable_0 rfl ?_
  refine gx_iconst (x := 1) (by decide) dX11_huntable_1 ?_
  refine gx_icmp_lt (tgt := 11) dX11_huntable_2 (by decide) ?_ ?_
  · refine gx_iconst (x := (-1)) (by decide) dX11_huntable_11 ?_
    exact gx_iret rfl rfl dX11_huntable_12
  refine gx_iload_n dX11_huntable_5 rfl ?_
  refine gx_bipush (x := 99) (by decide) dX11_huntable_6 ?_
  refine gx_icmp_le (tgt := 13) dX11_huntable_8 (by decide) ?_ ?_
  · refine gx_aload_n dX11_huntable_13 rfl ?_
    refine gx_getR fl_X11_67 sh0 rfl dX11_huntable_14 ?_
    refine gx_iload_n dX11_huntable_17 rfl ?_
    refine gx_aload_n dX11_huntable_18 rfl ?_
    refine gx_getR fl_X11_74 sh0 rfl dX11_huntable_19 ?_
    refine gx_getI fl_X11_107 sh35 rfl dX11_huntable_22 ?_
    refine gx_cV_im (av := [.inl v1, .inl (M 35 4)]) (st := []) ml_X11_285 (by omega) sh32 (c_X9_placesSmelling (d - 1) (by omega) n v1 (M 35 4) M) rfl rfl (Nat.le_of_ble_eq_true rfl) dX11_huntable_25 (fun x101 M102 => ?_)
    exact gx_iret rfl rfl dX11_huntable_28
  refine gx_iconst (x := (-1)) (by decide) dX11_huntable_11 ?_
  exact gx_iret rfl rfl dX11_huntable_12
theorem c_X11_huntable (d : Nat) (hd : 5 ≤ d) (n : Nat) (v1 : Int32) (M : HMem) : MX iX11_huntable d [.inr (some 0), .inl v1] M eI (f_X11_huntable n v1 M) := mx_of (by decide +kernel) (Nat.le_of_ble_eq_true rfl) rfl (w_X11_huntable d hd n v1 M)
-- X11_fitsFinds
def f_X11_fitsFinds_L20 (n : Nat) (v2 : Int32) (v3 : Int32) (o4 : Nat) (M : HMem) : Nat → Int32 → Option Int32
  | 0, _ => none
  | k + 1, v5 =>
    if v2 ≤ v5 then
      (some 1)
    else
      (hb1 (f_X10_byteAt ((3 * v5) + 1) M) (fun x101 =>
      hb1 (f_X10_byteAt ((3 * v5) + 2) M) (fun x102 =>
      hb1 (f_X10_byteAt (3 * v5) M) (fun x103 =>
      hb1 (f_X1_wasAt n o4 x103 ((x101 + (256 * x102)) - v3) ((x101 + (256 * x102)) + v3) M) (fun x104 =>
      if x104 = 0 then
        (some 0)
      else
        (f_X11_fitsFinds_L20 n v2 v3 o4 M k (v5 + 1)))))))
set_option maxRecDepth 20000 in
theorem w_X11_fitsFinds_L20 (d : Nat) (hd : 3 ≤ d) (n : Nat) (M : HMem) (v2 : Int32) (v3 : Int32) (o4 : Nat) (h4 : isCo o4) : ∀ (k : Nat) (v5 : Int32), GX iX11_fitsFinds d (eP M) (f_X11_fitsFinds_L20 n v2 v3 o4 M k v5) 20 [some (.inr (some 0)), none, some (.inl v2), some (.inl v3), some (.inr (some o4)), some (.inl v5), none] [] M := by
  intro k
  induction k with
  | zero => intro v5; exact gx_none
  | succ k ih =>
    intro v5
    rw [f_X11_fitsFinds_L20]
    refine gx_iload dX11_fitsFinds_20 rfl ?_
    refine gx_iload_n dX11_fitsFinds_22 rfl ?_
    refine gx_icmp_ge (tgt := 94) dX11_fitsFinds_23 (by decide) ?_ ?_
    · refine gx_iconst (x := 1) (by decide) dX11_fitsFinds_94 ?_
      exact gx_zret rfl (by decide) rfl dX11_fitsFinds_95
    refine gx_aload_n dX11_fitsFinds_26 rfl ?_
    refine gx_getR fl_X11_10 sh0 rfl dX11_fitsFinds_27 ?_
    refine gx_iconst (x := 3) (by decide) dX11_fitsFinds_30 ?_
    refine gx_iload dX11_fitsFinds_31 rfl ?_
    refine gx_imul dX11_fitsFinds_33 ?_
    refine gx_iconst (x := 1) (by decide) dX11_fitsFinds_34 ?_
    refine gx_iadd dX11_fitsFinds_35 ?_
    refine gx_cV_ip (av := [.inl ((3 * v5) + 1)]) (st := []) ml_X11_291 (by omega) sh1 (c_X10_byteAt (d - 1) (by omega) ((3 * v5) + 1) M) rfl rfl (Nat.le_of_ble_eq_true rfl) dX11_fitsFinds_36 (fun x101 => ?_)
    refine gx_sipush (x := 256) (by decide) dX11_fitsFinds_39 ?_
    refine gx_aload_n dX11_fitsFinds_42 rfl ?_
    refine gx_getR fl_X11_10 sh0 rfl dX11_fitsFinds_43 ?_
    refine gx_iconst (x := 3) (by decide) dX11_fitsFinds_46 ?_
    refine gx_iload dX11_fitsFinds_47 rfl ?_
    refine gx_imul dX11_fitsFinds_49 ?_
    refine gx_iconst (x := 2) (by decide) dX11_fitsFinds_50 ?_
    refine gx_iadd dX11_fitsFinds_51 ?_
    refine gx_cV_ip (av := [.inl ((3 * v5) + 2)]) (st := [.inl 256, .inl x101]) ml_X11_291 (by omega) sh1 (c_X10_byteAt (d - 1) (by omega) ((3 * v5) + 2) M) rfl rfl (Nat.le_of_ble_eq_true rfl) dX11_fitsFinds_52 (fun x102 => ?_)
    refine gx_imul dX11_fitsFinds_55 ?_
    refine gx_iadd dX11_fitsFinds_56 ?_
    refine gx_istore (lv' := [some (.inr (some 0)), none, some (.inl v2), some (.inl v3), some (.inr (some o4)), some (.inl v5), some (.inl (x101 + (256 * x102)))]) dX11_fitsFinds_57 (by decide) rfl ?_
    refine gx_aload dX11_fitsFinds_59 rfl ?_
    refine gx_aload_n dX11_fitsFinds_61 rfl ?_
    refine gx_getR fl_X11_10 sh0 rfl dX11_fitsFinds_62 ?_
    refine gx_iconst (x := 3) (by decide) dX11_fitsFinds_65 ?_
    refine gx_iload dX11_fitsFinds_66 rfl ?_
    refine gx_imul dX11_fitsFinds_68 ?_
    refine gx_cV_ip (av := [.inl (3 * v5)]) (st := [.inr (some o4)]) ml_X11_291 (by omega) sh1 (c_X10_byteAt (d - 1) (by omega) (3 * v5) M) rfl rfl (Nat.le_of_ble_eq_true rfl) dX11_fitsFinds_69 (fun x103 => ?_)
    refine gx_iload dX11_fitsFinds_72 rfl ?_
    refine gx_iload_n dX11_fitsFinds_74 rfl ?_
    refine gx_isub dX11_fitsFinds_75 ?_
    refine gx_iload dX11_fitsFinds_76 rfl ?_
    refine gx_iload_n dX11_fitsFinds_78 rfl ?_
    refine gx_iadd dX11_fitsFinds_79 ?_
    refine gx_cV_ip (av := [.inl x103, .inl ((x101 + (256 * x102)) - v3), .inl ((x101 + (256 * x102)) + v3)]) (st := []) ml_X11_332 (by omega) (shC h4) (c_X1_wasAt (d - 1) (by omega) n o4 h4 x103 ((x101 + (256 * x102)) - v3) ((x101 + (256 * x102)) + v3) M) rfl rfl (Nat.le_of_ble_eq_true rfl) dX11_fitsFinds_80 (fun x104 => ?_)
    refine gx_if_ne (tgt := 88) dX11_fitsFinds_83 (by decide) ?_ ?_
    · refine gx_iinc (y := v5 + 1) (lv' := [some (.inr (some 0)), none, some (.inl v2), some (.inl v3), some (.inr (some o4)), some (.inl (v5 + 1)), some (.inl (x101 + (256 * x102)))]) dX11_fitsFinds_88 rfl rfl (by decide) rfl ?_
      refine gx_goto (tgt := 20) dX11_fitsFinds_91 (by decide) ?_
      refine gx_mk (lv' := [some (.inr (some 0)), none, some (.inl v2), some (.inl v3), some (.inr (some o4)), some (.inl (v5 + 1)), none]) [true, false, true, true, true, true, false] rfl ?_
      exact ih (v5 + 1)
    refine gx_iconst (x := 0) (by decide) dX11_fitsFinds_86 ?_
    exact gx_zret rfl (by decide) rfl dX11_fitsFinds_87
def f_X11_fitsFinds (n : Nat) (v1 : Int32) (v2 : Int32) (v3 : Int32) (M : HMem) : Option Int32 :=
  hb1 (f_X0_laid v1 M) (fun r101 => match r101 with
    | none => (some 0)
    | some o102 => (f_X11_fitsFinds_L20 n v2 v3 o102 M n 0))
set_option maxRecDepth 20000 in
theorem w_X11_fitsFinds (d : Nat) (hd : 3 ≤ d) (n : Nat) (v1 : Int32) (v2 : Int32) (v3 : Int32) (M : HMem) : GX iX11_fitsFinds d (eP M) (f_X11_fitsFinds n v1 v2 v3 M) 0 [some (.inr (some 0)), some (.inl v1), some (.inl v2), some (.inl v3), none, none, none] [] M := by
  rw [f_X11_fitsFinds]
  refine gx_aload_n dX11_fitsFinds_0 rfl ?_
  refine gx_getR fl_X11_19 sh0 rfl dX11_fitsFinds_1 ?_
  refine gx_iload_n dX11_fitsFinds_4 rfl ?_
  refine gx_cV_rp (av := [.inl v1]) (st := []) ml_X11_211 (by omega) sh3 (c_X0_laid (d - 1) (by omega) v1 M) rfl rfl (Nat.le_of_ble_eq_true rfl) dX11_fitsFinds_5 (fun r101 er101 => ?_)
  cases r101 with
  | none =>
    dsimp only
    refine gx_astoreN (lv' := [some (.inr (some 0)), some (.inl v1), some (.inl v2), some (.inl v3), some (.inr none), none, none]) dX11_fitsFinds_8 (by decide) rfl ?_
    refine gx_aloadN dX11_fitsFinds_10 rfl ?_
    refine gx_ifnonnullN dX11_fitsFinds_12 ?_
    refine gx_iconst (x := 0) (by decide) dX11_fitsFinds_15 ?_
    exact gx_zret rfl (by decide) rfl dX11_fitsFinds_16
  | some o102 =>
    have ho102 := co_X0_laid er101
    dsimp only
    refine gx_astore (lv' := [some (.inr (some 0)), some (.inl v1), some (.inl v2), some (.inl v3), some (.inr (some o102)), none, none]) dX11_fitsFinds_8 (by decide) rfl ?_
    refine gx_aload dX11_fitsFinds_10 rfl ?_
    refine gx_ifnonnullS (tgt := 17) dX11_fitsFinds_12 (by decide) ?_
    refine gx_iconst (x := 0) (by decide) dX11_fitsFinds_17 ?_
    refine gx_istore (lv' := [some (.inr (some 0)), some (.inl v1), some (.inl v2), some (.inl v3), some (.inr (some o102)), some (.inl 0), none]) dX11_fitsFinds_18 (by decide) rfl ?_
    refine gx_mk (lv' := [some (.inr (some 0)), none, some (.inl v2), some (.inl v3), some (.inr (some o102)), some (.inl 0), none]) [true, false, true, true, true, true, false] rfl ?_
    exact w_X11_fitsFinds_L20 d hd n M v2 v3 o102 ho102 n 0
theorem c_X11_fitsFinds (d : Nat) (hd : 3 ≤ d) (n : Nat) (v1 : Int32) (v2 : Int32) (v3 : Int32) (M : HMem) : MX iX11_fitsFinds d [.inr (some 0), .inl v1, .inl v2, .inl v3] M (eP M) (f_X11_fitsFinds n v1 v2 v3 M) := mx_of (by decide +kernel) (Nat.le_of_ble_eq_true rfl) rfl (w_X11_fitsFinds d hd n v1 v2 v3 M)
-- X11_couldBe
def f_X11_couldBe_L75 (n : Nat) (v1 : Int32) (v2 : Int32) (M : HMem) : Nat → Int32 → Int32 → Option (Int32 × HMem)
  | 0, _, _ => none
  | k + 1, v3, v4 =>
    if 8 ≤ v4 then
      (some (v3, f_X10_empty  M))
    else
      (if v3 = (-2) then
        (some (v3, f_X10_empty  M))
      else
        (hb1 (f_X11_fitsFinds n v4 v1 v2 M) (fun x101 =>
        if x101 = 0 then
          (f_X11_couldBe_L75 n v1 v2 M k v3 (v4 + 1))
        else
          (f_X11_couldBe_L75 n v1 v2 M k (v3 ||| (1 <<< (v4 &&& 31))) (v4 + 1)))))
set_option maxRecDepth 20000 in
theorem w_X11_couldBe_L75 (d : Nat) (hd : 4 ≤ d) (n : Nat) (M : HMem) (v1 : Int32) (v2 : Int32) : ∀ (k : Nat) (v3 : Int32) (v4 : Int32), GX iX11_couldBe d eI (f_X11_couldBe_L75 n v1 v2 M k v3 v4) 75 [some (.inr (some 0)), some (.inl v1), some (.inl v2), some (.inl v3), some (.inl v4)] [] M := by
  intro k
  induction k with
  | zero => intro v3 v4; exact gx_none
  | succ k ih =>
    intro v3 v4
    rw [f_X11_couldBe_L75]
    refine gx_iload dX11_couldBe_75 rfl ?_
    refine gx_bipush (x := 8) (by decide) dX11_couldBe_77 ?_
    refine gx_icmp_ge (tgt := 112) dX11_couldBe_79 (by decide) ?_ ?_
    · refine gx_aload_n dX11_couldBe_112 rfl ?_
      refine gx_getR fl_X11_10 sh0 rfl dX11_couldBe_113 ?_
      refine gx_cV_vt (av := []) (st := []) ml_X11_130 (by omega) sh1 (c_X10_empty (d - 1) (by omega)  M) rfl rfl (Nat.le_of_ble_eq_true rfl) dX11_couldBe_116 ?_
      refine gx_iload_n dX11_couldBe_119 rfl ?_
      exact gx_iret rfl rfl dX11_couldBe_120
    refine gx_iload_n dX11_couldBe_82 rfl ?_
    refine gx_bipush (x := (-2)) (by decide) dX11_couldBe_83 ?_
    refine gx_icmp_eq (tgt := 112) dX11_couldBe_85 (by decide) ?_ ?_
    · refine gx_aload_n dX11_couldBe_112 rfl ?_
      refine gx_getR fl_X11_10 sh0 rfl dX11_couldBe_113 ?_
      refine gx_cV_vt (av := []) (st := []) ml_X11_130 (by omega) sh1 (c_X10_empty (d - 1) (by omega)  M) rfl rfl (Nat.le_of_ble_eq_true rfl) dX11_couldBe_116 ?_
      refine gx_iload_n dX11_couldBe_119 rfl ?_
      exact gx_iret rfl rfl dX11_couldBe_120
    refine gx_aload_n dX11_couldBe_88 rfl ?_
    refine gx_iload dX11_couldBe_89 rfl ?_
    refine gx_iload_n dX11_couldBe_91 rfl ?_
    refine gx_iload_n dX11_couldBe_92 rfl ?_
    refine gx_cV_ip (av := [.inl v4, .inl v1, .inl v2]) (st := []) ml_X11_294 (by omega) sh0 (c_X11_fitsFinds (d - 1) (by omega) n v4 v1 v2 M) rfl rfl (Nat.le_of_ble_eq_true rfl) dX11_couldBe_93 (fun x101 => ?_)
    refine gx_if_eq (tgt := 106) dX11_couldBe_96 (by decide) ?_ ?_
    · refine gx_iinc (y := v4 + 1) (lv' := [some (.inr (some 0)), some (.inl v1), some (.inl v2), some (.inl v3), some (.inl (v4 + 1))]) dX11_couldBe_106 rfl rfl (by decide) rfl ?_
      refine gx_goto (tgt := 75) dX11_couldBe_109 (by decide) ?_
      refine gx_mk (lv' := [some (.inr (some 0)), some (.inl v1), some (.inl v2), some (.inl v3), some (.inl (v4 + 1))]) [true, true, true, true, true] rfl ?_
      exact ih v3 (v4 + 1)
    refine gx_iload_n dX11_couldBe_99 rfl ?_
    refine gx_iconst (x := 1) (by decide) dX11_couldBe_100 ?_
    refine gx_iload dX11_couldBe_101 rfl ?_
    refine gx_ishl dX11_couldBe_103 ?_
    refine gx_ior dX11_couldBe_104 ?_
    refine gx_istore_n (lv' := [some (.inr (some 0)), some (.inl v1), some (.inl v2), some (.inl (v3 ||| (1 <<< (v4 &&& 31)))), some (.inl v4)]) dX11_couldBe_105 (by decide) rfl ?_
    refine gx_iinc (y := v4 + 1) (lv' := [some (.inr (some 0)), some (.inl v1), some (.inl v2), some (.inl (v3 ||| (1 <<< (v4 &&& 31)))), some (.inl (v4 + 1))]) dX11_couldBe_106 rfl rfl (by decide) rfl ?_
    refine gx_goto (tgt := 75) dX11_couldBe_109 (by decide) ?_
    refine gx_mk (lv' := [some (.inr (some 0)), some (.inl v1), some (.inl v2), some (.inl (v3 ||| (1 <<< (v4 &&& 31)))), some (.inl (v4 + 1))]) [true, true, true, true, true] rfl ?_
    exact ih (v3 ||| (1 <<< (v4 &&& 31))) (v4 + 1)
def f_X11_couldBe_L40 (n : Nat) (v1 : Int32) (v2 : Int32) (M : HMem) : Nat → Int32 → Int32 → Option (Int32 × HMem)
  | 0, _, _ => none
  | k + 1, v3, v4 =>
    if v1 ≤ v4 then
      (f_X11_couldBe_L75 n v1 v2 M n v3 0)
    else
      (hb1 (f_X10_byteAt (3 * v4) M) (fun x101 =>
      if (f_X11_isPlace x101) = 0 then
        (f_X11_couldBe_L40 n v1 v2 M k (-2) (v4 + 1))
      else
        (f_X11_couldBe_L40 n v1 v2 M k v3 (v4 + 1))))
set_option maxRecDepth 20000 in
theorem w_X11_couldBe_L40 (d : Nat) (hd : 4 ≤ d) (n : Nat) (M : HMem) (v1 : Int32) (v2 : Int32) : ∀ (k : Nat) (v3 : Int32) (v4 : Int32), GX iX11_couldBe d eI (f_X11_couldBe_L40 n v1 v2 M k v3 v4) 40 [some (.inr (some 0)), some (.inl v1), some (.inl v2), some (.inl v3), some (.inl v4)] [] M := by
  intro k
  induction k with
  | zero => intro v3 v4; exact gx_none
  | succ k ih =>
    intro v3 v4
    rw [f_X11_couldBe_L40]
    refine gx_iload dX11_couldBe_40 rfl ?_
    refine gx_iload_n dX11_couldBe_42 rfl ?_
    refine gx_icmp_ge (tgt := 72) dX11_couldBe_43 (by decide) ?_ ?_
    · refine gx_iconst (x := 0) (by decide) dX11_couldBe_72 ?_
      refine gx_istore (lv' := [some (.inr (some 0)), some (.inl v1), some (.inl v2), some (.inl v3), some (.inl 0)]) dX11_couldBe_73 (by decide) rfl ?_
      refine gx_mk (lv' := [some (.inr (some 0)), some (.inl v1), some (.inl v2), some (.inl v3), some (.inl 0)]) [true, true, true, true, true] rfl ?_
      exact w_X11_couldBe_L75 d hd n M v1 v2 n v3 0
    refine gx_aload_n dX11_couldBe_46 rfl ?_
    refine gx_getR fl_X11_10 sh0 rfl dX11_couldBe_47 ?_
    refine gx_iconst (x := 3) (by decide) dX11_couldBe_50 ?_
    refine gx_iload dX11_couldBe_51 rfl ?_
    refine gx_imul dX11_couldBe_53 ?_
    refine gx_cV_ip (av := [.inl (3 * v4)]) (st := []) ml_X11_291 (by omega) sh1 (c_X10_byteAt (d - 1) (by omega) (3 * v4) M) rfl rfl (Nat.le_of_ble_eq_true rfl) dX11_couldBe_54 (fun x101 => ?_)
    refine gx_cS_it (av := [.inl x101]) (st := []) ml_X11_275 (by omega) (c_X11_isPlace (d - 1) (by omega) x101 M) rfl rfl (Nat.le_of_ble_eq_true rfl) dX11_couldBe_57 ?_
    refine gx_if_ne (tgt := 66) dX11_couldBe_60 (by decide) ?_ ?_
    · refine gx_iinc (y := v4 + 1) (lv' := [some (.inr (some 0)), some (.inl v1), some (.inl v2), some (.inl v3), some (.inl (v4 + 1))]) dX11_couldBe_66 rfl rfl (by decide) rfl ?_
      refine gx_goto (tgt := 40) dX11_couldBe_69 (by decide) ?_
      refine gx_mk (lv' := [some (.inr (some 0)), some (.inl v1), some (.inl v2), some (.inl v3), some (.inl (v4 + 1))]) [true, true, true, true, true] rfl ?_
      exact ih v3 (v4 + 1)
    refine gx_bipush (x := (-2)) (by decide) dX11_couldBe_63 ?_
    refine gx_istore_n (lv' := [some (.inr (some 0)), some (.inl v1), some (.inl v2), some (.inl (-2)), some (.inl v4)]) dX11_couldBe_65 (by decide) rfl ?_
    refine gx_iinc (y := v4 + 1) (lv' := [some (.inr (some 0)), some (.inl v1), some (.inl v2), some (.inl (-2)), some (.inl (v4 + 1))]) dX11_couldBe_66 rfl rfl (by decide) rfl ?_
    refine gx_goto (tgt := 40) dX11_couldBe_69 (by decide) ?_
    refine gx_mk (lv' := [some (.inr (some 0)), some (.inl v1), some (.inl v2), some (.inl (-2)), some (.inl (v4 + 1))]) [true, true, true, true, true] rfl ?_
    exact ih (-2) (v4 + 1)
def f_X11_couldBe (n : Nat) (v1 : Int32) (v2 : Int32) (M : HMem) : Option (Int32 × HMem) :=
  if v1 < 1 then
    (some ((-1), M))
  else
    (if 10 < v1 then
      (some ((-1), M))
    else
      (if (f_X11_isWithin v2 99) = 0 then
        (some ((-1), M))
      else
        (if (f_X10_has (3 * v1) M) = 0 then
          (some ((-1), M))
        else
          (f_X11_couldBe_L40 n v1 v2 M n 0 0))))
set_option maxRecDepth 20000 in
theorem w_X11_couldBe (d : Nat) (hd : 4 ≤ d) (n : Nat) (v1 : Int32) (v2 : Int32) (M : HMem) : GX iX11_couldBe d eI (f_X11_couldBe n v1 v2 M) 0 [some (.inr (some 0)), some (.inl v1), some (.inl v2), none, none] [] M := by
  rw [f_X11_couldBe]
  refine gx_iload_n dX11_couldBe_0 rfl ?_
  refine gx_iconst (x := 1) (by decide) dX11_couldBe_1 ?_
  refine gx_icmp_lt (tgt := 33) dX11_couldBe_2 (by decide) ?_ ?_
  · refine gx_iconst (x := (-1)) (by decide) dX11_couldBe_33 ?_
    exact gx_iret rfl rfl dX11_couldBe_34
  refine gx_iload_n dX11_couldBe_5 rfl ?_
  refine gx_bipush (x := 10) (by decide) dX11_couldBe_6 ?_
  refine gx_icmp_gt (tgt := 33) dX11_couldBe_8 (by decide) ?_ ?_
  · refine gx_iconst (x := (-1)) (by decide) dX11_couldBe_33 ?_
    exact gx_iret rfl rfl dX11_couldBe_34
  refine gx_iload_n dX11_couldBe_11 rfl ?_
  refine gx_bipush (x := 99) (by decide) dX11_couldBe_12 ?_
  refine gx_cS_it (av := [.inl v2, .inl 99]) (st := []) ml_X11_88 (by omega) (c_X11_isWithin (d - 1) (by omega) v2 99 M) rfl rfl (Nat.le_of_ble_eq_true rfl) dX11_couldBe_14 ?_
  refine gx_if_eq (tgt := 33) dX11_couldBe_17 (by decide) ?_ ?_
  · refine gx_iconst (x := (-1)) (by decide) dX11_couldBe_33 ?_
    exact gx_iret rfl rfl dX11_couldBe_34
  refine gx_aload_n dX11_couldBe_20 rfl ?_
  refine gx_getR fl_X11_10 sh0 rfl dX11_couldBe_21 ?_
  refine gx_iconst (x := 3) (by decide) dX11_couldBe_24 ?_
  refine gx_iload_n dX11_couldBe_25 rfl ?_
  refine gx_imul dX11_couldBe_26 ?_
  refine gx_cV_it (av := [.inl (3 * v1)]) (st := []) ml_X11_288 (by omega) sh1 (c_X10_has (d - 1) (by omega) (3 * v1) M) rfl rfl (Nat.le_of_ble_eq_true rfl) dX11_couldBe_27 ?_
  refine gx_if_ne (tgt := 35) dX11_couldBe_30 (by decide) ?_ ?_
  · refine gx_iconst (x := 0) (by decide) dX11_couldBe_35 ?_
    refine gx_istore_n (lv' := [some (.inr (some 0)), some (.inl v1), some (.inl v2), some (.inl 0), none]) dX11_couldBe_36 (by decide) rfl ?_
    refine gx_iconst (x := 0) (by decide) dX11_couldBe_37 ?_
    refine gx_istore (lv' := [some (.inr (some 0)), some (.inl v1), some (.inl v2), some (.inl 0), some (.inl 0)]) dX11_couldBe_38 (by decide) rfl ?_
    refine gx_mk (lv' := [some (.inr (some 0)), some (.inl v1), some (.inl v2), some (.inl 0), some (.inl 0)]) [true, true, true, true, true] rfl ?_
    exact w_X11_couldBe_L40 d hd n M v1 v2 n 0 0
  refine gx_iconst (x := (-1)) (by decide) dX11_couldBe_33 ?_
  exact gx_iret rfl rfl dX11_couldBe_34
theorem c_X11_couldBe (d : Nat) (hd : 4 ≤ d) (n : Nat) (v1 : Int32) (v2 : Int32) (M : HMem) : MX iX11_couldBe d [.inr (some 0), .inl v1, .inl v2] M eI (f_X11_couldBe n v1 v2 M) := mx_of (by decide +kernel) (Nat.le_of_ble_eq_true rfl) rfl (w_X11_couldBe d hd n v1 v2 M)
-- X11_heldIn
def f_X11_heldIn (n : Nat) (v1 : Int32) (M : HMem) : Option (Int32 × HMem) :=
  hb1 (f_X0_laid v1 M) (fun r101 => match r101 with
    | none => (some ((-1), M))
    | some o102 => (hb2 (f_X9_placesShutIn n o102 M) (fun x103 M104 =>
      some (x103, M104))))
set_option maxRecDepth 20000 in
theorem w_X11_heldIn (d : Nat) (hd : 4 ≤ d) (n : Nat) (v1 : Int32) (M : HMem) : GX iX11_heldIn d eI (f_X11_heldIn n v1 M) 0 [some (.inr (some 0)), some (.inl v1), none] [] M := by
  rw [f_X11_heldIn]
  refine gx_aload_n dX11_heldIn_0 rfl ?_
  refine gx_getR fl_X11_19 sh0 rfl dX11_heldIn_1 ?_
  refine gx_iload_n dX11_heldIn_4 rfl ?_
  refine gx_cV_rp (av := [.inl v1]) (st := []) ml_X11_211 (by omega) sh3 (c_X0_laid (d - 1) (by omega) v1 M) rfl rfl (Nat.le_of_ble_eq_true rfl) dX11_heldIn_5 (fun r101 er101 => ?_)
  cases r101 with
  | none =>
    dsimp only
    refine gx_astore_nN (lv' := [some (.inr (some 0)), some (.inl v1), some (.inr none)]) dX11_heldIn_8 (by decide) rfl ?_
    refine gx_aload_nN dX11_heldIn_9 rfl ?_
    refine gx_ifnonnullN dX11_heldIn_10 ?_
    refine gx_iconst (x := (-1)) (by decide) dX11_heldIn_13 ?_
    refine gx_goto (tgt := 25) dX11_heldIn_14 (by decide) ?_
    exact gx_iret rfl rfl dX11_heldIn_25
  | some o102 =>
    have ho102 := co_X0_laid er101
    dsimp only
    refine gx_astore_n (lv' := [some (.inr (some 0)), some (.inl v1), some (.inr (some o102))]) dX11_heldIn_8 (by decide) rfl ?_
    refine gx_aload_n dX11_heldIn_9 rfl ?_
    refine gx_ifnonnullS (tgt := 17) dX11_heldIn_10 (by decide) ?_
    refine gx_aload_n dX11_heldIn_17 rfl ?_
    refine gx_getR fl_X11_67 sh0 rfl dX11_heldIn_18 ?_
    refine gx_aload_n dX11_heldIn_21 rfl ?_
    refine gx_cV_im (av := [.inr (some o102)]) (st := []) ml_X11_298 (by omega) sh32 (c_X9_placesShutIn (d - 1) (by omega) n o102 ho102 M) rfl rfl (Nat.le_of_ble_eq_true rfl) dX11_heldIn_22 (fun x103 M104 => ?_)
    exact gx_iret rfl rfl dX11_heldIn_25
theorem c_X11_heldIn (d : Nat) (hd : 4 ≤ d) (n : Nat) (v1 : Int32) (M : HMem) : MX iX11_heldIn d [.inr (some 0), .inl v1] M eI (f_X11_heldIn n v1 M) := mx_of (by decide +kernel) (Nat.le_of_ble_eq_true rfl) rfl (w_X11_heldIn d hd n v1 M)
-- X11_lineIs
def f_X11_lineIs (n : Nat) (v1 : Int32) (v2 : Int32) (M : HMem) : Option (Int32 × HMem) :=
  hb1 (f_X0_laid v1 M) (fun r101 => match r101 with
    | none => (some ((-1), M))
    | some o102 => (if v2 = 0 then
        (some (M o102 4, M))
      else if v2 = 1 then
        (hb1 (f_X1_turns n o102 M) (fun x103 =>
        some (x103, M)))
      else if v2 = 2 then
        (hb1 (f_X1_longestStraight n o102 M) (fun x104 =>
        some (x104, M)))
      else if v2 = 3 then
        (hb1 (f_X1_period n o102 M) (fun x105 =>
        some (x105, M)))
      else if v2 = 4 then
        (some (M o102 3, M))
      else if v2 = 5 then
        (hb2 (f_X9_placesOn n o102 M) (fun x106 M107 =>
        some (x106, M107)))
      else if v2 = 6 then
        (some (f_X1_last o102 M, M))
      else if v2 = 7 then
        (hb1 (f_X1_placeAt o102 (f_X1_last o102 M) M) (fun x108 =>
        some (x108, M)))
      else (some ((-1), M))))
set_option maxRecDepth 20000 in
theorem w_X11_lineIs (d : Nat) (hd : 3 ≤ d) (n : Nat) (v1 : Int32) (v2 : Int32) (M : HMem) : GX iX11_lineIs d eI (f_X11_lineIs n v1 v2 M) 0 [some (.inr (some 0)), some (.inl v1), some (.inl v2), none] [] M := by
  rw [f_X11_lineIs]
  refine gx_aload_n dX11_lineIs_0 rfl ?_
  refine gx_getR fl_X11_19 sh0 rfl dX11_lineIs_1 ?_
  refine gx_iload_n dX11_lineIs_4 rfl ?_
  refine gx_cV_rp (av := [.inl v1]) (st := []) ml_X11_211 (by omega) sh3 (c_X0_laid (d - 1) (by omega) v1 M) rfl rfl (Nat.le_of_ble_eq_true rfl) dX11_lineIs_5 (fun r101 er101 => ?_)
  cases r101 with
  | none =>
    dsimp only
    refine gx_astore_nN (lv' := [some (.inr (some 0)), some (.inl v1), some (.inl v2), some (.inr none)]) dX11_lineIs_8 (by decide) rfl ?_
    refine gx_aload_nN dX11_lineIs_9 rfl ?_
    refine gx_ifnonnullN dX11_lineIs_10 ?_
    refine gx_iconst (x := (-1)) (by decide) dX11_lineIs_13 ?_
    exact gx_iret rfl rfl dX11_lineIs_14
  | some o102 =>
    have ho102 := co_X0_laid er101
    dsimp only
    refine gx_astore_n (lv' := [some (.inr (some 0)), some (.inl v1), some (.inl v2), some (.inr (some o102))]) dX11_lineIs_8 (by decide) rfl ?_
    refine gx_aload_n dX11_lineIs_9 rfl ?_
    refine gx_ifnonnullS (tgt := 15) dX11_lineIs_10 (by decide) ?_
    refine gx_iload_n dX11_lineIs_15 rfl ?_
    refine gx_swT (k := 0) (kI := 0) (off := 48) (tgt := 64) (by decide) dX11_lineIs_16 (by decide) (by decide) rfl (by decide) ?_ (fun q16_0 => ?_)
    · refine gx_aload_n dX11_lineIs_64 rfl ?_
      refine gx_getI fl_X11_162 (shC ho102) rfl dX11_lineIs_65 ?_
      exact gx_iret rfl rfl dX11_lineIs_68
    refine gx_swT (k := 1) (kI := 1) (off := 53) (tgt := 69) (by decide) dX11_lineIs_16 (by decide) (by decide) rfl (by decide) ?_ (fun q16_1 => ?_)
    · refine gx_aload_n dX11_lineIs_69 rfl ?_
      refine gx_cV_ip (av := []) (st := []) ml_X11_301 (by omega) (shC ho102) (c_X1_turns (d - 1) (by omega) n o102 ho102 M) rfl rfl (Nat.le_of_ble_eq_true rfl) dX11_lineIs_70 (fun x103 => ?_)
      exact gx_iret rfl rfl dX11_lineIs_73
    refine gx_swT (k := 2) (kI := 2) (off := 58) (tgt := 74) (by decide) dX11_lineIs_16 (by decide) (by decide) rfl (by decide) ?_ (fun q16_2 => ?_)
    · refine gx_aload_n dX11_lineIs_74 rfl ?_
      refine gx_cV_ip (av := []) (st := []) ml_X11_304 (by omega) (shC ho102) (c_X1_longestStraight (d - 1) (by omega) n o102 ho102 M) rfl rfl (Nat.le_of_ble_eq_true rfl) dX11_lineIs_75 (fun x104 => ?_)
      exact gx_iret rfl rfl dX11_lineIs_78
    refine gx_swT (k := 3) (kI := 3) (off := 63) (tgt := 79) (by decide) dX11_lineIs_16 (by decide) (by decide) rfl (by decide) ?_ (fun q16_3 => ?_)
    · refine gx_aload_n dX11_lineIs_79 rfl ?_
      refine gx_cV_ip (av := []) (st := []) ml_X11_307 (by omega) (shC ho102) (c_X1_period (d - 1) (by omega) n o102 ho102 M) rfl rfl (Nat.le_of_ble_eq_true rfl) dX11_lineIs_80 (fun x105 => ?_)
      exact gx_iret rfl rfl dX11_lineIs_83
    refine gx_swT (k := 4) (kI := 4) (off := 68) (tgt := 84) (by decide) dX11_lineIs_16 (by decide) (by decide) rfl (by decide) ?_ (fun q16_4 => ?_)
    · refine gx_aload_n dX11_lineIs_84 rfl ?_
      refine gx_getI fl_X11_310 (shC ho102) rfl dX11_lineIs_85 ?_
      exact gx_iret rfl rfl dX11_lineIs_88
    refine gx_swT (k := 5) (kI := 5) (off := 73) (tgt := 89) (by decide) dX11_lineIs_16 (by decide) (by decide) rfl (by decide) ?_ (fun q16_5 => ?_)
    · refine gx_aload_n dX11_lineIs_89 rfl ?_
      refine gx_getR fl_X11_67 sh0 rfl dX11_lineIs_90 ?_
      refine gx_aload_n dX11_lineIs_93 rfl ?_
      refine gx_cV_im (av := [.inr (some o102)]) (st := []) ml_X11_313 (by omega) sh32 (c_X9_placesOn (d - 1) (by omega) n o102 ho102 M) rfl rfl (Nat.le_of_ble_eq_true rfl) dX11_lineIs_94 (fun x106 M107 => ?_)
      exact gx_iret rfl rfl dX11_lineIs_97
    refine gx_swT (k := 6) (kI := 6) (off := 82) (tgt := 98) (by decide) dX11_lineIs_16 (by decide) (by decide) rfl (by decide) ?_ (fun q16_6 => ?_)
    · refine gx_aload_n dX11_lineIs_98 rfl ?_
      refine gx_cV_it (av := []) (st := []) ml_X11_316 (by omega) (shC ho102) (c_X1_last (d - 1) (by omega) o102 ho102 M) rfl rfl (Nat.le_of_ble_eq_true rfl) dX11_lineIs_99 ?_
      exact gx_iret rfl rfl dX11_lineIs_102
    refine gx_swT (k := 7) (kI := 7) (off := 87) (tgt := 103) (by decide) dX11_lineIs_16 (by decide) (by decide) rfl (by decide) ?_ (fun q16_7 => ?_)
    · refine gx_aload_n dX11_lineIs_103 rfl ?_
      refine gx_aload_n dX11_lineIs_104 rfl ?_
      refine gx_cV_it (av := []) (st := [.inr (some o102)]) ml_X11_316 (by omega) (shC ho102) (c_X1_last (d - 1) (by omega) o102 ho102 M) rfl rfl (Nat.le_of_ble_eq_true rfl) dX11_lineIs_105 ?_
      refine gx_cV_ip (av := [.inl (f_X1_last o102 M)]) (st := []) ml_X11_214 (by omega) (shC ho102) (c_X1_placeAt (d - 1) (by omega) o102 ho102 (f_X1_last o102 M) M) rfl rfl (Nat.le_of_ble_eq_true rfl) dX11_lineIs_108 (fun x108 => ?_)
      exact gx_iret rfl rfl dX11_lineIs_111
    refine gx_swTd (tgt := 112) dX11_lineIs_16 (by have := lv_neT q16_0 (a := 0) (by decide); have := lv_neT q16_1 (a := 1) (by decide); have := lv_neT q16_2 (a := 2) (by decide); have := lv_neT q16_3 (a := 3) (by decide); have := lv_neT q16_4 (a := 4) (by decide); have := lv_neT q16_5 (a := 5) (by decide); have := lv_neT q16_6 (a := 6) (by decide); have := lv_neT q16_7 (a := 7) (by decide); omega) (by decide) ?_
    refine gx_iconst (x := (-1)) (by decide) dX11_lineIs_112 ?_
    exact gx_iret rfl rfl dX11_lineIs_113
theorem c_X11_lineIs (d : Nat) (hd : 3 ≤ d) (n : Nat) (v1 : Int32) (v2 : Int32) (M : HMem) : MX iX11_lineIs d [.inr (some 0), .inl v1, .inl v2] M eI (f_X11_lineIs n v1 v2 M) := mx_of (by decide +kernel) (Nat.le_of_ble_eq_true rfl) rfl (w_X11_lineIs d hd n v1 v2 M)
-- X11_landAt
def f_X11_landAt (v1 : Int32) (v2 : Int32) (M : HMem) : Option Int32 :=
  if (f_X11_isOnLand v1 v2) = 0 then
    (some (-1))
  else
    (hb1 (f_X3_kindAt 5 (f_X11_placeOf v1 v2) M) (fun x101 =>
    some x101))
set_option maxRecDepth 20000 in
theorem w_X11_landAt (d : Nat) (hd : 2 ≤ d) (v1 : Int32) (v2 : Int32) (M : HMem) : GX iX11_landAt d (eP M) (f_X11_landAt v1 v2 M) 0 [some (.inr (some 0)), some (.inl v1), some (.inl v2)] [] M := by
  rw [f_X11_landAt]
  refine gx_iload_n dX11_landAt_0 rfl ?_
  refine gx_iload_n dX11_landAt_1 rfl ?_
  refine gx_cS_it (av := [.inl v1, .inl v2]) (st := []) ml_X11_92 (by omega) (c_X11_isOnLand (d - 1) (by omega) v1 v2 M) rfl rfl (Nat.le_of_ble_eq_true rfl) dX11_landAt_2 ?_
  refine gx_if_eq (tgt := 26) dX11_landAt_5 (by decide) ?_ ?_
  · refine gx_iconst (x := (-1)) (by decide) dX11_landAt_26 ?_
    exact gx_iret rfl rfl dX11_landAt_27
  refine gx_aload_n dX11_landAt_8 rfl ?_
  refine gx_getR fl_X11_19 sh0 rfl dX11_landAt_9 ?_
  refine gx_getR fl_X11_166 sh3 rfl dX11_landAt_12 ?_
  refine gx_iload_n dX11_landAt_15 rfl ?_
  refine gx_iload_n dX11_landAt_16 rfl ?_
  refine gx_cS_it (av := [.inl v1, .inl v2]) (st := [.inr (some 5)]) ml_X11_95 (by omega) (c_X11_placeOf (d - 1) (by omega) v1 v2 M) rfl rfl (Nat.le_of_ble_eq_true rfl) dX11_landAt_17 ?_
  refine gx_cV_ip (av := [.inl (f_X11_placeOf v1 v2)]) (st := []) ml_X11_319 (by omega) sh5 (c_X3_kindAt (d - 1) (by omega) 5 (Or.inl rfl) (f_X11_placeOf v1 v2) M) rfl rfl (Nat.le_of_ble_eq_true rfl) dX11_landAt_20 (fun x101 => ?_)
  refine gx_goto (tgt := 27) dX11_landAt_23 (by decide) ?_
  exact gx_iret rfl rfl dX11_landAt_27
theorem c_X11_landAt (d : Nat) (hd : 2 ≤ d) (v1 : Int32) (v2 : Int32) (M : HMem) : MX iX11_landAt d [.inr (some 0), .inl v1, .inl v2] M (eP M) (f_X11_landAt v1 v2 M) := mx_of (by decide +kernel) (Nat.le_of_ble_eq_true rfl) rfl (w_X11_landAt d hd v1 v2 M)
-- X11_seed
def f_X11_seed (v1 : Int32) (M : HMem) : Option (Int32 × HMem) :=
  if (f_X11_isWithin v1 65535) = 0 then
    (some (0, M))
  else
    (some (1, hset M 35 5 v1))
set_option maxRecDepth 20000 in
theorem w_X11_seed (d : Nat) (hd : 1 ≤ d) (v1 : Int32) (M : HMem) : GX iX11_seed d eI (f_X11_seed v1 M) 0 [some (.inr (some 0)), some (.inl v1)] [] M := by
  rw [f_X11_seed]
  refine gx_iload_n dX11_seed_0 rfl ?_
  refine gx_ldcw (x := 65535) mw1194 dX11_seed_1 ?_
  refine gx_cS_it (av := [.inl v1, .inl 65535]) (st := []) ml_X11_88 (by omega) (c_X11_isWithin (d - 1) (by omega) v1 65535 M) rfl rfl (Nat.le_of_ble_eq_true rfl) dX11_seed_4 ?_
  refine gx_if_ne (tgt := 12) dX11_seed_7 (by decide) ?_ ?_
  · refine gx_aload_n dX11_seed_12 rfl ?_
    refine gx_getR fl_X11_74 sh0 rfl dX11_seed_13 ?_
    refine gx_iload_n dX11_seed_16 rfl ?_
    refine gx_putI fl_X11_323 fp_X8_5 sh35 rfl dX11_seed_17 ?_
    refine gx_iconst (x := 1) (by decide) dX11_seed_20 ?_
    exact gx_zret rfl (by decide) rfl dX11_seed_21
  refine gx_iconst (x := 0) (by decide) dX11_seed_10 ?_
  exact gx_zret rfl (by decide) rfl dX11_seed_11
theorem c_X11_seed (d : Nat) (hd : 1 ≤ d) (v1 : Int32) (M : HMem) : MX iX11_seed d [.inr (some 0), .inl v1] M eI (f_X11_seed v1 M) := mx_of (by decide +kernel) (Nat.le_of_ble_eq_true rfl) rfl (w_X11_seed d hd v1 M)
-- X11_keep
def f_X11_keep  (M : HMem) : Option (Int32 × HMem) :=
  some ((hset (f_X8_copyFrom 40 35 M) 0 11 1) 35 4, hset (f_X8_copyFrom 40 35 M) 0 11 1)
set_option maxRecDepth 20000 in
theorem w_X11_keep (d : Nat) (hd : 2 ≤ d)  (M : HMem) : GX iX11_keep d eI (f_X11_keep  M) 0 [some (.inr (some 0))] [] M := by
  rw [f_X11_keep]
  refine gx_aload_n dX11_keep_0 rfl ?_
  refine gx_getR fl_X11_78 sh0 rfl dX11_keep_1 ?_
  refine gx_aload_n dX11_keep_4 rfl ?_
  refine gx_getR fl_X11_74 sh0 rfl dX11_keep_5 ?_
  refine gx_cV_vt (av := [.inr (some 35)]) (st := []) ml_X11_194 (by omega) sh40 (c_X8_copyFrom (d - 1) (by omega) 40 (Or.inr (Or.inl rfl)) 35 (Or.inl rfl) M) rfl rfl (Nat.le_of_ble_eq_true rfl) dX11_keep_8 ?_
  refine gx_aload_n dX11_keep_11 rfl ?_
  refine gx_iconst (x := 1) (by decide) dX11_keep_12 ?_
  refine gx_putZ fl_X11_84 fp_X11_11 sh0 rfl (by decide) dX11_keep_13 ?_
  refine gx_aload_n dX11_keep_16 rfl ?_
  refine gx_getR fl_X11_74 sh0 rfl dX11_keep_17 ?_
  refine gx_getI fl_X11_107 sh35 rfl dX11_keep_20 ?_
  exact gx_iret rfl rfl dX11_keep_23
theorem c_X11_keep (d : Nat) (hd : 2 ≤ d)  (M : HMem) : MX iX11_keep d [.inr (some 0)] M eI (f_X11_keep  M) := mx_of (by decide +kernel) (Nat.le_of_ble_eq_true rfl) rfl (w_X11_keep d hd  M)
-- X11_undo
def f_X11_undo  (M : HMem) : Option (Int32 × HMem) :=
  if (M 0 11) = 0 then
    (some (0, M))
  else
    (some (1, f_X8_copyFrom 35 40 M))
set_option maxRecDepth 20000 in
theorem w_X11_undo (d : Nat) (hd : 2 ≤ d)  (M : HMem) : GX iX11_undo d eI (f_X11_undo  M) 0 [some (.inr (some 0))] [] M := by
  rw [f_X11_undo]
  refine gx_aload_n dX11_undo_0 rfl ?_
  refine gx_getI fl_X11_84 sh0 rfl dX11_undo_1 ?_
  refine gx_if_ne (tgt := 9) dX11_undo_4 (by decide) ?_ ?_
  · refine gx_aload_n dX11_undo_9 rfl ?_
    refine gx_getR fl_X11_74 sh0 rfl dX11_undo_10 ?_
    refine gx_aload_n dX11_undo_13 rfl ?_
    refine gx_getR fl_X11_78 sh0 rfl dX11_undo_14 ?_
    refine gx_cV_vt (av := [.inr (some 40)]) (st := []) ml_X11_194 (by omega) sh35 (c_X8_copyFrom (d - 1) (by omega) 35 (Or.inl rfl) 40 (Or.inr (Or.inl rfl)) M) rfl rfl (Nat.le_of_ble_eq_true rfl) dX11_undo_17 ?_
    refine gx_iconst (x := 1) (by decide) dX11_undo_20 ?_
    exact gx_zret rfl (by decide) rfl dX11_undo_21
  refine gx_iconst (x := 0) (by decide) dX11_undo_7 ?_
  exact gx_zret rfl (by decide) rfl dX11_undo_8
theorem c_X11_undo (d : Nat) (hd : 2 ≤ d)  (M : HMem) : MX iX11_undo d [.inr (some 0)] M eI (f_X11_undo  M) := mx_of (by decide +kernel) (Nat.le_of_ble_eq_true rfl) rfl (w_X11_undo d hd  M)
-- X11_check
def f_X11_check_J62 (n : Nat) (r27 : Int32 → Int32 → Option (Int32 × HMem)) (v1 : Int32) (v2 : Int32) (v3 : Int32) (s0 : Int32) (M : HMem) : Option (Int32 × HMem) :=
  hb1 (f_X10_byteAt v3 M) (fun x101 =>
  if x101 = s0 then
    (r27 v2 (v3 + 1))
  else
    (r27 v3 (v3 + 1)))
set_option maxRecDepth 20000 in
theorem w_X11_check_J62 (d : Nat) (hd : 3 ≤ d) (n : Nat) (r27 : Int32 → Int32 → Option (Int32 × HMem)) (M : HMem) (v1 : Int32) (v2 : Int32) (v3 : Int32) (s0 : Int32) (hr27 : ∀ (v2 : Int32) (v3 : Int32), GX iX11_check d eI (r27 v2 v3) 27 [some (.inr (some 0)), some (.inl v1), some (.inl v2), some (.inl v3), none] [] M) : GX iX11_check d eI (f_X11_check_J62 n r27 v1 v2 v3 s0 M) 62 [some (.inr (some 0)), some (.inl v1), some (.inl v2), some (.inl v3), none] [.inl s0] M := by
  rw [f_X11_check_J62]
  refine gx_istore (lv' := [some (.inr (some 0)), some (.inl v1), some (.inl v2), some (.inl v3), some (.inl s0)]) dX11_check_62 (by decide) rfl ?_
  refine gx_aload_n dX11_check_64 rfl ?_
  refine gx_getR fl_X11_10 sh0 rfl dX11_check_65 ?_
  refine gx_iload_n dX11_check_68 rfl ?_
  refine gx_cV_ip (av := [.inl v3]) (st := []) ml_X11_291 (by omega) sh1 (c_X10_byteAt (d - 1) (by omega) v3 M) rfl rfl (Nat.le_of_ble_eq_true rfl) dX11_check_69 (fun x101 => ?_)
  refine gx_iload dX11_check_72 rfl ?_
  refine gx_icmp_eq (tgt := 79) dX11_check_74 (by decide) ?_ ?_
  · refine gx_iinc (y := v3 + 1) (lv' := [some (.inr (some 0)), some (.inl v1), some (.inl v2), some (.inl (v3 + 1)), some (.inl s0)]) dX11_check_79 rfl rfl (by decide) rfl ?_
    refine gx_goto (tgt := 27) dX11_check_82 (by decide) ?_
    refine gx_mk (lv' := [some (.inr (some 0)), some (.inl v1), some (.inl v2), some (.inl (v3 + 1)), none]) [true, true, true, true, false] rfl ?_
    exact hr27 v2 (v3 + 1)
  refine gx_iload_n dX11_check_77 rfl ?_
  refine gx_istore_n (lv' := [some (.inr (some 0)), some (.inl v1), some (.inl v3), some (.inl v3), some (.inl s0)]) dX11_check_78 (by decide) rfl ?_
  refine gx_iinc (y := v3 + 1) (lv' := [some (.inr (some 0)), some (.inl v1), some (.inl v3), some (.inl (v3 + 1)), some (.inl s0)]) dX11_check_79 rfl rfl (by decide) rfl ?_
  refine gx_goto (tgt := 27) dX11_check_82 (by decide) ?_
  refine gx_mk (lv' := [some (.inr (some 0)), some (.inl v1), some (.inl v3), some (.inl (v3 + 1)), none]) [true, true, true, true, false] rfl ?_
  exact hr27 v3 (v3 + 1)
def f_X11_check_L27 (n : Nat) (v1 : Int32) (M : HMem) : Nat → Int32 → Int32 → Option (Int32 × HMem)
  | 0, _, _ => none
  | k + 1, v2, v3 =>
    if v1 ≤ v3 then
      (some (v2, f_X10_empty  M))
    else
      (if v2 = (-1) then
        (hb1 (f_X8_isTold 35 v3 M) (fun x101 =>
        if x101 = 0 then
          (f_X11_check_J62 n (f_X11_check_L27 n v1 M k) v1 v2 v3 255 M)
        else
          (hb1 (f_X8_faultsOf 35 v3 M) (fun x102 =>
          f_X11_check_J62 n (f_X11_check_L27 n v1 M k) v1 v2 v3 x102 M))))
      else
        (some (v2, f_X10_empty  M)))
set_option maxRecDepth 20000 in
theorem w_X11_check_L27 (d : Nat) (hd : 3 ≤ d) (n : Nat) (M : HMem) (v1 : Int32) : ∀ (k : Nat) (v2 : Int32) (v3 : Int32), GX iX11_check d eI (f_X11_check_L27 n v1 M k v2 v3) 27 [some (.inr (some 0)), some (.inl v1), some (.inl v2), some (.inl v3), none] [] M := by
  intro k
  induction k with
  | zero => intro v2 v3; exact gx_none
  | succ k ih =>
    intro v2 v3
    rw [f_X11_check_L27]
    refine gx_iload_n dX11_check_27 rfl ?_
    refine gx_iload_n dX11_check_28 rfl ?_
    refine gx_icmp_ge (tgt := 85) dX11_check_29 (by decide) ?_ ?_
    · refine gx_aload_n dX11_check_85 rfl ?_
      refine gx_getR fl_X11_10 sh0 rfl dX11_check_86 ?_
      refine gx_cV_vt (av := []) (st := []) ml_X11_130 (by omega) sh1 (c_X10_empty (d - 1) (by omega)  M) rfl rfl (Nat.le_of_ble_eq_true rfl) dX11_check_89 ?_
      refine gx_iload_n dX11_check_92 rfl ?_
      exact gx_iret rfl rfl dX11_check_93
    refine gx_iload_n dX11_check_32 rfl ?_
    refine gx_iconst (x := (-1)) (by decide) dX11_check_33 ?_
    refine gx_icmp_ne (tgt := 85) dX11_check_34 (by decide) ?_ ?_
    · refine gx_aload_n dX11_check_85 rfl ?_
      refine gx_getR fl_X11_10 sh0 rfl dX11_check_86 ?_
      refine gx_cV_vt (av := []) (st := []) ml_X11_130 (by omega) sh1 (c_X10_empty (d - 1) (by omega)  M) rfl rfl (Nat.le_of_ble_eq_true rfl) dX11_check_89 ?_
      refine gx_iload_n dX11_check_92 rfl ?_
      exact gx_iret rfl rfl dX11_check_93
    refine gx_aload_n dX11_check_37 rfl ?_
    refine gx_getR fl_X11_74 sh0 rfl dX11_check_38 ?_
    refine gx_iload_n dX11_check_41 rfl ?_
    refine gx_cV_ip (av := [.inl v3]) (st := []) ml_X11_205 (by omega) sh35 (c_X8_isTold (d - 1) (by omega) 35 (Or.inl rfl) v3 M) rfl rfl (Nat.le_of_ble_eq_true rfl) dX11_check_42 (fun x101 => ?_)
    refine gx_if_eq (tgt := 59) dX11_check_45 (by decide) ?_ ?_
    · refine gx_sipush (x := 255) (by decide) dX11_check_59 ?_
      refine gx_mk (lv' := [some (.inr (some 0)), some (.inl v1), some (.inl v2), some (.inl v3), none]) [true, true, true, true, false] rfl ?_
      exact w_X11_check_J62 d hd n (f_X11_check_L27 n v1 M k) M v1 v2 v3 255 ih
    refine gx_aload_n dX11_check_48 rfl ?_
    refine gx_getR fl_X11_74 sh0 rfl dX11_check_49 ?_
    refine gx_iload_n dX11_check_52 rfl ?_
    refine gx_cV_ip (av := [.inl v3]) (st := []) ml_X11_202 (by omega) sh35 (c_X8_faultsOf (d - 1) (by omega) 35 (Or.inl rfl) v3 M) rfl rfl (Nat.le_of_ble_eq_true rfl) dX11_check_53 (fun x102 => ?_)
    refine gx_goto (tgt := 62) dX11_check_56 (by decide) ?_
    refine gx_mk (lv' := [some (.inr (some 0)), some (.inl v1), some (.inl v2), some (.inl v3), none]) [true, true, true, true, false] rfl ?_
    exact w_X11_check_J62 d hd n (f_X11_check_L27 n v1 M k) M v1 v2 v3 x102 ih
def f_X11_check (n : Nat) (v1 : Int32) (M : HMem) : Option (Int32 × HMem) :=
  if (f_X11_isWithin v1 6) = 0 then
    (some ((-2), M))
  else
    (if (f_X10_has v1 M) = 0 then
      (some ((-2), M))
    else
      (f_X11_check_L27 n v1 M n (-1) 0))
set_option maxRecDepth 20000 in
theorem w_X11_check (d : Nat) (hd : 3 ≤ d) (n : Nat) (v1 : Int32) (M : HMem) : GX iX11_check d eI (f_X11_check n v1 M) 0 [some (.inr (some 0)), some (.inl v1), none, none, none] [] M := by
  rw [f_X11_check]
  refine gx_iload_n dX11_check_0 rfl ?_
  refine gx_bipush (x := 6) (by decide) dX11_check_1 ?_
  refine gx_cS_it (av := [.inl v1, .inl 6]) (st := []) ml_X11_88 (by omega) (c_X11_isWithin (d - 1) (by omega) v1 6 M) rfl rfl (Nat.le_of_ble_eq_true rfl) dX11_check_3 ?_
  refine gx_if_eq (tgt := 20) dX11_check_6 (by decide) ?_ ?_
  · refine gx_bipush (x := (-2)) (by decide) dX11_check_20 ?_
    exact gx_iret rfl rfl dX11_check_22
  refine gx_aload_n dX11_check_9 rfl ?_
  refine gx_getR fl_X11_10 sh0 rfl dX11_check_10 ?_
  refine gx_iload_n dX11_check_13 rfl ?_
  refine gx_cV_it (av := [.inl v1]) (st := []) ml_X11_288 (by omega) sh1 (c_X10_has (d - 1) (by omega) v1 M) rfl rfl (Nat.le_of_ble_eq_true rfl) dX11_check_14 ?_
  refine gx_if_ne (tgt := 23) dX11_check_17 (by decide) ?_ ?_
  · refine gx_iconst (x := (-1)) (by decide) dX11_check_23 ?_
    refine gx_istore_n (lv' := [some (.inr (some 0)), some (.inl v1), some (.inl (-1)), none, none]) dX11_check_24 (by decide) rfl ?_
    refine gx_iconst (x := 0) (by decide) dX11_check_25 ?_
    refine gx_istore_n (lv' := [some (.inr (some 0)), some (.inl v1), some (.inl (-1)), some (.inl 0), none]) dX11_check_26 (by decide) rfl ?_
    refine gx_mk (lv' := [some (.inr (some 0)), some (.inl v1), some (.inl (-1)), some (.inl 0), none]) [true, true, true, true, false] rfl ?_
    exact w_X11_check_L27 d hd n M v1 n (-1) 0
  refine gx_bipush (x := (-2)) (by decide) dX11_check_20 ?_
  exact gx_iret rfl rfl dX11_check_22
theorem c_X11_check (d : Nat) (hd : 3 ≤ d) (n : Nat) (v1 : Int32) (M : HMem) : MX iX11_check d [.inr (some 0), .inl v1] M eI (f_X11_check n v1 M) := mx_of (by decide +kernel) (Nat.le_of_ble_eq_true rfl) rfl (w_X11_check d hd n v1 M)
-- X11_count
def f_X11_count (n : Nat) (v1 : Int32) (M : HMem) : Option Int32 :=
  if v1 = 0 then
    (some (M 35 4))
  else if v1 = 1 then
    (hb1 (f_X8_toldBits n 35 M) (fun x101 =>
    some x101))
  else if v1 = 2 then
    (hb1 (f_X8_bitsOf n 35 0 M) (fun x102 =>
    some x102))
  else if v1 = 3 then
    (hb1 (f_X0_laidBits n  M) (fun x103 =>
    some x103))
  else if v1 = 4 then
    (some (M 3 2))
  else if v1 = 5 then
    (some (M 5 2))
  else if v1 = 6 then
    (some (M 23 3))
  else if v1 = 7 then
    (some (M 1 1))
  else if v1 = 8 then
    (some (M 35 5))
  else (some (-1))
set_option maxRecDepth 20000 in
theorem w_X11_count (d : Nat) (hd : 4 ≤ d) (n : Nat) (v1 : Int32) (M : HMem) : GX iX11_count d (eP M) (f_X11_count n v1 M) 0 [some (.inr (some 0)), some (.inl v1)] [] M := by
  rw [f_X11_count]
  refine gx_iload_n dX11_count_0 rfl ?_
  refine gx_swT (k := 0) (kI := 0) (off := 51) (tgt := 52) (by decide) dX11_count_1 (by decide) (by decide) rfl (by decide) ?_ (fun q1_0 => ?_)
  · refine gx_aload_n dX11_count_52 rfl ?_
    refine gx_getR fl_X11_74 sh0 rfl dX11_count_53 ?_
    refine gx_getI fl_X11_107 sh35 rfl dX11_count_56 ?_
    exact gx_iret rfl rfl dX11_count_59
  refine gx_swT (k := 1) (kI := 1) (off := 59) (tgt := 60) (by decide) dX11_count_1 (by decide) (by decide) rfl (by decide) ?_ (fun q1_1 => ?_)
  · refine gx_aload_n dX11_count_60 rfl ?_
    refine gx_getR fl_X11_74 sh0 rfl dX11_count_61 ?_
    refine gx_cV_ip (av := []) (st := []) ml_X11_326 (by omega) sh35 (c_X8_toldBits (d - 1) (by omega) n 35 (Or.inl rfl) M) rfl rfl (Nat.le_of_ble_eq_true rfl) dX11_count_64 (fun x101 => ?_)
    exact gx_iret rfl rfl dX11_count_67
  refine gx_swT (k := 2) (kI := 2) (off := 67) (tgt := 68) (by decide) dX11_count_1 (by decide) (by decide) rfl (by decide) ?_ (fun q1_2 => ?_)
  · refine gx_aload_n dX11_count_68 rfl ?_
    refine gx_getR fl_X11_74 sh0 rfl dX11_count_69 ?_
    refine gx_iconst (x := 0) (by decide) dX11_count_72 ?_
    refine gx_cV_ip (av := [.inl 0]) (st := []) ml_X11_182 (by omega) sh35 (c_X8_bitsOf (d - 1) (by omega) n 35 (Or.inl rfl) 0 M) rfl rfl (Nat.le_of_ble_eq_true rfl) dX11_count_73 (fun x102 => ?_)
    exact gx_iret rfl rfl dX11_count_76
  refine gx_swT (k := 3) (kI := 3) (off := 76) (tgt := 77) (by decide) dX11_count_1 (by decide) (by decide) rfl (by decide) ?_ (fun q1_3 => ?_)
  · refine gx_aload_n dX11_count_77 rfl ?_
    refine gx_getR fl_X11_19 sh0 rfl dX11_count_78 ?_
    refine gx_cV_ip (av := []) (st := []) ml_X11_329 (by omega) sh3 (c_X0_laidBits (d - 1) (by omega) n  M) rfl rfl (Nat.le_of_ble_eq_true rfl) dX11_count_81 (fun x103 => ?_)
    exact gx_iret rfl rfl dX11_count_84
  refine gx_swT (k := 4) (kI := 4) (off := 84) (tgt := 85) (by decide) dX11_count_1 (by decide) (by decide) rfl (by decide) ?_ (fun q1_4 => ?_)
  · refine gx_aload_n dX11_count_85 rfl ?_
    refine gx_getR fl_X11_19 sh0 rfl dX11_count_86 ?_
    refine gx_getI fl_X11_103 sh3 rfl dX11_count_89 ?_
    exact gx_iret rfl rfl dX11_count_92
  refine gx_swT (k := 5) (kI := 5) (off := 92) (tgt := 93) (by decide) dX11_count_1 (by decide) (by decide) rfl (by decide) ?_ (fun q1_5 => ?_)
  · refine gx_aload_n dX11_count_93 rfl ?_
    refine gx_getR fl_X11_19 sh0 rfl dX11_count_94 ?_
    refine gx_getR fl_X11_166 sh3 rfl dX11_count_97 ?_
    refine gx_getI fl_X11_177 sh5 rfl dX11_count_100 ?_
    exact gx_iret rfl rfl dX11_count_103
  refine gx_swT (k := 6) (kI := 6) (off := 103) (tgt := 104) (by decide) dX11_count_1 (by decide) (by decide) rfl (by decide) ?_ (fun q1_6 => ?_)
  · refine gx_aload_n dX11_count_104 rfl ?_
    refine gx_getR fl_X11_49 sh0 rfl dX11_count_105 ?_
    refine gx_getI fl_X11_148 sh23 rfl dX11_count_108 ?_
    exact gx_iret rfl rfl dX11_count_111
  refine gx_swT (k := 7) (kI := 7) (off := 111) (tgt := 112) (by decide) dX11_count_1 (by decide) (by decide) rfl (by decide) ?_ (fun q1_7 => ?_)
  · refine gx_aload_n dX11_count_112 rfl ?_
    refine gx_getR fl_X11_10 sh0 rfl dX11_count_113 ?_
    refine gx_getI fl_X11_118 sh1 rfl dX11_count_116 ?_
    exact gx_iret rfl rfl dX11_count_119
  refine gx_swT (k := 8) (kI := 8) (off := 119) (tgt := 120) (by decide) dX11_count_1 (by decide) (by decide) rfl (by decide) ?_ (fun q1_8 => ?_)
  · refine gx_aload_n dX11_count_120 rfl ?_
    refine gx_getR fl_X11_74 sh0 rfl dX11_count_121 ?_
    refine gx_getI fl_X11_323 sh35 rfl dX11_count_124 ?_
    exact gx_iret rfl rfl dX11_count_127
  refine gx_swTd (tgt := 128) dX11_count_1 (by have := lv_neT q1_0 (a := 0) (by decide); have := lv_neT q1_1 (a := 1) (by decide); have := lv_neT q1_2 (a := 2) (by decide); have := lv_neT q1_3 (a := 3) (by decide); have := lv_neT q1_4 (a := 4) (by decide); have := lv_neT q1_5 (a := 5) (by decide); have := lv_neT q1_6 (a := 6) (by decide); have := lv_neT q1_7 (a := 7) (by decide); have := lv_neT q1_8 (a := 8) (by decide); omega) (by decide) ?_
  refine gx_iconst (x := (-1)) (by decide) dX11_count_128 ?_
  exact gx_iret rfl rfl dX11_count_129
theorem c_X11_count (d : Nat) (hd : 4 ≤ d) (n : Nat) (v1 : Int32) (M : HMem) : MX iX11_count d [.inr (some 0), .inl v1] M (eP M) (f_X11_count n v1 M) := mx_of (by decide +kernel) (Nat.le_of_ble_eq_true rfl) rfl (w_X11_count d hd n v1 M)
-- X12_in
def f_X12_in (v0 : Int32) (v1 : Int32) (v2 : Int32) : Int32 :=
  if v0 < v1 then
    (0)
  else
    (if v2 < v0 then
      (0)
    else
      (1))
set_option maxRecDepth 20000 in
theorem w_X12_in (d : Nat) (hd : 0 ≤ d) (v0 : Int32) (v1 : Int32) (v2 : Int32) (M : HMem) : GX iX12_in d (eP M) (some (f_X12_in v0 v1 v2)) 0 [some (.inl v0), some (.inl v1), some (.inl v2)] [] M := by
  rw [f_X12_in]
  refine gx_iload_n dX12_in_0 rfl ?_
  refine gx_iload_n dX12_in_1 rfl ?_
  refine gxt_icmp_lt (tgt := 14) dX12_in_2 (by decide) ?_ ?_
  · refine gx_iconst (x := 0) (by decide) dX12_in_14 ?_
    exact gx_zret rfl (by decide) rfl dX12_in_15
  refine gx_iload_n dX12_in_5 rfl ?_
  refine gx_iload_n dX12_in_6 rfl ?_
  refine gxt_icmp_gt (tgt := 14) dX12_in_7 (by decide) ?_ ?_
  · refine gx_iconst (x := 0) (by decide) dX12_in_14 ?_
    exact gx_zret rfl (by decide) rfl dX12_in_15
  refine gx_iconst (x := 1) (by decide) dX12_in_10 ?_
  refine gx_goto (tgt := 15) dX12_in_11 (by decide) ?_
  exact gx_zret rfl (by decide) rfl dX12_in_15
theorem c_X12_in (d : Nat) (hd : 0 ≤ d) (v0 : Int32) (v1 : Int32) (v2 : Int32) (M : HMem) : MX iX12_in d [.inl v0, .inl v1, .inl v2] M (eP M) (some (f_X12_in v0 v1 v2)) := mx_of (by decide +kernel) (Nat.le_of_ble_eq_true rfl) rfl (w_X12_in d hd v0 v1 v2 M)
-- X12_max
def f_X12_max (v0 : Int32) (v1 : Int32) : Int32 :=
  if v0 ≤ v1 then
    (v1)
  else
    (v0)
set_option maxRecDepth 20000 in
theorem w_X12_max (d : Nat) (hd : 0 ≤ d) (v0 : Int32) (v1 : Int32) (M : HMem) : GX iX12_max d (eP M) (some (f_X12_max v0 v1)) 0 [some (.inl v0), some (.inl v1)] [] M := by
  rw [f_X12_max]
  refine gx_iload_n dX12_max_0 rfl ?_
  refine gx_iload_n dX12_max_1 rfl ?_
  refine gxt_icmp_le (tgt := 9) dX12_max_2 (by decide) ?_ ?_
  · refine gx_iload_n dX12_max_9 rfl ?_
    exact gx_iret rfl rfl dX12_max_10
  refine gx_iload_n dX12_max_5 rfl ?_
  refine gx_goto (tgt := 10) dX12_max_6 (by decide) ?_
  exact gx_iret rfl rfl dX12_max_10
theorem c_X12_max (d : Nat) (hd : 0 ≤ d) (v0 : Int32) (v1 : Int32) (M : HMem) : MX iX12_max d [.inl v0, .inl v1] M (eP M) (some (f_X12_max v0 v1)) := mx_of (by decide +kernel) (Nat.le_of_ble_eq_true rfl) rfl (w_X12_max d hd v0 v1 M)
-- X12_size
def f_X12_size (v0 : Int32) : Int32 :=
  if 0 ≤ v0 then
    (v0)
  else
    ((-v0))
set_option maxRecDepth 20000 in
theorem w_X12_size (d : Nat) (hd : 0 ≤ d) (v0 : Int32) (M : HMem) : GX iX12_size d (eP M) (some (f_X12_size v0)) 0 [some (.inl v0)] [] M := by
  rw [f_X12_size]
  refine gx_iload_n dX12_size_0 rfl ?_
  refine gxt_if_ge (tgt := 9) dX12_size_1 (by decide) ?_ ?_
  · refine gx_iload_n dX12_size_9 rfl ?_
    exact gx_iret rfl rfl dX12_size_10
  refine gx_iload_n dX12_size_4 rfl ?_
  refine gx_ineg dX12_size_5 ?_
  refine gx_goto (tgt := 10) dX12_size_6 (by decide) ?_
  exact gx_iret rfl rfl dX12_size_10
theorem c_X12_size (d : Nat) (hd : 0 ≤ d) (v0 : Int32) (M : HMem) : MX iX12_size d [.inl v0] M (eP M) (some (f_X12_size v0)) := mx_of (by decide +kernel) (Nat.le_of_ble_eq_true rfl) rfl (w_X12_size d hd v0 M)
-- X12_has
def f_X12_has (v0 : Int32) (v1 : Int32) : Int32 :=
  if ((v0 >>> (v1 &&& 31)) &&& 1) = 1 then
    (1)
  else
    (0)
set_option maxRecDepth 20000 in
theorem w_X12_has (d : Nat) (hd : 0 ≤ d) (v0 : Int32) (v1 : Int32) (M : HMem) : GX iX12_has d (eP M) (some (f_X12_has v0 v1)) 0 [some (.inl v0), some (.inl v1)] [] M := by
  rw [f_X12_has]
  refine gx_iload_n dX12_has_0 rfl ?_
  refine gx_iload_n dX12_has_1 rfl ?_
  refine gx_ishr dX12_has_2 ?_
  refine gx_iconst (x := 1) (by decide) dX12_has_3 ?_
  refine gx_iand dX12_has_4 ?_
  refine gx_iconst (x := 1) (by decide) dX12_has_5 ?_
  refine gxt_icmp_ne (tgt := 13) dX12_has_6 (by decide) ?_ ?_
  · refine gx_iconst (x := 0) (by decide) dX12_has_13 ?_
    exact gx_zret rfl (by decide) rfl dX12_has_14
  refine gx_iconst (x := 1) (by decide) dX12_has_9 ?_
  refine gx_goto (tgt := 14) dX12_has_10 (by decide) ?_
  exact gx_zret rfl (by decide) rfl dX12_has_14
theorem c_X12_has (d : Nat) (hd : 0 ≤ d) (v0 : Int32) (v1 : Int32) (M : HMem) : MX iX12_has d [.inl v0, .inl v1] M (eP M) (some (f_X12_has v0 v1)) := mx_of (by decide +kernel) (Nat.le_of_ble_eq_true rfl) rfl (w_X12_has d hd v0 v1 M)
-- X12_bits
def f_X12_bits_L4 (n : Nat) (v0 : Int32) : Nat → Int32 → Int32 → Option Int32
  | 0, _, _ => none
  | k + 1, v1, v2 =>
    if 8 ≤ v2 then
      (some v1)
    else
      (f_X12_bits_L4 n v0 k (v1 + ((v0 >>> (v2 &&& 31)) &&& 1)) (v2 + 1))
set_option maxRecDepth 20000 in
theorem w_X12_bits_L4 (d : Nat) (hd : 0 ≤ d) (n : Nat) (v0 : Int32) : ∀ (k : Nat) (v1 : Int32) (v2 : Int32) (M : HMem), GX iX12_bits d (eP M) (f_X12_bits_L4 n v0 k v1 v2) 4 [some (.inl v0), some (.inl v1), some (.inl v2)] [] M := by
  intro k
  induction k with
  | zero => intro v1 v2 M; exact gx_none
  | succ k ih =>
    intro v1 v2 M
    rw [f_X12_bits_L4]
    refine gx_iload_n dX12_bits_4 rfl ?_
    refine gx_bipush (x := 8) (by decide) dX12_bits_5 ?_
    refine gx_icmp_ge (tgt := 24) dX12_bits_7 (by decide) ?_ ?_
    · refine gx_iload_n dX12_bits_24 rfl ?_
      exact gx_iret rfl rfl dX12_bits_25
    refine gx_iload_n dX12_bits_10 rfl ?_
    refine gx_iload_n dX12_bits_11 rfl ?_
    refine gx_iload_n dX12_bits_12 rfl ?_
    refine gx_ishr dX12_bits_13 ?_
    refine gx_iconst (x := 1) (by decide) dX12_bits_14 ?_
    refine gx_iand dX12_bits_15 ?_
    refine gx_iadd dX12_bits_16 ?_
    refine gx_istore_n (lv' := [some (.inl v0), some (.inl (v1 + ((v0 >>> (v2 &&& 31)) &&& 1))), some (.inl v2)]) dX12_bits_17 (by decide) rfl ?_
    refine gx_iinc (y := v2 + 1) (lv' := [some (.inl v0), some (.inl (v1 + ((v0 >>> (v2 &&& 31)) &&& 1))), some (.inl (v2 + 1))]) dX12_bits_18 rfl rfl (by decide) rfl ?_
    refine gx_goto (tgt := 4) dX12_bits_21 (by decide) ?_
    refine gx_mk (lv' := [some (.inl v0), some (.inl (v1 + ((v0 >>> (v2 &&& 31)) &&& 1))), some (.inl (v2 + 1))]) [true, true, true] rfl ?_
    exact ih (v1 + ((v0 >>> (v2 &&& 31)) &&& 1)) (v2 + 1) M
def f_X12_bits (n : Nat) (v0 : Int32) : Option Int32 :=
  f_X12_bits_L4 n v0 n 0 0
set_option maxRecDepth 20000 in
theorem w_X12_bits (d : Nat) (hd : 0 ≤ d) (n : Nat) (v0 : Int32) (M : HMem) : GX iX12_bits d (eP M) (f_X12_bits n v0) 0 [some (.inl v0), none, none] [] M := by
  rw [f_X12_bits]
  refine gx_iconst (x := 0) (by decide) dX12_bits_0 ?_
  refine gx_istore_n (lv' := [some (.inl v0), some (.inl 0), none]) dX12_bits_1 (by decide) rfl ?_
  refine gx_iconst (x := 0) (by decide) dX12_bits_2 ?_
  refine gx_istore_n (lv' := [some (.inl v0), some (.inl 0), some (.inl 0)]) dX12_bits_3 (by decide) rfl ?_
  refine gx_mk (lv' := [some (.inl v0), some (.inl 0), some (.inl 0)]) [true, true, true] rfl ?_
  exact w_X12_bits_L4 d hd n v0 n 0 0 M
theorem c_X12_bits (d : Nat) (hd : 0 ≤ d) (n : Nat) (v0 : Int32) (M : HMem) : MX iX12_bits d [.inl v0] M (eP M) (f_X12_bits n v0) := mx_of (by decide +kernel) (Nat.le_of_ble_eq_true rfl) rfl (w_X12_bits d hd n v0 M)
-- X12_copies
def f_X12_copies_L2 (n : Nat) (k0 l0 : Nat) (k1 l1 : Nat) : Nat → Int32 → HMem → Option HMem
  | 0, _, _ => none
  | k + 1, v2, M =>
    if 32 ≤ v2 then
      (some M)
    else
      (if hib v2 l0 then
      if hib v2 l1 then
      f_X12_copies_L2 n k0 l0 k1 l1 k (v2 + 1) (hset M k1 (Int32.toNatClampNeg v2) (M k0 (Int32.toNatClampNeg v2)))
      else none
      else none)
set_option maxRecDepth 20000 in
theorem w_X12_copies_L2 (d : Nat) (hd : 0 ≤ d) (n : Nat) (k0 l0 : Nat) (e0 : hshp[k0]? = some (.inr (.inl (0, l0)))) (k1 l1 : Nat) (e1 : hshp[k1]? = some (.inr (.inl (0, l1)))) : ∀ (k : Nat) (v2 : Int32) (M : HMem), GX iX12_copies d eV (f_X12_copies_L2 n k0 l0 k1 l1 k v2 M) 2 [some (.inr (some k0)), some (.inr (some k1)), some (.inl v2)] [] M := by
  intro k
  induction k with
  | zero => intro v2 M; exact gx_none
  | succ k ih =>
    intro v2 M
    rw [f_X12_copies_L2]
    refine gx_iload_n dX12_copies_2 rfl ?_
    refine gx_bipush (x := 32) (by decide) dX12_copies_3 ?_
    refine gx_icmp_ge (tgt := 20) dX12_copies_5 (by decide) ?_ ?_
    · exact gx_vret rfl rfl dX12_copies_20
    refine gx_aload_n dX12_copies_8 rfl ?_
    refine gx_iload_n dX12_copies_9 rfl ?_
    refine gx_aload_n dX12_copies_10 rfl ?_
    refine gx_iload_n dX12_copies_11 rfl ?_
    refine gx_iaload e0 dX12_copies_12 ?_
    refine gx_iastore e1 dX12_copies_13 ?_
    refine gx_iinc (y := v2 + 1) (lv' := [some (.inr (some k0)), some (.inr (some k1)), some (.inl (v2 + 1))]) dX12_copies_14 rfl rfl (by decide) rfl ?_
    refine gx_goto (tgt := 2) dX12_copies_17 (by decide) ?_
    refine gx_mk (lv' := [some (.inr (some k0)), some (.inr (some k1)), some (.inl (v2 + 1))]) [true, true, true] rfl ?_
    exact ih (v2 + 1) (hset M k1 (Int32.toNatClampNeg v2) (M k0 (Int32.toNatClampNeg v2)))
def f_X12_copies (n : Nat) (k0 l0 : Nat) (k1 l1 : Nat) (M : HMem) : Option HMem :=
  f_X12_copies_L2 n k0 l0 k1 l1 n 0 M
set_option maxRecDepth 20000 in
theorem w_X12_copies (d : Nat) (hd : 0 ≤ d) (n : Nat) (k0 l0 : Nat) (e0 : hshp[k0]? = some (.inr (.inl (0, l0)))) (k1 l1 : Nat) (e1 : hshp[k1]? = some (.inr (.inl (0, l1)))) (M : HMem) : GX iX12_copies d eV (f_X12_copies n k0 l0 k1 l1 M) 0 [some (.inr (some k0)), some (.inr (some k1)), none] [] M := by
  rw [f_X12_copies]
  refine gx_iconst (x := 0) (by decide) dX12_copies_0 ?_
  refine gx_istore_n (lv' := [some (.inr (some k0)), some (.inr (some k1)), some (.inl 0)]) dX12_copies_1 (by decide) rfl ?_
  refine gx_mk (lv' := [some (.inr (some k0)), some (.inr (some k1)), some (.inl 0)]) [true, true, true] rfl ?_
  exact w_X12_copies_L2 d hd n k0 l0 e0 k1 l1 e1 n 0 M
theorem c_X12_copies (d : Nat) (hd : 0 ≤ d) (n : Nat) (k0 l0 : Nat) (e0 : hshp[k0]? = some (.inr (.inl (0, l0)))) (k1 l1 : Nat) (e1 : hshp[k1]? = some (.inr (.inl (0, l1)))) (M : HMem) : MX iX12_copies d [.inr (some k0), .inr (some k1)] M eV (f_X12_copies n k0 l0 k1 l1 M) := mx_of (by decide +kernel) (Nat.le_of_ble_eq_true rfl) rfl (w_X12_copies d hd n k0 l0 e0 k1 l1 e1 M)
-- X12_isPlace
def f_X12_isPlace (v0 : Int32) (v1 : Int32) : Int32 :=
  if (f_X12_in v0 0 15) = 0 then
    (0)
  else
    (if (f_X12_in v1 0 11) = 0 then
      (0)
    else
      (1))
set_option maxRecDepth 20000 in
theorem w_X12_isPlace (d : Nat) (hd : 1 ≤ d) (v0 : Int32) (v1 : Int32) (M : HMem) : GX iX12_isPlace d (eP M) (some (f_X12_isPlace v0 v1)) 0 [some (.inl v0), some (.inl v1)] [] M := by
  rw [f_X12_isPlace]
  refine gx_iload_n dX12_isPlace_0 rfl ?_
  refine gx_iconst (x := 0) (by decide) dX12_isPlace_1 ?_
  refine gx_bipush (x := 15) (by decide) dX12_isPlace_2 ?_
  refine gx_cS_it (av := [.inl v0, .inl 0, .inl 15]) (st := []) ml_X12_118 (by omega) (c_X12_in (d - 1) (by omega) v0 0 15 M) rfl rfl (Nat.le_of_ble_eq_true rfl) dX12_isPlace_4 ?_
  refine gxt_if_eq (tgt := 24) dX12_isPlace_7 (by decide) ?_ ?_
  · refine gx_iconst (x := 0) (by decide) dX12_isPlace_24 ?_
    exact gx_zret rfl (by decide) rfl dX12_isPlace_25
  refine gx_iload_n dX12_isPlace_10 rfl ?_
  refine gx_iconst (x := 0) (by decide) dX12_isPlace_11 ?_
  refine gx_bipush (x := 11) (by decide) dX12_isPlace_12 ?_
  refine gx_cS_it (av := [.inl v1, .inl 0, .inl 11]) (st := []) ml_X12_118 (by omega) (c_X12_in (d - 1) (by omega) v1 0 11 M) rfl rfl (Nat.le_of_ble_eq_true rfl) dX12_isPlace_14 ?_
  refine gxt_if_eq (tgt := 24) dX12_isPlace_17 (by decide) ?_ ?_
  · refine gx_iconst (x := 0) (by decide) dX12_isPlace_24 ?_
    exact gx_zret rfl (by decide) rfl dX12_isPlace_25
  refine gx_iconst (x := 1) (by decide) dX12_isPlace_20 ?_
  refine gx_goto (tgt := 25) dX12_isPlace_21 (by decide) ?_
  exact gx_zret rfl (by decide) rfl dX12_isPlace_25
theorem c_X12_isPlace (d : Nat) (hd : 1 ≤ d) (v0 : Int32) (v1 : Int32) (M : HMem) : MX iX12_isPlace d [.inl v0, .inl v1] M (eP M) (some (f_X12_isPlace v0 v1)) := mx_of (by decide +kernel) (Nat.le_of_ble_eq_true rfl) rfl (w_X12_isPlace d hd v0 v1 M)
-- X12_isHound
def f_X12_isHound (v1 : Int32) (M : HMem) : Option Int32 :=
  if (f_X12_in v1 0 5) = 0 then
    (some 0)
  else
    (if hib (0 + v1) 32 then
    if (M 75 (Int32.toNatClampNeg (0 + v1))) = 1 then
      (some 1)
    else
      (some 0)
    else none)
set_option maxRecDepth 20000 in
theorem w_X12_isHound (d : Nat) (hd : 1 ≤ d) (v1 : Int32) (M : HMem) : GX iX12_isHound d (eP M) (f_X12_isHound v1 M) 0 [some (.inr (some 74)), some (.inl v1)] [] M := by
  rw [f_X12_isHound]
  refine gx_iload_n dX12_isHound_0 rfl ?_
  refine gx_iconst (x := 0) (by decide) dX12_isHound_1 ?_
  refine gx_iconst (x := 5) (by decide) dX12_isHound_2 ?_
  refine gx_cS_it (av := [.inl v1, .inl 0, .inl 5]) (st := []) ml_X12_118 (by omega) (c_X12_in (d - 1) (by omega) v1 0 5 M) rfl rfl (Nat.le_of_ble_eq_true rfl) dX12_isHound_3 ?_
  refine gx_if_eq (tgt := 25) dX12_isHound_6 (by decide) ?_ ?_
  · refine gx_iconst (x := 0) (by decide) dX12_isHound_25 ?_
    exact gx_zret rfl (by decide) rfl dX12_isHound_26
  refine gx_aload_n dX12_isHound_9 rfl ?_
  refine gx_getR fl_X12_7 sh74 rfl dX12_isHound_10 ?_
  refine gx_iconst (x := 0) (by decide) dX12_isHound_13 ?_
  refine gx_iload_n dX12_isHound_14 rfl ?_
  refine gx_iadd dX12_isHound_15 ?_
  refine gx_iaload sh75 dX12_isHound_16 ?_
  refine gx_iconst (x := 1) (by decide) dX12_isHound_17 ?_
  refine gx_icmp_ne (tgt := 25) dX12_isHound_18 (by decide) ?_ ?_
  · refine gx_iconst (x := 0) (by decide) dX12_isHound_25 ?_
    exact gx_zret rfl (by decide) rfl dX12_isHound_26
  refine gx_iconst (x := 1) (by decide) dX12_isHound_21 ?_
  refine gx_goto (tgt := 26) dX12_isHound_22 (by decide) ?_
  exact gx_zret rfl (by decide) rfl dX12_isHound_26
theorem c_X12_isHound (d : Nat) (hd : 1 ≤ d) (v1 : Int32) (M : HMem) : MX iX12_isHound d [.inr (some 74), .inl v1] M (eP M) (f_X12_isHound v1 M) := mx_of (by decide +kernel) (Nat.le_of_ble_eq_true rfl) rfl (w_X12_isHound d hd v1 M)
-- X12_hasLine
def f_X12_hasLine (v1 : Int32) (M : HMem) : Option Int32 :=
  if (f_X12_in v1 0 7) = 0 then
    (some 0)
  else
    (if hib v1 8 then
    if (M 78 (Int32.toNatClampNeg v1)) ≤ 0 then
      (some 0)
    else
      (some 1)
    else none)
set_option maxRecDepth 20000 in
theorem w_X12_hasLine (d : Nat) (hd : 1 ≤ d) (v1 : Int32) (M : HMem) : GX iX12_hasLine d (eP M) (f_X12_hasLine v1 M) 0 [some (.inr (some 74)), some (.inl v1)] [] M := by
  rw [f_X12_hasLine]
  refine gx_iload_n dX12_hasLine_0 rfl ?_
  refine gx_iconst (x := 0) (by decide) dX12_hasLine_1 ?_
  refine gx_bipush (x := 7) (by decide) dX12_hasLine_2 ?_
  refine gx_cS_it (av := [.inl v1, .inl 0, .inl 7]) (st := []) ml_X12_118 (by omega) (c_X12_in (d - 1) (by omega) v1 0 7 M) rfl rfl (Nat.le_of_ble_eq_true rfl) dX12_hasLine_4 ?_
  refine gx_if_eq (tgt := 23) dX12_hasLine_7 (by decide) ?_ ?_
  · refine gx_iconst (x := 0) (by decide) dX12_hasLine_23 ?_
    exact gx_zret rfl (by decide) rfl dX12_hasLine_24
  refine gx_aload_n dX12_hasLine_10 rfl ?_
  refine gx_getR fl_X12_19 sh74 rfl dX12_hasLine_11 ?_
  refine gx_iload_n dX12_hasLine_14 rfl ?_
  refine gx_iaload sh78 dX12_hasLine_15 ?_
  refine gx_if_le (tgt := 23) dX12_hasLine_16 (by decide) ?_ ?_
  · refine gx_iconst (x := 0) (by decide) dX12_hasLine_23 ?_
    exact gx_zret rfl (by decide) rfl dX12_hasLine_24
  refine gx_iconst (x := 1) (by decide) dX12_hasLine_19 ?_
  refine gx_goto (tgt := 24) dX12_hasLine_20 (by decide) ?_
  exact gx_zret rfl (by decide) rfl dX12_hasLine_24
theorem c_X12_hasLine (d : Nat) (hd : 1 ≤ d) (v1 : Int32) (M : HMem) : MX iX12_hasLine d [.inr (some 74), .inl v1] M (eP M) (f_X12_hasLine v1 M) := mx_of (by decide +kernel) (Nat.le_of_ble_eq_true rfl) rfl (w_X12_hasLine d hd v1 M)
-- X12_areTwo
def f_X12_areTwo (v1 : Int32) (v2 : Int32) (M : HMem) : Option Int32 :=
  hb1 (f_X12_hasLine v1 M) (fun x101 =>
  if x101 = 0 then
    (some 0)
  else
    (hb1 (f_X12_hasLine v2 M) (fun x102 =>
    if x102 = 0 then
      (some 0)
    else
      (if v1 = v2 then
        (some 0)
      else
        (some 1)))))
set_option maxRecDepth 20000 in
theorem w_X12_areTwo (d : Nat) (hd : 2 ≤ d) (v1 : Int32) (v2 : Int32) (M : HMem) : GX iX12_areTwo d (eP M) (f_X12_areTwo v1 v2 M) 0 [some (.inr (some 74)), some (.inl v1), some (.inl v2)] [] M := by
  rw [f_X12_areTwo]
  refine gx_aload_n dX12_areTwo_0 rfl ?_
  refine gx_iload_n dX12_areTwo_1 rfl ?_
  refine gx_cV_ip (av := [.inl v1]) (st := []) ml_X12_122 (by omega) sh74 (c_X12_hasLine (d - 1) (by omega) v1 M) rfl rfl (Nat.le_of_ble_eq_true rfl) dX12_areTwo_2 (fun x101 => ?_)
  refine gx_if_eq (tgt := 25) dX12_areTwo_5 (by decide) ?_ ?_
  · refine gx_iconst (x := 0) (by decide) dX12_areTwo_25 ?_
    exact gx_zret rfl (by decide) rfl dX12_areTwo_26
  refine gx_aload_n dX12_areTwo_8 rfl ?_
  refine gx_iload_n dX12_areTwo_9 rfl ?_
  refine gx_cV_ip (av := [.inl v2]) (st := []) ml_X12_122 (by omega) sh74 (c_X12_hasLine (d - 1) (by omega) v2 M) rfl rfl (Nat.le_of_ble_eq_true rfl) dX12_areTwo_10 (fun x102 => ?_)
  refine gx_if_eq (tgt := 25) dX12_areTwo_13 (by decide) ?_ ?_
  · refine gx_iconst (x := 0) (by decide) dX12_areTwo_25 ?_
    exact gx_zret rfl (by decide) rfl dX12_areTwo_26
  refine gx_iload_n dX12_areTwo_16 rfl ?_
  refine gx_iload_n dX12_areTwo_17 rfl ?_
  refine gx_icmp_eq (tgt := 25) dX12_areTwo_18 (by decide) ?_ ?_
  · refine gx_iconst (x := 0) (by decide) dX12_areTwo_25 ?_
    exact gx_zret rfl (by decide) rfl dX12_areTwo_26
  refine gx_iconst (x := 1) (by decide) dX12_areTwo_21 ?_
  refine gx_goto (tgt := 26) dX12_areTwo_22 (by decide) ?_
  exact gx_zret rfl (by decide) rfl dX12_areTwo_26
theorem c_X12_areTwo (d : Nat) (hd : 2 ≤ d) (v1 : Int32) (v2 : Int32) (M : HMem) : MX iX12_areTwo d [.inr (some 74), .inl v1, .inl v2] M (eP M) (f_X12_areTwo v1 v2 M) := mx_of (by decide +kernel) (Nat.le_of_ble_eq_true rfl) rfl (w_X12_areTwo d hd v1 v2 M)
-- X12_hound
def f_X12_hound (v1 : Int32) (v2 : Int32) (v3 : Int32) (M : HMem) : Option (Int32 × HMem) :=
  if (f_X12_in v1 0 5) = 0 then
    (some (0, M))
  else
    (if (f_X12_isPlace v2 v3) = 0 then
      (some (0, M))
    else
      (if hib (0 + v1) 32 then
      if hib (6 + v1) 32 then
      if hib (12 + v1) 32 then
      if hib (18 + v1) 32 then
      if hib (24 + v1) 32 then
      some (1, hset (hset (hset (hset (hset M 75 (Int32.toNatClampNeg (0 + v1)) 1) 75 (Int32.toNatClampNeg (6 + v1)) ((16 * v3) + v2)) 75 (Int32.toNatClampNeg (12 + v1)) 10000) 75 (Int32.toNatClampNeg (18 + v1)) 0) 75 (Int32.toNatClampNeg (24 + v1)) 0)
      else none
      else none
      else none
      else none
      else none))
set_option maxRecDepth 20000 in
theorem w_X12_hound (d : Nat) (hd : 2 ≤ d) (v1 : Int32) (v2 : Int32) (v3 : Int32) (M : HMem) : GX iX12_hound d eI (f_X12_hound v1 v2 v3 M) 0 [some (.inr (some 74)), some (.inl v1), some (.inl v2), some (.inl v3)] [] M := by
  rw [f_X12_hound]
  refine gx_iload_n dX12_hound_0 rfl ?_
  refine gx_iconst (x := 0) (by decide) dX12_hound_1 ?_
  refine gx_iconst (x := 5) (by decide) dX12_hound_2 ?_
  refine gx_cS_it (av := [.inl v1, .inl 0, .inl 5]) (st := []) ml_X12_118 (by omega) (c_X12_in (d - 1) (by omega) v1 0 5 M) rfl rfl (Nat.le_of_ble_eq_true rfl) dX12_hound_3 ?_
  refine gx_if_eq (tgt := 17) dX12_hound_6 (by decide) ?_ ?_
  · refine gx_iconst (x := 0) (by decide) dX12_hound_17 ?_
    exact gx_zret rfl (by decide) rfl dX12_hound_18
  refine gx_iload_n dX12_hound_9 rfl ?_
  refine gx_iload_n dX12_hound_10 rfl ?_
  refine gx_cS_it (av := [.inl v2, .inl v3]) (st := []) ml_X12_126 (by omega) (c_X12_isPlace (d - 1) (by omega) v2 v3 M) rfl rfl (Nat.le_of_ble_eq_true rfl) dX12_hound_11 ?_
  refine gx_if_ne (tgt := 19) dX12_hound_14 (by decide) ?_ ?_
  · refine gx_aload_n dX12_hound_19 rfl ?_
    refine gx_getR fl_X12_7 sh74 rfl dX12_hound_20 ?_
    refine gx_iconst (x := 0) (by decide) dX12_hound_23 ?_
    refine gx_iload_n dX12_hound_24 rfl ?_
    refine gx_iadd dX12_hound_25 ?_
    refine gx_iconst (x := 1) (by decide) dX12_hound_26 ?_
    refine gx_iastore sh75 dX12_hound_27 ?_
    refine gx_aload_n dX12_hound_28 rfl ?_
    refine gx_getR fl_X12_7 sh74 rfl dX12_hound_29 ?_
    refine gx_bipush (x := 6) (by decide) dX12_hound_32 ?_
    refine gx_iload_n dX12_hound_34 rfl ?_
    refine gx_iadd dX12_hound_35 ?_
    refine gx_bipush (x := 16) (by decide) dX12_hound_36 ?_
    refine gx_iload_n dX12_hound_38 rfl ?_
    refine gx_imul dX12_hound_39 ?_
    refine gx_iload_n dX12_hound_40 rfl ?_
    refine gx_iadd dX12_hound_41 ?_
    refine gx_iastore sh75 dX12_hound_42 ?_
    refine gx_aload_n dX12_hound_43 rfl ?_
    refine gx_getR fl_X12_7 sh74 rfl dX12_hound_44 ?_
    refine gx_bipush (x := 12) (by decide) dX12_hound_47 ?_
    refine gx_iload_n dX12_hound_49 rfl ?_
    refine gx_iadd dX12_hound_50 ?_
    refine gx_sipush (x := 10000) (by decide) dX12_hound_51 ?_
    refine gx_iastore sh75 dX12_hound_54 ?_
    refine gx_aload_n dX12_hound_55 rfl ?_
    refine gx_getR fl_X12_7 sh74 rfl dX12_hound_56 ?_
    refine gx_bipush (x := 18) (by decide) dX12_hound_59 ?_
    refine gx_iload_n dX12_hound_61 rfl ?_
    refine gx_iadd dX12_hound_62 ?_
    refine gx_iconst (x := 0) (by decide) dX12_hound_63 ?_
    refine gx_iastore sh75 dX12_hound_64 ?_
    refine gx_aload_n dX12_hound_65 rfl ?_
    refine gx_getR fl_X12_7 sh74 rfl dX12_hound_66 ?_
    refine gx_bipush (x := 24) (by decide) dX12_hound_69 ?_
    refine gx_iload_n dX12_hound_71 rfl ?_
    refine gx_iadd dX12_hound_72 ?_
    refine gx_iconst (x := 0) (by decide) dX12_hound_73 ?_
    refine gx_iastore sh75 dX12_hound_74 ?_
    refine gx_iconst (x := 1) (by decide) dX12_hound_75 ?_
    exact gx_zret rfl (by decide) rfl dX12_hound_76
  refine gx_iconst (x := 0) (by decide) dX12_hound_17 ?_
  exact gx_zret rfl (by decide) rfl dX12_hound_18
theorem c_X12_hound (d : Nat) (hd : 2 ≤ d) (v1 : Int32) (v2 : Int32) (v3 : Int32) (M : HMem) : MX iX12_hound d [.inr (some 74), .inl v1, .inl v2, .inl v3] M eI (f_X12_hound v1 v2 v3 M) := mx_of (by decide +kernel) (Nat.le_of_ble_eq_true rfl) rfl (w_X12_hound d hd v1 v2 v3 M)
-- X12_fading
def f_X12_fading (v1 : Int32) (M : HMem) : Option (Int32 × HMem) :=
  if (f_X12_in v1 0 9) = 0 then
    (some (0, M))
  else
    (some (1, hset M 74 9 v1))
set_option maxRecDepth 20000 in
theorem w_X12_fading (d : Nat) (hd : 1 ≤ d) (v1 : Int32) (M : HMem) : GX iX12_fading d eI (f_X12_fading v1 M) 0 [some (.inr (some 74)), some (.inl v1)] [] M := by
  rw [f_X12_fading]
  refine gx_iload_n dX12_fading_0 rfl ?_
  refine gx_iconst (x := 0) (by decide) dX12_fading_1 ?_
  refine gx_bipush (x := 9) (by decide) dX12_fading_2 ?_
  refine gx_cS_it (av := [.inl v1, .inl 0, .inl 9]) (st := []) ml_X12_118 (by omega) (c_X12_in (d - 1) (by omega) v1 0 9 M) rfl rfl (Nat.le_of_ble_eq_true rfl) dX12_fading_4 ?_
  refine gx_if_ne (tgt := 12) dX12_fading_7 (by decide) ?_ ?_
  · refine gx_aload_n dX12_fading_12 rfl ?_
    refine gx_iload_n dX12_fading_13 rfl ?_
    refine gx_putI fl_X12_114 fp_X12_9 sh74 rfl dX12_fading_14 ?_
    refine gx_iconst (x := 1) (by decide) dX12_fading_17 ?_
    exact gx_zret rfl (by decide) rfl dX12_fading_18
  refine gx_iconst (x := 0) (by decide) dX12_fading_10 ?_
  exact gx_zret rfl (by decide) rfl dX12_fading_11
theorem c_X12_fading (d : Nat) (hd : 1 ≤ d) (v1 : Int32) (M : HMem) : MX iX12_fading d [.inr (some 74), .inl v1] M eI (f_X12_fading v1 M) := mx_of (by decide +kernel) (Nat.le_of_ble_eq_true rfl) rfl (w_X12_fading d hd v1 M)
-- X12_time
def f_X12_time (v1 : Int32) (M : HMem) : Option (Int32 × HMem) :=
  if (f_X12_in v1 (M 75 30) 9999) = 0 then
    (some (0, M))
  else
    (some (1, hset M 75 30 v1))
set_option maxRecDepth 20000 in
theorem w_X12_time (d : Nat) (hd : 1 ≤ d) (v1 : Int32) (M : HMem) : GX iX12_time d eI (f_X12_time v1 M) 0 [some (.inr (some 74)), some (.inl v1)] [] M := by
  rw [f_X12_time]
  refine gx_iload_n dX12_time_0 rfl ?_
  refine gx_aload_n dX12_time_1 rfl ?_
  refine gx_getR fl_X12_7 sh74 rfl dX12_time_2 ?_
  refine gx_bipush (x := 30) (by decide) dX12_time_5 ?_
  refine gx_ialoadL (j := 30) sh75 (by decide) (by decide) dX12_time_7 ?_
  refine gx_sipush (x := 9999) (by decide) dX12_time_8 ?_
  refine gx_cS_it (av := [.inl v1, .inl (M 75 30), .inl 9999]) (st := []) ml_X12_118 (by omega) (c_X12_in (d - 1) (by omega) v1 (M 75 30) 9999 M) rfl rfl (Nat.le_of_ble_eq_true rfl) dX12_time_11 ?_
  refine gx_if_ne (tgt := 19) dX12_time_14 (by decide) ?_ ?_
  · refine gx_aload_n dX12_time_19 rfl ?_
    refine gx_getR fl_X12_7 sh74 rfl dX12_time_20 ?_
    refine gx_bipush (x := 30) (by decide) dX12_time_23 ?_
    refine gx_iload_n dX12_time_25 rfl ?_
    refine gx_iastoreL (j := 30) sh75 (by decide) (by decide) dX12_time_26 ?_
    refine gx_iconst (x := 1) (by decide) dX12_time_27 ?_
    exact gx_zret rfl (by decide) rfl dX12_time_28
  refine gx_iconst (x := 0) (by decide) dX12_time_17 ?_
  exact gx_zret rfl (by decide) rfl dX12_time_18
theorem c_X12_time (d : Nat) (hd : 1 ≤ d) (v1 : Int32) (M : HMem) : MX iX12_time d [.inr (some 74), .inl v1] M eI (f_X12_time v1 M) := mx_of (by decide +kernel) (Nat.le_of_ble_eq_true rfl) rfl (w_X12_time d hd v1 M)
-- X12_types
def f_X12_types_L2 (n : Nat) (v1 : Int32) : Nat → Int32 → HMem → Option HMem
  | 0, _, _ => none
  | k + 1, v2, M =>
    if v2 < 0 then
      (some M)
    else
      (if hib (M 74 12) 260 then
      hb1 (some (hset M 84 (Int32.toNatClampNeg (M 74 12)) (Int8.toInt32 (Int32.toInt8 (Int8.toInt32 (Int32.toInt8 (v1 >>> ((8 * v2) &&& 31)))))))) (fun M101 =>
      f_X12_types_L2 n v1 k (v2 + (-1)) (hset M101 74 12 ((M101 74 12) + 1)))
      else none)
set_option maxRecDepth 20000 in
theorem w_X12_types_L2 (d : Nat) (hd : 0 ≤ d) (n : Nat) (v1 : Int32) : ∀ (k : Nat) (v2 : Int32) (M : HMem), GX iX12_types d eV (f_X12_types_L2 n v1 k v2 M) 2 [some (.inr (some 74)), some (.inl v1), some (.inl v2)] [] M := by
  intro k
  induction k with
  | zero => intro v2 M; exact gx_none
  | succ k ih =>
    intro v2 M
    rw [f_X12_types_L2]
    refine gx_iload_n dX12_types_2 rfl ?_
    refine gx_if_lt (tgt := 38) dX12_types_3 (by decide) ?_ ?_
    · exact gx_vret rfl rfl dX12_types_38
    refine gx_aload_n dX12_types_6 rfl ?_
    refine gx_getR fl_X12_37 sh74 rfl dX12_types_7 ?_
    refine gx_aload_n dX12_types_10 rfl ?_
    refine gx_getI fl_X12_130 sh74 rfl dX12_types_11 ?_
    refine gx_iload_n dX12_types_14 rfl ?_
    refine gx_bipush (x := 8) (by decide) dX12_types_15 ?_
    refine gx_iload_n dX12_types_17 rfl ?_
    refine gx_imul dX12_types_18 ?_
    refine gx_ishr dX12_types_19 ?_
    refine gx_i2b dX12_types_20 ?_
    refine gx_bastore sh84 dX12_types_21 ?_
    refine gx_aload_n dX12_types_22 rfl ?_
    refine gx_aload_n dX12_types_23 rfl ?_
    refine gx_nm (fun M101 => ?_)
    refine gx_getI fl_X12_130 sh74 rfl dX12_types_24 ?_
    refine gx_iconst (x := 1) (by decide) dX12_types_27 ?_
    refine gx_iadd dX12_types_28 ?_
    refine gx_putI fl_X12_130 fp_X12_12 sh74 rfl dX12_types_29 ?_
    refine gx_iinc (y := v2 + (-1)) (lv' := [some (.inr (some 74)), some (.inl v1), some (.inl (v2 + (-1)))]) dX12_types_32 rfl rfl (by decide) rfl ?_
    refine gx_goto (tgt := 2) dX12_types_35 (by decide) ?_
    refine gx_mk (lv' := [some (.inr (some 74)), some (.inl v1), some (.inl (v2 + (-1)))]) [true, true, true] rfl ?_
    exact ih (v2 + (-1)) (hset M101 74 12 ((M101 74 12) + 1))
def f_X12_types (n : Nat) (v1 : Int32) (M : HMem) : Option HMem :=
  f_X12_types_L2 n v1 n 3 M
set_option maxRecDepth 20000 in
theorem w_X12_types (d : Nat) (hd : 0 ≤ d) (n : Nat) (v1 : Int32) (M : HMem) : GX iX12_types d eV (f_X12_types n v1 M) 0 [some (.inr (some 74)), some (.inl v1), none] [] M := by
  rw [f_X12_types]
  refine gx_iconst (x := 3) (by decide) dX12_types_0 ?_
  refine gx_istore_n (lv' := [some (.inr (some 74)), some (.inl v1), some (.inl 3)]) dX12_types_1 (by decide) rfl ?_
  refine gx_mk (lv' := [some (.inr (some 74)), some (.inl v1), some (.inl 3)]) [true, true, true] rfl ?_
  exact w_X12_types_L2 d hd n v1 n 3 M
theorem c_X12_types (d : Nat) (hd : 0 ≤ d) (n : Nat) (v1 : Int32) (M : HMem) : MX iX12_types d [.inr (some 74), .inl v1] M eV (f_X12_types n v1 M) := mx_of (by decide +kernel) (Nat.le_of_ble_eq_true rfl) rfl (w_X12_types d hd n v1 M)
-- X12_feed
def f_X12_feed (n : Nat) (v1 : Int32) (v2 : Int32) (v3 : Int32) (v4 : Int32) (v5 : Int32) (M : HMem) : Option (Int32 × HMem) :=
  if ((M 74 12) + 20) ≤ 260 then
    (hb1 (f_X12_types n v1 M) (fun M101 =>
    hb1 (f_X12_types n v2 M101) (fun M102 =>
    hb1 (f_X12_types n v3 M102) (fun M103 =>
    hb1 (f_X12_types n v4 M103) (fun M104 =>
    hb1 (f_X12_types n v5 M104) (fun M105 =>
    some (M105 74 12, M105)))))))
  else
    (some ((-1), M))
set_option maxRecDepth 20000 in
theorem w_X12_feed (d : Nat) (hd : 1 ≤ d) (n : Nat) (v1 : Int32) (v2 : Int32) (v3 : Int32) (v4 : Int32) (v5 : Int32) (M : HMem) : GX iX12_feed d eI (f_X12_feed n v1 v2 v3 v4 v5 M) 0 [some (.inr (some 74)), some (.inl v1), some (.inl v2), some (.inl v3), some (.inl v4), some (.inl v5)] [] M := by
  rw [f_X12_feed]
  refine gx_aload_n dX12_feed_0 rfl ?_
  refine gx_getI fl_X12_130 sh74 rfl dX12_feed_1 ?_
  refine gx_bipush (x := 20) (by decide) dX12_feed_4 ?_
  refine gx_iadd dX12_feed_6 ?_
  refine gx_sipush (x := 260) (by decide) dX12_feed_7 ?_
  refine gx_icmp_le (tgt := 15) dX12_feed_10 (by decide) ?_ ?_
  · refine gx_aload_n dX12_feed_15 rfl ?_
    refine gx_iload_n dX12_feed_16 rfl ?_
    refine gx_cV_vm (av := [.inl v1]) (st := []) ml_X12_133 (by omega) sh74 (c_X12_types (d - 1) (by omega) n v1 M) rfl rfl (Nat.le_of_ble_eq_true rfl) dX12_feed_17 (fun M101 => ?_)
    refine gx_aload_n dX12_feed_20 rfl ?_
    refine gx_iload_n dX12_feed_21 rfl ?_
    refine gx_cV_vm (av := [.inl v2]) (st := []) ml_X12_133 (by omega) sh74 (c_X12_types (d - 1) (by omega) n v2 M101) rfl rfl (Nat.le_of_ble_eq_true rfl) dX12_feed_22 (fun M102 => ?_)
    refine gx_aload_n dX12_feed_25 rfl ?_
    refine gx_iload_n dX12_feed_26 rfl ?_
    refine gx_cV_vm (av := [.inl v3]) (st := []) ml_X12_133 (by omega) sh74 (c_X12_types (d - 1) (by omega) n v3 M102) rfl rfl (Nat.le_of_ble_eq_true rfl) dX12_feed_27 (fun M103 => ?_)
    refine gx_aload_n dX12_feed_30 rfl ?_
    refine gx_iload dX12_feed_31 rfl ?_
    refine gx_cV_vm (av := [.inl v4]) (st := []) ml_X12_133 (by omega) sh74 (c_X12_types (d - 1) (by omega) n v4 M103) rfl rfl (Nat.le_of_ble_eq_true rfl) dX12_feed_33 (fun M104 => ?_)
    refine gx_aload_n dX12_feed_36 rfl ?_
    refine gx_iload dX12_feed_37 rfl ?_
    refine gx_cV_vm (av := [.inl v5]) (st := []) ml_X12_133 (by omega) sh74 (c_X12_types (d - 1) (by omega) n v5 M104) rfl rfl (Nat.le_of_ble_eq_true rfl) dX12_feed_39 (fun M105 => ?_)
    refine gx_aload_n dX12_feed_42 rfl ?_
    refine gx_getI fl_X12_130 sh74 rfl dX12_feed_43 ?_
    exact gx_iret rfl rfl dX12_feed_46
  refine gx_iconst (x := (-1)) (by decide) dX12_feed_13 ?_
  exact gx_iret rfl rfl dX12_feed_14
theorem c_X12_feed (d : Nat) (hd : 1 ≤ d) (n : Nat) (v1 : Int32) (v2 : Int32) (v3 : Int32) (v4 : Int32) (v5 : Int32) (M : HMem) : MX iX12_feed d [.inr (some 74), .inl v1, .inl v2, .inl v3, .inl v4, .inl v5] M eI (f_X12_feed n v1 v2 v3 v4 v5 M) := mx_of (by decide +kernel) (Nat.le_of_ble_eq_true rfl) rfl (w_X12_feed d hd n v1 v2 v3 v4 v5 M)
-- X12_octet
def f_X12_octet (v1 : Int32) (M : HMem) : Option Int32 :=
  if hib v1 260 then
  some ((M 84 (Int32.toNatClampNeg v1)) &&& 255)
  else none
set_option maxRecDepth 20000 in
theorem w_X12_octet (d : Nat) (hd : 0 ≤ d) (v1 : Int32) (M : HMem) : GX iX12_octet d (eP M) (f_X12_octet v1 M) 0 [some (.inr (some 74)), some (.inl v1)] [] M := by
  rw [f_X12_octet]
  refine gx_aload_n dX12_octet_0 rfl ?_
  refine gx_getR fl_X12_37 sh74 rfl dX12_octet_1 ?_
  refine gx_iload_n dX12_octet_4 rfl ?_
  refine gx_baload sh84 dX12_octet_5 ?_
  refine gx_sipush (x := 255) (by decide) dX12_octet_6 ?_
  refine gx_iand dX12_octet_9 ?_
  exact gx_iret rfl rfl dX12_octet_10
theorem c_X12_octet (d : Nat) (hd : 0 ≤ d) (v1 : Int32) (M : HMem) : MX iX12_octet d [.inr (some 74), .inl v1] M (eP M) (f_X12_octet v1 M) := mx_of (by decide +kernel) (Nat.le_of_ble_eq_true rfl) rfl (w_X12_octet d hd v1 M)
-- X12_here
def f_X12_here  (M : HMem) : Option Int32 :=
  if (M 74 14) ≤ (M 74 13) then
    (some (-1))
  else
    (if hib (M 74 13) 260 then
    some ((M 84 (Int32.toNatClampNeg (M 74 13))) &&& 255)
    else none)
set_option maxRecDepth 20000 in
theorem w_X12_here (d : Nat) (hd : 0 ≤ d)  (M : HMem) : GX iX12_here d (eP M) (f_X12_here  M) 0 [some (.inr (some 74))] [] M := by
  rw [f_X12_here]
  refine gx_aload_n dX12_here_0 rfl ?_
  refine gx_getI fl_X12_137 sh74 rfl dX12_here_1 ?_
  refine gx_aload_n dX12_here_4 rfl ?_
  refine gx_getI fl_X12_140 sh74 rfl dX12_here_5 ?_
  refine gx_icmp_ge (tgt := 27) dX12_here_8 (by decide) ?_ ?_
  · refine gx_iconst (x := (-1)) (by decide) dX12_here_27 ?_
    exact gx_iret rfl rfl dX12_here_28
  refine gx_aload_n dX12_here_11 rfl ?_
  refine gx_getR fl_X12_37 sh74 rfl dX12_here_12 ?_
  refine gx_aload_n dX12_here_15 rfl ?_
  refine gx_getI fl_X12_137 sh74 rfl dX12_here_16 ?_
  refine gx_baload sh84 dX12_here_19 ?_
  refine gx_sipush (x := 255) (by decide) dX12_here_20 ?_
  refine gx_iand dX12_here_23 ?_
  refine gx_goto (tgt := 28) dX12_here_24 (by decide) ?_
  exact gx_iret rfl rfl dX12_here_28
theorem c_X12_here (d : Nat) (hd : 0 ≤ d)  (M : HMem) : MX iX12_here d [.inr (some 74)] M (eP M) (f_X12_here  M) := mx_of (by decide +kernel) (Nat.le_of_ble_eq_true rfl) rfl (w_X12_here d hd  M)
-- X12_isDigit
def f_X12_isDigit  (M : HMem) : Option Int32 :=
  hb1 (f_X12_here  M) (fun x101 =>
  if x101 < 48 then
    (some 0)
  else
    (hb1 (f_X12_here  M) (fun x102 =>
    if 57 < x102 then
      (some 0)
    else
      (some 1))))
set_option maxRecDepth 20000 in
theorem w_X12_isDigit (d : Nat) (hd : 1 ≤ d)  (M : HMem) : GX iX12_isDigit d (eP M) (f_X12_isDigit  M) 0 [some (.inr (some 74))] [] M := by
  rw [f_X12_isDigit]
  refine gx_aload_n dX12_isDigit_0 rfl ?_
  refine gx_cV_ip (av := []) (st := []) ml_X12_143 (by omega) sh74 (c_X12_here (d - 1) (by omega)  M) rfl rfl (Nat.le_of_ble_eq_true rfl) dX12_isDigit_1 (fun x101 => ?_)
  refine gx_bipush (x := 48) (by decide) dX12_isDigit_4 ?_
  refine gx_icmp_lt (tgt := 22) dX12_isDigit_6 (by decide) ?_ ?_
  · refine gx_iconst (x := 0) (by decide) dX12_isDigit_22 ?_
    exact gx_zret rfl (by decide) rfl dX12_isDigit_23
  refine gx_aload_n dX12_isDigit_9 rfl ?_
  refine gx_cV_ip (av := []) (st := []) ml_X12_143 (by omega) sh74 (c_X12_here (d - 1) (by omega)  M) rfl rfl (Nat.le_of_ble_eq_true rfl) dX12_isDigit_10 (fun x102 => ?_)
  refine gx_bipush (x := 57) (by decide) dX12_isDigit_13 ?_
  refine gx_icmp_gt (tgt := 22) dX12_isDigit_15 (by decide) ?_ ?_
  · refine gx_iconst (x := 0) (by decide) dX12_isDigit_22 ?_
    exact gx_zret rfl (by decide) rfl dX12_isDigit_23
  refine gx_iconst (x := 1) (by decide) dX12_isDigit_18 ?_
  refine gx_goto (tgt := 23) dX12_isDigit_19 (by decide) ?_
  exact gx_zret rfl (by decide) rfl dX12_isDigit_23
theorem c_X12_isDigit (d : Nat) (hd : 1 ≤ d)  (M : HMem) : MX iX12_isDigit d [.inr (some 74)] M (eP M) (f_X12_isDigit  M) := mx_of (by decide +kernel) (Nat.le_of_ble_eq_true rfl) rfl (w_X12_isDigit d hd  M)

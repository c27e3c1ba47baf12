-- X12_wrongAt
def f_X12_wrongAt (v1 : Int32) (v2 : Int32) (M : HMem) : Option (Int32 × HMem) :=
  some (0, hset M 74 15 (((-1000) * v1) - v2))
set_option maxRecDepth 20000 in
theorem w_X12_wrongAt (d : Nat) (hd : 0 ≤ d) (v1 : Int32) (v2 : Int32) (M : HMem) : GX iX12_wrongAt d eI (f_X12_wrongAt v1 v2 M) 0 [some (.inr (some 74)), some (.inl v1), some (.inl v2)] [] M := by
  rw [f_X12_wrongAt]
  refine gx_aload_n dX12_wrongAt_0 rfl ?_
  refine gx_sipush (x := (-1000)) (by decide) dX12_wrongAt_1 ?_
  refine gx_iload_n dX12_wrongAt_4 rfl ?_
  refine gx_imul dX12_wrongAt_5 ?_
  refine gx_iload_n dX12_wrongAt_6 rfl ?_
  refine gx_isub dX12_wrongAt_7 ?_
  refine gx_putI fl_X12_147 fp_X12_15 sh74 rfl dX12_wrongAt_8 ?_
  refine gx_iconst (x := 0) (by decide) dX12_wrongAt_11 ?_
  exact gx_zret rfl (by decide) rfl dX12_wrongAt_12
theorem c_X12_wrongAt (d : Nat) (hd : 0 ≤ d) (v1 : Int32) (v2 : Int32) (M : HMem) : MX iX12_wrongAt d [.inr (some 74), .inl v1, .inl v2] M eI (f_X12_wrongAt v1 v2 M) := mx_of (by decide +kernel) (Nat.le_of_ble_eq_true rfl) rfl (w_X12_wrongAt d hd v1 v2 M)
-- X12_takes
def f_X12_takes (v1 : Int32) (M : HMem) : Option (Int32 × HMem) :=
  hb1 (f_X12_here  M) (fun x101 =>
  if x101 = v1 then
    (some (1, hset M 74 13 ((M 74 13) + 1)))
  else
    (hb2 (f_X12_wrongAt 1 (M 74 13) M) (fun x102 M103 =>
    if x102 &&& 1 = x102 then some (x102, M103) else none)))
set_option maxRecDepth 20000 in
theorem w_X12_takes (d : Nat) (hd : 1 ≤ d) (v1 : Int32) (M : HMem) : GX iX12_takes d eI (f_X12_takes v1 M) 0 [some (.inr (some 74)), some (.inl v1)] [] M := by
  rw [f_X12_takes]
  refine gx_aload_n dX12_takes_0 rfl ?_
  refine gx_cV_ip (av := []) (st := []) ml_X12_143 (by omega) sh74 (c_X12_here (d - 1) (by omega)  M) rfl rfl (Nat.le_of_ble_eq_true rfl) dX12_takes_1 (fun x101 => ?_)
  refine gx_iload_n dX12_takes_4 rfl ?_
  refine gx_icmp_eq (tgt := 18) dX12_takes_5 (by decide) ?_ ?_
  · refine gx_aload_n dX12_takes_18 rfl ?_
    refine gx_aload_n dX12_takes_19 rfl ?_
    refine gx_getI fl_X12_137 sh74 rfl dX12_takes_20 ?_
    refine gx_iconst (x := 1) (by decide) dX12_takes_23 ?_
    refine gx_iadd dX12_takes_24 ?_
    refine gx_putI fl_X12_137 fp_X12_13 sh74 rfl dX12_takes_25 ?_
    refine gx_iconst (x := 1) (by decide) dX12_takes_28 ?_
    exact gx_zret rfl (by decide) rfl dX12_takes_29
  refine gx_aload_n dX12_takes_8 rfl ?_
  refine gx_iconst (x := 1) (by decide) dX12_takes_9 ?_
  refine gx_aload_n dX12_takes_10 rfl ?_
  refine gx_getI fl_X12_137 sh74 rfl dX12_takes_11 ?_
  refine gx_cV_im (av := [.inl 1, .inl (M 74 13)]) (st := []) ml_X12_150 (by omega) sh74 (c_X12_wrongAt (d - 1) (by omega) 1 (M 74 13) M) rfl rfl (Nat.le_of_ble_eq_true rfl) dX12_takes_14 (fun x102 M103 => ?_)
  exact gx_zretG rfl rfl dX12_takes_17
theorem c_X12_takes (d : Nat) (hd : 1 ≤ d) (v1 : Int32) (M : HMem) : MX iX12_takes d [.inr (some 74), .inl v1] M eI (f_X12_takes v1 M) := mx_of (by decide +kernel) (Nat.le_of_ble_eq_true rfl) rfl (w_X12_takes d hd v1 M)
-- X12_readsNumber
def f_X12_readsNumber_L10 (n : Nat) (v1 : Int32) : Nat → HMem → Option (Int32 × HMem)
  | 0, _ => none
  | k + 1, M =>
    hb1 (f_X12_isDigit  M) (fun x101 =>
    if x101 = 0 then
      (some (1, M))
    else
      (if (M 74 13) = (v1 + 5) then
        (hb2 (f_X12_wrongAt 2 (M 74 13) M) (fun x104 M105 =>
        if x104 &&& 1 = x104 then some (x104, M105) else none))
      else
        (hb1 (f_X12_here  M) (fun x102 =>
        hb1 (some (hset M 74 16 (((10 * (M 74 16)) + x102) - 48))) (fun M103 =>
        f_X12_readsNumber_L10 n v1 k  (hset M103 74 13 ((M103 74 13) + 1)))))))
set_option maxRecDepth 20000 in
theorem w_X12_readsNumber_L10 (d : Nat) (hd : 2 ≤ d) (n : Nat) (v1 : Int32) : ∀ (k : Nat)  (M : HMem), GX iX12_readsNumber d eI (f_X12_readsNumber_L10 n v1 k  M) 10 [some (.inr (some 74)), some (.inl v1)] [] M := by
  intro k
  induction k with
  | zero => intro  M; exact gx_none
  | succ k ih =>
    intro  M
    rw [f_X12_readsNumber_L10]
    refine gx_aload_n dX12_readsNumber_10 rfl ?_
    refine gx_cV_ip (av := []) (st := []) ml_X12_156 (by omega) sh74 (c_X12_isDigit (d - 1) (by omega)  M) rfl rfl (Nat.le_of_ble_eq_true rfl) dX12_readsNumber_11 (fun x101 => ?_)
    refine gx_if_eq (tgt := 69) dX12_readsNumber_14 (by decide) ?_ ?_
    · refine gx_iconst (x := 1) (by decide) dX12_readsNumber_69 ?_
      exact gx_zret rfl (by decide) rfl dX12_readsNumber_70
    refine gx_aload_n dX12_readsNumber_17 rfl ?_
    refine gx_getI fl_X12_137 sh74 rfl dX12_readsNumber_18 ?_
    refine gx_iload_n dX12_readsNumber_21 rfl ?_
    refine gx_iconst (x := 5) (by decide) dX12_readsNumber_22 ?_
    refine gx_iadd dX12_readsNumber_23 ?_
    refine gx_icmp_ne (tgt := 37) dX12_readsNumber_24 (by decide) ?_ ?_
    · refine gx_aload_n dX12_readsNumber_37 rfl ?_
      refine gx_bipush (x := 10) (by decide) dX12_readsNumber_38 ?_
      refine gx_aload_n dX12_readsNumber_40 rfl ?_
      refine gx_getI fl_X12_153 sh74 rfl dX12_readsNumber_41 ?_
      refine gx_imul dX12_readsNumber_44 ?_
      refine gx_aload_n dX12_readsNumber_45 rfl ?_
      refine gx_cV_ip (av := []) (st := [.inl (10 * (M 74 16)), .inr (some 74)]) ml_X12_143 (by omega) sh74 (c_X12_here (d - 1) (by omega)  M) rfl rfl (Nat.le_of_ble_eq_true rfl) dX12_readsNumber_46 (fun x102 => ?_)
      refine gx_iadd dX12_readsNumber_49 ?_
      refine gx_bipush (x := 48) (by decide) dX12_readsNumber_50 ?_
      refine gx_isub dX12_readsNumber_52 ?_
      refine gx_putI fl_X12_153 fp_X12_16 sh74 rfl dX12_readsNumber_53 ?_
      refine gx_aload_n dX12_readsNumber_56 rfl ?_
      refine gx_aload_n dX12_readsNumber_57 rfl ?_
      refine gx_nm (fun M103 => ?_)
      refine gx_getI fl_X12_137 sh74 rfl dX12_readsNumber_58 ?_
      refine gx_iconst (x := 1) (by decide) dX12_readsNumber_61 ?_
      refine gx_iadd dX12_readsNumber_62 ?_
      refine gx_putI fl_X12_137 fp_X12_13 sh74 rfl dX12_readsNumber_63 ?_
      refine gx_goto (tgt := 10) dX12_readsNumber_66 (by decide) ?_
      refine gx_mk (lv' := [some (.inr (some 74)), some (.inl v1)]) [true, true] rfl ?_
      exact ih  (hset M103 74 13 ((M103 74 13) + 1))
    refine gx_aload_n dX12_readsNumber_27 rfl ?_
    refine gx_iconst (x := 2) (by decide) dX12_readsNumber_28 ?_
    refine gx_aload_n dX12_readsNumber_29 rfl ?_
    refine gx_getI fl_X12_137 sh74 rfl dX12_readsNumber_30 ?_
    refine gx_cV_im (av := [.inl 2, .inl (M 74 13)]) (st := []) ml_X12_150 (by omega) sh74 (c_X12_wrongAt (d - 1) (by omega) 2 (M 74 13) M) rfl rfl (Nat.le_of_ble_eq_true rfl) dX12_readsNumber_33 (fun x104 M105 => ?_)
    exact gx_zretG rfl rfl dX12_readsNumber_36
def f_X12_readsNumber (n : Nat)  (M : HMem) : Option (Int32 × HMem) :=
  f_X12_readsNumber_L10 n (M 74 13) n  (hset M 74 16 0)
set_option maxRecDepth 20000 in
theorem w_X12_readsNumber (d : Nat) (hd : 2 ≤ d) (n : Nat)  (M : HMem) : GX iX12_readsNumber d eI (f_X12_readsNumber n  M) 0 [some (.inr (some 74)), none] [] M := by
  rw [f_X12_readsNumber]
  refine gx_aload_n dX12_readsNumber_0 rfl ?_
  refine gx_getI fl_X12_137 sh74 rfl dX12_readsNumber_1 ?_
  refine gx_istore_n (lv' := [some (.inr (some 74)), some (.inl (M 74 13))]) dX12_readsNumber_4 (by decide) rfl ?_
  refine gx_aload_n dX12_readsNumber_5 rfl ?_
  refine gx_iconst (x := 0) (by decide) dX12_readsNumber_6 ?_
  refine gx_putI fl_X12_153 fp_X12_16 sh74 rfl dX12_readsNumber_7 ?_
  refine gx_mk (lv' := [some (.inr (some 74)), some (.inl (M 74 13))]) [true, true] rfl ?_
  exact w_X12_readsNumber_L10 d hd n (M 74 13) n  (hset M 74 16 0)
theorem c_X12_readsNumber (d : Nat) (hd : 2 ≤ d) (n : Nat)  (M : HMem) : MX iX12_readsNumber d [.inr (some 74)] M eI (f_X12_readsNumber n  M) := mx_of (by decide +kernel) (Nat.le_of_ble_eq_true rfl) rfl (w_X12_readsNumber d hd n  M)
-- X12_notes
def f_X12_notes (v1 : Int32) (v2 : Int32) (M : HMem) : Option HMem :=
  if hib (M 74 18) 260 then
  hb1 (some (hset M 85 (Int32.toNatClampNeg (M 74 18)) ((1048576 * v1) + v2))) (fun M101 =>
  some (hset M101 74 18 ((M101 74 18) + 1)))
  else none
set_option maxRecDepth 20000 in
theorem w_X12_notes (d : Nat) (hd : 0 ≤ d) (v1 : Int32) (v2 : Int32) (M : HMem) : GX iX12_notes d eV (f_X12_notes v1 v2 M) 0 [some (.inr (some 74)), some (.inl v1), some (.inl v2)] [] M := by
  rw [f_X12_notes]
  refine gx_aload_n dX12_notes_0 rfl ?_
  refine gx_getR fl_X12_41 sh74 rfl dX12_notes_1 ?_
  refine gx_aload_n dX12_notes_4 rfl ?_
  refine gx_getI fl_X12_160 sh74 rfl dX12_notes_5 ?_
  refine gx_ldc (x := 1048576) mw1455 dX12_notes_8 ?_
  refine gx_iload_n dX12_notes_10 rfl ?_
  refine gx_imul dX12_notes_11 ?_
  refine gx_iload_n dX12_notes_12 rfl ?_
  refine gx_iadd dX12_notes_13 ?_
  refine gx_iastore sh85 dX12_notes_14 ?_
  refine gx_aload_n dX12_notes_15 rfl ?_
  refine gx_aload_n dX12_notes_16 rfl ?_
  refine gx_nm (fun M101 => ?_)
  refine gx_getI fl_X12_160 sh74 rfl dX12_notes_17 ?_
  refine gx_iconst (x := 1) (by decide) dX12_notes_20 ?_
  refine gx_iadd dX12_notes_21 ?_
  refine gx_putI fl_X12_160 fp_X12_18 sh74 rfl dX12_notes_22 ?_
  exact gx_vret rfl rfl dX12_notes_25
theorem c_X12_notes (d : Nat) (hd : 0 ≤ d) (v1 : Int32) (v2 : Int32) (M : HMem) : MX iX12_notes d [.inr (some 74), .inl v1, .inl v2] M eV (f_X12_notes v1 v2 M) := mx_of (by decide +kernel) (Nat.le_of_ble_eq_true rfl) rfl (w_X12_notes d hd v1 v2 M)
-- X12_opens
def f_X12_opens (v1 : Int32) (M : HMem) : Option (Int32 × HMem) :=
  if (M 74 17) = 6 then
    (hb2 (f_X12_wrongAt 5 (M 74 13) M) (fun x102 M103 =>
    if x102 &&& 1 = x102 then some (x102, M103) else none))
  else
    (if hib ((hset M 74 17 ((M 74 17) + 1)) 74 19) 260 then
    hb1 (some (hset (hset M 74 17 ((M 74 17) + 1)) 86 (Int32.toNatClampNeg ((hset M 74 17 ((M 74 17) + 1)) 74 19)) (1048576 * v1))) (fun M101 =>
    some (1, hset (hset M101 74 19 ((M101 74 19) + 1)) 74 13 (((hset M101 74 19 ((M101 74 19) + 1)) 74 13) + 1)))
    else none)
set_option maxRecDepth 20000 in
theorem w_X12_opens (d : Nat) (hd : 1 ≤ d) (v1 : Int32) (M : HMem) : GX iX12_opens d eI (f_X12_opens v1 M) 0 [some (.inr (some 74)), some (.inl v1)] [] M := by
  rw [f_X12_opens]
  refine gx_aload_n dX12_opens_0 rfl ?_
  refine gx_getI fl_X12_164 sh74 rfl dX12_opens_1 ?_
  refine gx_bipush (x := 6) (by decide) dX12_opens_4 ?_
  refine gx_icmp_ne (tgt := 19) dX12_opens_6 (by decide) ?_ ?_
  · refine gx_aload_n dX12_opens_19 rfl ?_
    refine gx_aload_n dX12_opens_20 rfl ?_
    refine gx_getI fl_X12_164 sh74 rfl dX12_opens_21 ?_
    refine gx_iconst (x := 1) (by decide) dX12_opens_24 ?_
    refine gx_iadd dX12_opens_25 ?_
    refine gx_putI fl_X12_164 fp_X12_17 sh74 rfl dX12_opens_26 ?_
    refine gx_aload_n dX12_opens_29 rfl ?_
    refine gx_getR fl_X12_44 sh74 rfl dX12_opens_30 ?_
    refine gx_aload_n dX12_opens_33 rfl ?_
    refine gx_getI fl_X12_167 sh74 rfl dX12_opens_34 ?_
    refine gx_ldc (x := 1048576) mw1455 dX12_opens_37 ?_
    refine gx_iload_n dX12_opens_39 rfl ?_
    refine gx_imul dX12_opens_40 ?_
    refine gx_iastore sh86 dX12_opens_41 ?_
    refine gx_aload_n dX12_opens_42 rfl ?_
    refine gx_aload_n dX12_opens_43 rfl ?_
    refine gx_nm (fun M101 => ?_)
    refine gx_getI fl_X12_167 sh74 rfl dX12_opens_44 ?_
    refine gx_iconst (x := 1) (by decide) dX12_opens_47 ?_
    refine gx_iadd dX12_opens_48 ?_
    refine gx_putI fl_X12_167 fp_X12_19 sh74 rfl dX12_opens_49 ?_
    refine gx_aload_n dX12_opens_52 rfl ?_
    refine gx_aload_n dX12_opens_53 rfl ?_
    refine gx_getI fl_X12_137 sh74 rfl dX12_opens_54 ?_
    refine gx_iconst (x := 1) (by decide) dX12_opens_57 ?_
    refine gx_iadd dX12_opens_58 ?_
    refine gx_putI fl_X12_137 fp_X12_13 sh74 rfl dX12_opens_59 ?_
    refine gx_iconst (x := 1) (by decide) dX12_opens_62 ?_
    exact gx_zret rfl (by decide) rfl dX12_opens_63
  refine gx_aload_n dX12_opens_9 rfl ?_
  refine gx_iconst (x := 5) (by decide) dX12_opens_10 ?_
  refine gx_aload_n dX12_opens_11 rfl ?_
  refine gx_getI fl_X12_137 sh74 rfl dX12_opens_12 ?_
  refine gx_cV_im (av := [.inl 5, .inl (M 74 13)]) (st := []) ml_X12_150 (by omega) sh74 (c_X12_wrongAt (d - 1) (by omega) 5 (M 74 13) M) rfl rfl (Nat.le_of_ble_eq_true rfl) dX12_opens_15 (fun x102 M103 => ?_)
  exact gx_zretG rfl rfl dX12_opens_18
theorem c_X12_opens (d : Nat) (hd : 1 ≤ d) (v1 : Int32) (M : HMem) : MX iX12_opens d [.inr (some 74), .inl v1] M eI (f_X12_opens v1 M) := mx_of (by decide +kernel) (Nat.le_of_ble_eq_true rfl) rfl (w_X12_opens d hd v1 M)
-- X12_waitTop
def f_X12_waitTop  (M : HMem) : Option Int32 :=
  if (M 74 19) = 0 then
    (some (-1))
  else
    (if hib ((M 74 19) - 1) 260 then
    some ((M 86 (Int32.toNatClampNeg ((M 74 19) - 1))) / 1048576)
    else none)
set_option maxRecDepth 20000 in
theorem w_X12_waitTop (d : Nat) (hd : 0 ≤ d)  (M : HMem) : GX iX12_waitTop d (eP M) (f_X12_waitTop  M) 0 [some (.inr (some 74))] [] M := by
  rw [f_X12_waitTop]
  refine gx_aload_n dX12_waitTop_0 rfl ?_
  refine gx_getI fl_X12_167 sh74 rfl dX12_waitTop_1 ?_
  refine gx_if_ne (tgt := 11) dX12_waitTop_4 (by decide) ?_ ?_
  · refine gx_aload_n dX12_waitTop_11 rfl ?_
    refine gx_getR fl_X12_44 sh74 rfl dX12_waitTop_12 ?_
    refine gx_aload_n dX12_waitTop_15 rfl ?_
    refine gx_getI fl_X12_167 sh74 rfl dX12_waitTop_16 ?_
    refine gx_iconst (x := 1) (by decide) dX12_waitTop_19 ?_
    refine gx_isub dX12_waitTop_20 ?_
    refine gx_iaload sh86 dX12_waitTop_21 ?_
    refine gx_ldc (x := 1048576) mw1455 dX12_waitTop_22 ?_
    refine gx_idivL (by decide) dX12_waitTop_24 ?_
    exact gx_iret rfl rfl dX12_waitTop_25
  refine gx_iconst (x := (-1)) (by decide) dX12_waitTop_7 ?_
  refine gx_goto (tgt := 25) dX12_waitTop_8 (by decide) ?_
  exact gx_iret rfl rfl dX12_waitTop_25
theorem c_X12_waitTop (d : Nat) (hd : 0 ≤ d)  (M : HMem) : MX iX12_waitTop d [.inr (some 74)] M (eP M) (f_X12_waitTop  M) := mx_of (by decide +kernel) (Nat.le_of_ble_eq_true rfl) rfl (w_X12_waitTop d hd  M)
-- X12_factOf
def f_X12_factOf (v0 : Int32) : Int32 :=
  if v0 = 97 then
    (2)
  else if v0 = 98 then
    ((-1))
  else if v0 = 99 then
    (1)
  else if v0 = 100 then
    ((-1))
  else if v0 = 101 then
    ((-1))
  else if v0 = 102 then
    (5)
  else if v0 = 103 then
    (4)
  else if v0 = 104 then
    (0)
  else if v0 = 105 then
    ((-1))
  else if v0 = 106 then
    ((-1))
  else if v0 = 107 then
    ((-1))
  else if v0 = 108 then
    ((-1))
  else if v0 = 109 then
    ((-1))
  else if v0 = 110 then
    (6)
  else if v0 = 111 then
    ((-1))
  else if v0 = 112 then
    ((-1))
  else if v0 = 113 then
    ((-1))
  else if v0 = 114 then
    ((-1))
  else if v0 = 115 then
    (3)
  else if v0 = 116 then
    (7)
  else ((-1))
set_option maxRecDepth 20000 in
theorem w_X12_factOf (d : Nat) (hd : 0 ≤ d) (v0 : Int32) (M : HMem) : GX iX12_factOf d (eP M) (some (f_X12_factOf v0)) 0 [some (.inl v0)] [] M := by
  rw [f_X12_factOf]
  refine gx_iload_n dX12_factOf_0 rfl ?_
  refine gxt_swT (k := 97) (kI := 97) (off := 99) (tgt := 100) (by decide) dX12_factOf_1 (by decide) (by decide) rfl (by decide) ?_ (fun q1_97 => ?_)
  · refine gx_iconst (x := 2) (by decide) dX12_factOf_100 ?_
    exact gx_iret rfl rfl dX12_factOf_101
  refine gxt_swT (k := 98) (kI := 98) (off := 113) (tgt := 114) (by decide) dX12_factOf_1 (by decide) (by decide) rfl (by decide) ?_ (fun q1_98 => ?_)
  · refine gx_iconst (x := (-1)) (by decide) dX12_factOf_114 ?_
    exact gx_iret rfl rfl dX12_factOf_115
  refine gxt_swT (k := 99) (kI := 99) (off := 97) (tgt := 98) (by decide) dX12_factOf_1 (by decide) (by decide) rfl (by decide) ?_ (fun q1_99 => ?_)
  · refine gx_iconst (x := 1) (by decide) dX12_factOf_98 ?_
    exact gx_iret rfl rfl dX12_factOf_99
  refine gxt_swT (k := 100) (kI := 100) (off := 113) (tgt := 114) (by decide) dX12_factOf_1 (by decide) (by decide) rfl (by decide) ?_ (fun q1_100 => ?_)
  · refine gx_iconst (x := (-1)) (by decide) dX12_factOf_114 ?_
    exact gx_iret rfl rfl dX12_factOf_115
  refine gxt_swT (k := 101) (kI := 101) (off := 113) (tgt := 114) (by decide) dX12_factOf_1 (by decide) (by decide) rfl (by decide) ?_ (fun q1_101 => ?_)
  · refine gx_iconst (x := (-1)) (by decide) dX12_factOf_114 ?_
    exact gx_iret rfl rfl dX12_factOf_115
  refine gxt_swT (k := 102) (kI := 102) (off := 105) (tgt := 106) (by decide) dX12_factOf_1 (by decide) (by decide) rfl (by decide) ?_ (fun q1_102 => ?_)
  · refine gx_iconst (x := 5) (by decide) dX12_factOf_106 ?_
    exact gx_iret rfl rfl dX12_factOf_107
  refine gxt_swT (k := 103) (kI := 103) (off := 103) (tgt := 104) (by decide) dX12_factOf_1 (by decide) (by decide) rfl (by decide) ?_ (fun q1_103 => ?_)
  · refine gx_iconst (x := 4) (by decide) dX12_factOf_104 ?_
    exact gx_iret rfl rfl dX12_factOf_105
  refine gxt_swT (k := 104) (kI := 104) (off := 95) (tgt := 96) (by decide) dX12_factOf_1 (by decide) (by decide) rfl (by decide) ?_ (fun q1_104 => ?_)
  · refine gx_iconst (x := 0) (by decide) dX12_factOf_96 ?_
    exact gx_iret rfl rfl dX12_factOf_97
  refine gxt_swT (k := 105) (kI := 105) (off := 113) (tgt := 114) (by decide) dX12_factOf_1 (by decide) (by decide) rfl (by decide) ?_ (fun q1_105 => ?_)
  · refine gx_iconst (x := (-1)) (by decide) dX12_factOf_114 ?_
    exact gx_iret rfl rfl dX12_factOf_115
  refine gxt_swT (k := 106) (kI := 106) (off := 113) (tgt := 114) (by decide) dX12_factOf_1 (by decide) (by decide) rfl (by decide) ?_ (fun q1_106 => ?_)
  · refine gx_iconst (x := (-1)) (by decide) dX12_factOf_114 ?_
    exact gx_iret rfl rfl dX12_factOf_115
  refine gxt_swT (k := 107) (kI := 107) (off := 113) (tgt := 114) (by decide) dX12_factOf_1 (by decide) (by decide) rfl (by decide) ?_ (fun q1_107 => ?_)
  · refine gx_iconst (x := (-1)) (by decide) dX12_factOf_114 ?_
    exact gx_iret rfl rfl dX12_factOf_115
  refine gxt_swT (k := 108) (kI := 108) (off := 113) (tgt := 114) (by decide) dX12_factOf_1 (by decide) (by decide) rfl (by decide) ?_ (fun q1_108 => ?_)
  · refine gx_iconst (x := (-1)) (by decide) dX12_factOf_114 ?_
    exact gx_iret rfl rfl dX12_factOf_115
  refine gxt_swT (k := 109) (kI := 109) (off := 113) (tgt := 114) (by decide) dX12_factOf_1 (by decide) (by decide) rfl (by decide) ?_ (fun q1_109 => ?_)
  · refine gx_iconst (x := (-1)) (by decide) dX12_factOf_114 ?_
    exact gx_iret rfl rfl dX12_factOf_115
  refine gxt_swT (k := 110) (kI := 110) (off := 107) (tgt := 108) (by decide) dX12_factOf_1 (by decide) (by decide) rfl (by decide) ?_ (fun q1_110 => ?_)
  · refine gx_bipush (x := 6) (by decide) dX12_factOf_108 ?_
    exact gx_iret rfl rfl dX12_factOf_110
  refine gxt_swT (k := 111) (kI := 111) (off := 113) (tgt := 114) (by decide) dX12_factOf_1 (by decide) (by decide) rfl (by decide) ?_ (fun q1_111 => ?_)
  · refine gx_iconst (x := (-1)) (by decide) dX12_factOf_114 ?_
    exact gx_iret rfl rfl dX12_factOf_115
  refine gxt_swT (k := 112) (kI := 112) (off := 113) (tgt := 114) (by decide) dX12_factOf_1 (by decide) (by decide) rfl (by decide) ?_ (fun q1_112 => ?_)
  · refine gx_iconst (x := (-1)) (by decide) dX12_factOf_114 ?_
    exact gx_iret rfl rfl dX12_factOf_115
  refine gxt_swT (k := 113) (kI := 113) (off := 113) (tgt := 114) (by decide) dX12_factOf_1 (by decide) (by decide) rfl (by decide) ?_ (fun q1_113 => ?_)
  · refine gx_iconst (x := (-1)) (by decide) dX12_factOf_114 ?_
    exact gx_iret rfl rfl dX12_factOf_115
  refine gxt_swT (k := 114) (kI := 114) (off := 113) (tgt := 114) (by decide) dX12_factOf_1 (by decide) (by decide) rfl (by decide) ?_ (fun q1_114 => ?_)
  · refine gx_iconst (x := (-1)) (by decide) dX12_factOf_114 ?_
    exact gx_iret rfl rfl dX12_factOf_115
  refine gxt_swT (k := 115) (kI := 115) (off := 101) (tgt := 102) (by decide) dX12_factOf_1 (by decide) (by decide) rfl (by decide) ?_ (fun q1_115 => ?_)
  · refine gx_iconst (x := 3) (by decide) dX12_factOf_102 ?_
    exact gx_iret rfl rfl dX12_factOf_103
  refine gxt_swT (k := 116) (kI := 116) (off := 110) (tgt := 111) (by decide) dX12_factOf_1 (by decide) (by decide) rfl (by decide) ?_ (fun q1_116 => ?_)
  · refine gx_bipush (x := 7) (by decide) dX12_factOf_111 ?_
    exact gx_iret rfl rfl dX12_factOf_113
  refine gx_swTd (tgt := 114) dX12_factOf_1 (by have := lv_neT q1_97 (a := 97) (by decide); have := lv_neT q1_98 (a := 98) (by decide); have := lv_neT q1_99 (a := 99) (by decide); have := lv_neT q1_100 (a := 100) (by decide); have := lv_neT q1_101 (a := 101) (by decide); have := lv_neT q1_102 (a := 102) (by decide); have := lv_neT q1_103 (a := 103) (by decide); have := lv_neT q1_104 (a := 104) (by decide); have := lv_neT q1_105 (a := 105) (by decide); have := lv_neT q1_106 (a := 106) (by decide); have := lv_neT q1_107 (a := 107) (by decide); have := lv_neT q1_108 (a := 108) (by decide); have := lv_neT q1_109 (a := 109) (by decide); have := lv_neT q1_110 (a := 110) (by decide); have := lv_neT q1_111 (a := 111) (by decide); have := lv_neT q1_112 (a := 112) (by decide); have := lv_neT q1_113 (a := 113) (by decide); have := lv_neT q1_114 (a := 114) (by decide); have := lv_neT q1_115 (a := 115) (by decide); have := lv_neT q1_116 (a := 116) (by decide); omega) (by decide) ?_
  refine gx_iconst (x := (-1)) (by decide) dX12_factOf_114 ?_
  exact gx_iret rfl rfl dX12_factOf_115
theorem c_X12_factOf (d : Nat) (hd : 0 ≤ d) (v0 : Int32) (M : HMem) : MX iX12_factOf d [.inl v0] M (eP M) (some (f_X12_factOf v0)) := mx_of (by decide +kernel) (Nat.le_of_ble_eq_true rfl) rfl (w_X12_factOf d hd v0 M)
-- X12_sumSign
def f_X12_sumSign (v0 : Int32) : Int32 :=
  if v0 = 43 then
    (2)
  else
    (if v0 = 45 then
      (3)
    else
      (if v0 = 42 then
        (4)
      else
        (if v0 = 47 then
          (5)
        else
          (if v0 = 37 then
            (6)
          else
            ((-1))))))
set_option maxRecDepth 20000 in
theorem w_X12_sumSign (d : Nat) (hd : 0 ≤ d) (v0 : Int32) (M : HMem) : GX iX12_sumSign d (eP M) (some (f_X12_sumSign v0)) 0 [some (.inl v0)] [] M := by
  rw [f_X12_sumSign]
  refine gx_iload_n dX12_sumSign_0 rfl ?_
  refine gx_bipush (x := 43) (by decide) dX12_sumSign_1 ?_
  refine gxt_icmp_ne (tgt := 10) dX12_sumSign_3 (by decide) ?_ ?_
  · refine gx_iload_n dX12_sumSign_10 rfl ?_
    refine gx_bipush (x := 45) (by decide) dX12_sumSign_11 ?_
    refine gxt_icmp_ne (tgt := 20) dX12_sumSign_13 (by decide) ?_ ?_
    · refine gx_iload_n dX12_sumSign_20 rfl ?_
      refine gx_bipush (x := 42) (by decide) dX12_sumSign_21 ?_
      refine gxt_icmp_ne (tgt := 30) dX12_sumSign_23 (by decide) ?_ ?_
      · refine gx_iload_n dX12_sumSign_30 rfl ?_
        refine gx_bipush (x := 47) (by decide) dX12_sumSign_31 ?_
        refine gxt_icmp_ne (tgt := 40) dX12_sumSign_33 (by decide) ?_ ?_
        · refine gx_iload_n dX12_sumSign_40 rfl ?_
          refine gx_bipush (x := 37) (by decide) dX12_sumSign_41 ?_
          refine gxt_icmp_ne (tgt := 51) dX12_sumSign_43 (by decide) ?_ ?_
          · refine gx_iconst (x := (-1)) (by decide) dX12_sumSign_51 ?_
            exact gx_iret rfl rfl dX12_sumSign_52
          refine gx_bipush (x := 6) (by decide) dX12_sumSign_46 ?_
          refine gx_goto (tgt := 52) dX12_sumSign_48 (by decide) ?_
          exact gx_iret rfl rfl dX12_sumSign_52
        refine gx_iconst (x := 5) (by decide) dX12_sumSign_36 ?_
        refine gx_goto (tgt := 52) dX12_sumSign_37 (by decide) ?_
        exact gx_iret rfl rfl dX12_sumSign_52
      refine gx_iconst (x := 4) (by decide) dX12_sumSign_26 ?_
      refine gx_goto (tgt := 52) dX12_sumSign_27 (by decide) ?_
      exact gx_iret rfl rfl dX12_sumSign_52
    refine gx_iconst (x := 3) (by decide) dX12_sumSign_16 ?_
    refine gx_goto (tgt := 52) dX12_sumSign_17 (by decide) ?_
    exact gx_iret rfl rfl dX12_sumSign_52
  refine gx_iconst (x := 2) (by decide) dX12_sumSign_6 ?_
  refine gx_goto (tgt := 52) dX12_sumSign_7 (by decide) ?_
  exact gx_iret rfl rfl dX12_sumSign_52
theorem c_X12_sumSign (d : Nat) (hd : 0 ≤ d) (v0 : Int32) (M : HMem) : MX iX12_sumSign d [.inl v0] M (eP M) (some (f_X12_sumSign v0)) := mx_of (by decide +kernel) (Nat.le_of_ble_eq_true rfl) rfl (w_X12_sumSign d hd v0 M)
-- X12_closesSums
def f_X12_closesSums_J37 (n : Nat) (r0 : HMem → Option HMem) (v1 : Int32) (M : HMem) : Option HMem :=
  hb1 (f_X12_waitTop  M) (fun x101 =>
  hb1 (f_X12_notes x101 0 M) (fun M102 =>
  r0  (hset M102 74 19 ((M102 74 19) - 1))))
set_option maxRecDepth 20000 in
theorem w_X12_closesSums_J37 (d : Nat) (hd : 1 ≤ d) (n : Nat) (r0 : HMem → Option HMem) (M : HMem) (v1 : Int32) (hr0 : ∀  (M : HMem), GX iX12_closesSums d eV (r0  M) 0 [some (.inr (some 74)), some (.inl v1)] [] M) : GX iX12_closesSums d eV (f_X12_closesSums_J37 n r0 v1 M) 37 [some (.inr (some 74)), some (.inl v1)] [] M := by
  rw [f_X12_closesSums_J37]
  refine gx_aload_n dX12_closesSums_37 rfl ?_
  refine gx_aload_n dX12_closesSums_38 rfl ?_
  refine gx_cV_ip (av := []) (st := [.inr (some 74)]) ml_X12_170 (by omega) sh74 (c_X12_waitTop (d - 1) (by omega)  M) rfl rfl (Nat.le_of_ble_eq_true rfl) dX12_closesSums_39 (fun x101 => ?_)
  refine gx_iconst (x := 0) (by decide) dX12_closesSums_42 ?_
  refine gx_cV_vm (av := [.inl x101, .inl 0]) (st := []) ml_X12_173 (by omega) sh74 (c_X12_notes (d - 1) (by omega) x101 0 M) rfl rfl (Nat.le_of_ble_eq_true rfl) dX12_closesSums_43 (fun M102 => ?_)
  refine gx_aload_n dX12_closesSums_46 rfl ?_
  refine gx_aload_n dX12_closesSums_47 rfl ?_
  refine gx_getI fl_X12_167 sh74 rfl dX12_closesSums_48 ?_
  refine gx_iconst (x := 1) (by decide) dX12_closesSums_51 ?_
  refine gx_isub dX12_closesSums_52 ?_
  refine gx_putI fl_X12_167 fp_X12_19 sh74 rfl dX12_closesSums_53 ?_
  refine gx_goto (tgt := 0) dX12_closesSums_56 (by decide) ?_
  refine gx_mk (lv' := [some (.inr (some 74)), some (.inl v1)]) [true, true] rfl ?_
  exact hr0  (hset M102 74 19 ((M102 74 19) - 1))
def f_X12_closesSums_J17 (n : Nat) (r0 : HMem → Option HMem) (v1 : Int32) (M : HMem) : Option HMem :=
  if v1 = 0 then
    (some M)
  else
    (hb1 (f_X12_waitTop  M) (fun x101 =>
    if x101 = 2 then
      (f_X12_closesSums_J37 n r0 v1 M)
    else
      (hb1 (f_X12_waitTop  M) (fun x102 =>
      if x102 = 3 then
        (f_X12_closesSums_J37 n r0 v1 M)
      else
        (some M)))))
set_option maxRecDepth 20000 in
theorem w_X12_closesSums_J17 (d : Nat) (hd : 1 ≤ d) (n : Nat) (r0 : HMem → Option HMem) (M : HMem) (v1 : Int32) (hr0 : ∀  (M : HMem), GX iX12_closesSums d eV (r0  M) 0 [some (.inr (some 74)), some (.inl v1)] [] M) : GX iX12_closesSums d eV (f_X12_closesSums_J17 n r0 v1 M) 17 [some (.inr (some 74)), some (.inl v1)] [] M := by
  rw [f_X12_closesSums_J17]
  refine gx_iload_n dX12_closesSums_17 rfl ?_
  refine gx_if_eq (tgt := 59) dX12_closesSums_18 (by decide) ?_ ?_
  · exact gx_vret rfl rfl dX12_closesSums_59
  refine gx_aload_n dX12_closesSums_21 rfl ?_
  refine gx_cV_ip (av := []) (st := []) ml_X12_170 (by omega) sh74 (c_X12_waitTop (d - 1) (by omega)  M) rfl rfl (Nat.le_of_ble_eq_true rfl) dX12_closesSums_22 (fun x101 => ?_)
  refine gx_iconst (x := 2) (by decide) dX12_closesSums_25 ?_
  refine gx_icmp_eq (tgt := 37) dX12_closesSums_26 (by decide) ?_ ?_
  · refine gx_mk (lv' := [some (.inr (some 74)), some (.inl v1)]) [true, true] rfl ?_
    exact w_X12_closesSums_J37 d hd n r0 M v1 hr0
  refine gx_aload_n dX12_closesSums_29 rfl ?_
  refine gx_cV_ip (av := []) (st := []) ml_X12_170 (by omega) sh74 (c_X12_waitTop (d - 1) (by omega)  M) rfl rfl (Nat.le_of_ble_eq_true rfl) dX12_closesSums_30 (fun x102 => ?_)
  refine gx_iconst (x := 3) (by decide) dX12_closesSums_33 ?_
  refine gx_icmp_ne (tgt := 59) dX12_closesSums_34 (by decide) ?_ ?_
  · exact gx_vret rfl rfl dX12_closesSums_59
  refine gx_mk (lv' := [some (.inr (some 74)), some (.inl v1)]) [true, true] rfl ?_
  exact w_X12_closesSums_J37 d hd n r0 M v1 hr0
def f_X12_closesSums_L0 (n : Nat) (v1 : Int32) : Nat → HMem → Option HMem
  | 0, _ => none
  | k + 1, M =>
    hb1 (f_X12_waitTop  M) (fun x101 =>
    if x101 < 4 then
      (f_X12_closesSums_J17 n (f_X12_closesSums_L0 n v1 k) v1 M)
    else
      (hb1 (f_X12_waitTop  M) (fun x102 =>
      if x102 ≤ 6 then
        (f_X12_closesSums_J37 n (f_X12_closesSums_L0 n v1 k) v1 M)
      else
        (f_X12_closesSums_J17 n (f_X12_closesSums_L0 n v1 k) v1 M))))
set_option maxRecDepth 20000 in
theorem w_X12_closesSums_L0 (d : Nat) (hd : 1 ≤ d) (n : Nat) (v1 : Int32) : ∀ (k : Nat)  (M : HMem), GX iX12_closesSums d eV (f_X12_closesSums_L0 n v1 k  M) 0 [some (.inr (some 74)), some (.inl v1)] [] M := by
  intro k
  induction k with
  | zero => intro  M; exact gx_none
  | succ k ih =>
    intro  M
    rw [f_X12_closesSums_L0]
    refine gx_aload_n dX12_closesSums_0 rfl ?_
    refine gx_cV_ip (av := []) (st := []) ml_X12_170 (by omega) sh74 (c_X12_waitTop (d - 1) (by omega)  M) rfl rfl (Nat.le_of_ble_eq_true rfl) dX12_closesSums_1 (fun x101 => ?_)
    refine gx_iconst (x := 4) (by decide) dX12_closesSums_4 ?_
    refine gx_icmp_lt (tgt := 17) dX12_closesSums_5 (by decide) ?_ ?_
    · refine gx_mk (lv' := [some (.inr (some 74)), some (.inl v1)]) [true, true] rfl ?_
      exact w_X12_closesSums_J17 d hd n (f_X12_closesSums_L0 n v1 k) M v1 ih
    refine gx_aload_n dX12_closesSums_8 rfl ?_
    refine gx_cV_ip (av := []) (st := []) ml_X12_170 (by omega) sh74 (c_X12_waitTop (d - 1) (by omega)  M) rfl rfl (Nat.le_of_ble_eq_true rfl) dX12_closesSums_9 (fun x102 => ?_)
    refine gx_bipush (x := 6) (by decide) dX12_closesSums_12 ?_
    refine gx_icmp_le (tgt := 37) dX12_closesSums_14 (by decide) ?_ ?_
    · refine gx_mk (lv' := [some (.inr (some 74)), some (.inl v1)]) [true, true] rfl ?_
      exact w_X12_closesSums_J37 d hd n (f_X12_closesSums_L0 n v1 k) M v1 ih
    refine gx_mk (lv' := [some (.inr (some 74)), some (.inl v1)]) [true, true] rfl ?_
    exact w_X12_closesSums_J17 d hd n (f_X12_closesSums_L0 n v1 k) M v1 ih
def f_X12_closesSums (n : Nat) (v1 : Int32) (M : HMem) : Option HMem :=
  f_X12_closesSums_L0 n v1 n  M
set_option maxRecDepth 20000 in
theorem w_X12_closesSums (d : Nat) (hd : 1 ≤ d) (n : Nat) (v1 : Int32) (M : HMem) : GX iX12_closesSums d eV (f_X12_closesSums n v1 M) 0 [some (.inr (some 74)), some (.inl v1)] [] M := by
  rw [f_X12_closesSums]
  refine gx_mk (lv' := [some (.inr (some 74)), some (.inl v1)]) [true, true] rfl ?_
  exact w_X12_closesSums_L0 d hd n v1 n  M
theorem c_X12_closesSums (d : Nat) (hd : 1 ≤ d) (n : Nat) (v1 : Int32) (M : HMem) : MX iX12_closesSums d [.inr (some 74), .inl v1] M eV (f_X12_closesSums n v1 M) := mx_of (by decide +kernel) (Nat.le_of_ble_eq_true rfl) rfl (w_X12_closesSums d hd n v1 M)
-- X12_readsFactor
def f_X12_readsFactor_L0 (n : Nat)  : Nat → HMem → Option (Int32 × HMem)
  | 0, _ => none
  | k + 1, M =>
    hb1 (f_X12_here  M) (fun x101 =>
    if x101 = 91 then
      (hb2 (f_X12_opens 14 M) (fun x110 M111 =>
      if x110 = 0 then
        (some (0, M111))
      else
        (f_X12_readsFactor_L0 n k  M111)))
    else
      (hb1 (f_X12_isDigit  M) (fun x102 =>
      if x102 = 0 then
        (hb1 (f_X12_here  M) (fun x103 =>
        if (f_X12_factOf x103) = (-1) then
          (hb2 (f_X12_wrongAt 1 (M 74 13) M) (fun x105 M106 =>
          if x105 &&& 1 = x105 then some (x105, M106) else none))
        else
          (hb1 (f_X12_notes 1 (f_X12_factOf x103) M) (fun M104 =>
          some (1, hset M104 74 13 ((M104 74 13) + 1))))))
      else
        (hb2 (f_X12_readsNumber n  M) (fun x107 M108 =>
        if x107 = 0 then
          (some (0, M108))
        else
          (hb1 (f_X12_notes 0 (M108 74 16) M108) (fun M109 =>
          some (1, M109))))))))
set_option maxRecDepth 20000 in
theorem w_X12_readsFactor_L0 (d : Nat) (hd : 3 ≤ d) (n : Nat)  : ∀ (k : Nat)  (M : HMem), GX iX12_readsFactor d eI (f_X12_readsFactor_L0 n k  M) 0 [some (.inr (some 74)), none] [] M := by
  intro k
  induction k with
  | zero => intro  M; exact gx_none
  | succ k ih =>
    intro  M
    rw [f_X12_readsFactor_L0]
    refine gx_aload_n dX12_readsFactor_0 rfl ?_
    refine gx_cV_ip (av := []) (st := []) ml_X12_143 (by omega) sh74 (c_X12_here (d - 1) (by omega)  M) rfl rfl (Nat.le_of_ble_eq_true rfl) dX12_readsFactor_1 (fun x101 => ?_)
    refine gx_bipush (x := 91) (by decide) dX12_readsFactor_4 ?_
    refine gx_icmp_ne (tgt := 20) dX12_readsFactor_6 (by decide) ?_ ?_
    · refine gx_aload_n dX12_readsFactor_20 rfl ?_
      refine gx_cV_ip (av := []) (st := []) ml_X12_156 (by omega) sh74 (c_X12_isDigit (d - 1) (by omega)  M) rfl rfl (Nat.le_of_ble_eq_true rfl) dX12_readsFactor_21 (fun x102 => ?_)
      refine gx_if_eq (tgt := 47) dX12_readsFactor_24 (by decide) ?_ ?_
      · refine gx_aload_n dX12_readsFactor_47 rfl ?_
        refine gx_cV_ip (av := []) (st := []) ml_X12_143 (by omega) sh74 (c_X12_here (d - 1) (by omega)  M) rfl rfl (Nat.le_of_ble_eq_true rfl) dX12_readsFactor_48 (fun x103 => ?_)
        refine gx_cS_it (av := [.inl x103]) (st := []) ml_X12_183 (by omega) (c_X12_factOf (d - 1) (by omega) x103 M) rfl rfl (Nat.le_of_ble_eq_true rfl) dX12_readsFactor_51 ?_
        refine gx_istore_n (lv' := [some (.inr (some 74)), some (.inl (f_X12_factOf x103))]) dX12_readsFactor_54 (by decide) rfl ?_
        refine gx_iload_n dX12_readsFactor_55 rfl ?_
        refine gx_iconst (x := (-1)) (by decide) dX12_readsFactor_56 ?_
        refine gx_icmp_ne (tgt := 70) dX12_readsFactor_57 (by decide) ?_ ?_
        · refine gx_aload_n dX12_readsFactor_70 rfl ?_
          refine gx_iconst (x := 1) (by decide) dX12_readsFactor_71 ?_
          refine gx_iload_n dX12_readsFactor_72 rfl ?_
          refine gx_cV_vm (av := [.inl 1, .inl (f_X12_factOf x103)]) (st := []) ml_X12_173 (by omega) sh74 (c_X12_notes (d - 1) (by omega) 1 (f_X12_factOf x103) M) rfl rfl (Nat.le_of_ble_eq_true rfl) dX12_readsFactor_73 (fun M104 => ?_)
          refine gx_aload_n dX12_readsFactor_76 rfl ?_
          refine gx_aload_n dX12_readsFactor_77 rfl ?_
          refine gx_getI fl_X12_137 sh74 rfl dX12_readsFactor_78 ?_
          refine gx_iconst (x := 1) (by decide) dX12_readsFactor_81 ?_
          refine gx_iadd dX12_readsFactor_82 ?_
          refine gx_putI fl_X12_137 fp_X12_13 sh74 rfl dX12_readsFactor_83 ?_
          refine gx_iconst (x := 1) (by decide) dX12_readsFactor_86 ?_
          exact gx_zret rfl (by decide) rfl dX12_readsFactor_87
        refine gx_aload_n dX12_readsFactor_60 rfl ?_
        refine gx_iconst (x := 1) (by decide) dX12_readsFactor_61 ?_
        refine gx_aload_n dX12_readsFactor_62 rfl ?_
        refine gx_getI fl_X12_137 sh74 rfl dX12_readsFactor_63 ?_
        refine gx_cV_im (av := [.inl 1, .inl (M 74 13)]) (st := []) ml_X12_150 (by omega) sh74 (c_X12_wrongAt (d - 1) (by omega) 1 (M 74 13) M) rfl rfl (Nat.le_of_ble_eq_true rfl) dX12_readsFactor_66 (fun x105 M106 => ?_)
        exact gx_zretG rfl rfl dX12_readsFactor_69
      refine gx_aload_n dX12_readsFactor_27 rfl ?_
      refine gx_cV_im (av := []) (st := []) ml_X12_180 (by omega) sh74 (c_X12_readsNumber (d - 1) (by omega) n  M) rfl rfl (Nat.le_of_ble_eq_true rfl) dX12_readsFactor_28 (fun x107 M108 => ?_)
      refine gx_if_ne (tgt := 36) dX12_readsFactor_31 (by decide) ?_ ?_
      · refine gx_aload_n dX12_readsFactor_36 rfl ?_
        refine gx_iconst (x := 0) (by decide) dX12_readsFactor_37 ?_
        refine gx_aload_n dX12_readsFactor_38 rfl ?_
        refine gx_getI fl_X12_153 sh74 rfl dX12_readsFactor_39 ?_
        refine gx_cV_vm (av := [.inl 0, .inl (M108 74 16)]) (st := []) ml_X12_173 (by omega) sh74 (c_X12_notes (d - 1) (by omega) 0 (M108 74 16) M108) rfl rfl (Nat.le_of_ble_eq_true rfl) dX12_readsFactor_42 (fun M109 => ?_)
        refine gx_iconst (x := 1) (by decide) dX12_readsFactor_45 ?_
        exact gx_zret rfl (by decide) rfl dX12_readsFactor_46
      refine gx_iconst (x := 0) (by decide) dX12_readsFactor_34 ?_
      exact gx_zret rfl (by decide) rfl dX12_readsFactor_35
    refine gx_aload_n dX12_readsFactor_9 rfl ?_
    refine gx_bipush (x := 14) (by decide) dX12_readsFactor_10 ?_
    refine gx_cV_im (av := [.inl 14]) (st := []) ml_X12_177 (by omega) sh74 (c_X12_opens (d - 1) (by omega) 14 M) rfl rfl (Nat.le_of_ble_eq_true rfl) dX12_readsFactor_12 (fun x110 M111 => ?_)
    refine gx_if_ne (tgt := 0) dX12_readsFactor_15 (by decide) ?_ ?_
    · refine gx_mk (lv' := [some (.inr (some 74)), none]) [true, false] rfl ?_
      exact ih  M111
    refine gx_iconst (x := 0) (by decide) dX12_readsFactor_18 ?_
    exact gx_zret rfl (by decide) rfl dX12_readsFactor_19
def f_X12_readsFactor (n : Nat)  (M : HMem) : Option (Int32 × HMem) :=
  f_X12_readsFactor_L0 n n  M
set_option maxRecDepth 20000 in
theorem w_X12_readsFactor (d : Nat) (hd : 3 ≤ d) (n : Nat)  (M : HMem) : GX iX12_readsFactor d eI (f_X12_readsFactor n  M) 0 [some (.inr (some 74)), none] [] M := by
  rw [f_X12_readsFactor]
  refine gx_mk (lv' := [some (.inr (some 74)), none]) [true, false] rfl ?_
  exact w_X12_readsFactor_L0 d hd n  n  M
theorem c_X12_readsFactor (d : Nat) (hd : 3 ≤ d) (n : Nat)  (M : HMem) : MX iX12_readsFactor d [.inr (some 74)] M eI (f_X12_readsFactor n  M) := mx_of (by decide +kernel) (Nat.le_of_ble_eq_true rfl) rfl (w_X12_readsFactor d hd n  M)
-- X12_hasOpenSum
def f_X12_hasOpenSum_L2 (n : Nat)  (M : HMem) : Nat → Int32 → Option Int32
  | 0, _ => none
  | k + 1, v2 =>
    if (M 74 19) ≤ v2 then
      (some 0)
    else
      (if hib v2 260 then
      if ((M 86 (Int32.toNatClampNeg v2)) / 1048576) = 14 then
        (some 1)
      else
        (f_X12_hasOpenSum_L2 n M k (v2 + 1))
      else none)
set_option maxRecDepth 20000 in
theorem w_X12_hasOpenSum_L2 (d : Nat) (hd : 0 ≤ d) (n : Nat) (M : HMem)  : ∀ (k : Nat) (v2 : Int32), GX iX12_hasOpenSum d (eP M) (f_X12_hasOpenSum_L2 n M k v2) 2 [some (.inr (some 74)), none, some (.inl v2)] [] M := by
  intro k
  induction k with
  | zero => intro v2; exact gx_none
  | succ k ih =>
    intro v2
    rw [f_X12_hasOpenSum_L2]
    refine gx_iload_n dX12_hasOpenSum_2 rfl ?_
    refine gx_aload_n dX12_hasOpenSum_3 rfl ?_
    refine gx_getI fl_X12_167 sh74 rfl dX12_hasOpenSum_4 ?_
    refine gx_icmp_ge (tgt := 32) dX12_hasOpenSum_7 (by decide) ?_ ?_
    · refine gx_iconst (x := 0) (by decide) dX12_hasOpenSum_32 ?_
      exact gx_zret rfl (by decide) rfl dX12_hasOpenSum_33
    refine gx_aload_n dX12_hasOpenSum_10 rfl ?_
    refine gx_getR fl_X12_44 sh74 rfl dX12_hasOpenSum_11 ?_
    refine gx_iload_n dX12_hasOpenSum_14 rfl ?_
    refine gx_iaload sh86 dX12_hasOpenSum_15 ?_
    refine gx_ldc (x := 1048576) mw1455 dX12_hasOpenSum_16 ?_
    refine gx_idivL (by decide) dX12_hasOpenSum_18 ?_
    refine gx_bipush (x := 14) (by decide) dX12_hasOpenSum_19 ?_
    refine gx_icmp_ne (tgt := 26) dX12_hasOpenSum_21 (by decide) ?_ ?_
    · refine gx_iinc (y := v2 + 1) (lv' := [some (.inr (some 74)), none, some (.inl (v2 + 1))]) dX12_hasOpenSum_26 rfl rfl (by decide) rfl ?_
      refine gx_goto (tgt := 2) dX12_hasOpenSum_29 (by decide) ?_
      refine gx_mk (lv' := [some (.inr (some 74)), none, some (.inl (v2 + 1))]) [true, false, true] rfl ?_
      exact ih (v2 + 1)
    refine gx_iconst (x := 1) (by decide) dX12_hasOpenSum_24 ?_
    exact gx_zret rfl (by decide) rfl dX12_hasOpenSum_25
def f_X12_hasOpenSum (n : Nat) (v1 : Int32) (M : HMem) : Option Int32 :=
  f_X12_hasOpenSum_L2 n M n v1
set_option maxRecDepth 20000 in
theorem w_X12_hasOpenSum (d : Nat) (hd : 0 ≤ d) (n : Nat) (v1 : Int32) (M : HMem) : GX iX12_hasOpenSum d (eP M) (f_X12_hasOpenSum n v1 M) 0 [some (.inr (some 74)), some (.inl v1), none] [] M := by
  rw [f_X12_hasOpenSum]
  refine gx_iload_n dX12_hasOpenSum_0 rfl ?_
  refine gx_istore_n (lv' := [some (.inr (some 74)), some (.inl v1), some (.inl v1)]) dX12_hasOpenSum_1 (by decide) rfl ?_
  refine gx_mk (lv' := [some (.inr (some 74)), none, some (.inl v1)]) [true, false, true] rfl ?_
  exact w_X12_hasOpenSum_L2 d hd n M  n v1
theorem c_X12_hasOpenSum (d : Nat) (hd : 0 ≤ d) (n : Nat) (v1 : Int32) (M : HMem) : MX iX12_hasOpenSum d [.inr (some 74), .inl v1] M (eP M) (f_X12_hasOpenSum n v1 M) := mx_of (by decide +kernel) (Nat.le_of_ble_eq_true rfl) rfl (w_X12_hasOpenSum d hd n v1 M)
-- X12_readsSum
def f_X12_readsSum_J138 (n : Nat) (v1 : Int32) (M : HMem) : Option (Int32 × HMem) :=
  hb1 (f_X12_hasOpenSum n v1 M) (fun x101 =>
  if x101 = 0 then
    (hb1 (f_X12_closesSums n 1 M) (fun M102 =>
    some (1, M102)))
  else
    (hb2 (f_X12_wrongAt 1 (M 74 13) M) (fun x103 M104 =>
    if x103 &&& 1 = x103 then some (x103, M104) else none)))
set_option maxRecDepth 20000 in
theorem w_X12_readsSum_J138 (d : Nat) (hd : 4 ≤ d) (n : Nat) (M : HMem) (v1 : Int32) : GX iX12_readsSum d eI (f_X12_readsSum_J138 n v1 M) 138 [some (.inr (some 74)), some (.inl v1), none] [] M := by
  rw [f_X12_readsSum_J138]
  refine gx_aload_n dX12_readsSum_138 rfl ?_
  refine gx_iload_n dX12_readsSum_139 rfl ?_
  refine gx_cV_ip (av := [.inl v1]) (st := []) ml_X12_197 (by omega) sh74 (c_X12_hasOpenSum (d - 1) (by omega) n v1 M) rfl rfl (Nat.le_of_ble_eq_true rfl) dX12_readsSum_140 (fun x101 => ?_)
  refine gx_if_eq (tgt := 156) dX12_readsSum_143 (by decide) ?_ ?_
  · refine gx_aload_n dX12_readsSum_156 rfl ?_
    refine gx_iconst (x := 1) (by decide) dX12_readsSum_157 ?_
    refine gx_cV_vm (av := [.inl 1]) (st := []) ml_X12_193 (by omega) sh74 (c_X12_closesSums (d - 1) (by omega) n 1 M) rfl rfl (Nat.le_of_ble_eq_true rfl) dX12_readsSum_158 (fun M102 => ?_)
    refine gx_iconst (x := 1) (by decide) dX12_readsSum_161 ?_
    exact gx_zret rfl (by decide) rfl dX12_readsSum_162
  refine gx_aload_n dX12_readsSum_146 rfl ?_
  refine gx_iconst (x := 1) (by decide) dX12_readsSum_147 ?_
  refine gx_aload_n dX12_readsSum_148 rfl ?_
  refine gx_getI fl_X12_137 sh74 rfl dX12_readsSum_149 ?_
  refine gx_cV_im (av := [.inl 1, .inl (M 74 13)]) (st := []) ml_X12_150 (by omega) sh74 (c_X12_wrongAt (d - 1) (by omega) 1 (M 74 13) M) rfl rfl (Nat.le_of_ble_eq_true rfl) dX12_readsSum_152 (fun x103 M104 => ?_)
  exact gx_zretG rfl rfl dX12_readsSum_155
def f_X12_readsSum_J38 (n : Nat) (r14 : HMem → Option (Int32 × HMem)) (v1 : Int32) (v2 : Int32) (s0 : Int32) (M : HMem) : Option (Int32 × HMem) :=
  hb1 (f_X12_closesSums n s0 M) (fun M101 =>
  if hib (M101 74 19) 260 then
  hb1 (some (hset M101 86 (Int32.toNatClampNeg (M101 74 19)) (1048576 * v2))) (fun M102 =>
  hb1 (some (hset (hset M102 74 19 ((M102 74 19) + 1)) 74 13 (((hset M102 74 19 ((M102 74 19) + 1)) 74 13) + 1))) (fun M103 =>
  hb2 (f_X12_readsFactor n  M103) (fun x104 M105 =>
  if x104 = 0 then
    (some (0, M105))
  else
    (r14  M105))))
  else none)
set_option maxRecDepth 20000 in
theorem w_X12_readsSum_J38 (d : Nat) (hd : 4 ≤ d) (n : Nat) (r14 : HMem → Option (Int32 × HMem)) (M : HMem) (v1 : Int32) (v2 : Int32) (s0 : Int32) (hr14 : ∀  (M : HMem), GX iX12_readsSum d eI (r14  M) 14 [some (.inr (some 74)), some (.inl v1), none] [] M) : GX iX12_readsSum d eI (f_X12_readsSum_J38 n r14 v1 v2 s0 M) 38 [some (.inr (some 74)), some (.inl v1), some (.inl v2)] [.inl s0, .inr (some 74)] M := by
  rw [f_X12_readsSum_J38]
  refine gx_cV_vm (av := [.inl s0]) (st := []) ml_X12_193 (by omega) sh74 (c_X12_closesSums (d - 1) (by omega) n s0 M) rfl rfl (Nat.le_of_ble_eq_true rfl) dX12_readsSum_38 (fun M101 => ?_)
  refine gx_aload_n dX12_readsSum_41 rfl ?_
  refine gx_getR fl_X12_44 sh74 rfl dX12_readsSum_42 ?_
  refine gx_aload_n dX12_readsSum_45 rfl ?_
  refine gx_getI fl_X12_167 sh74 rfl dX12_readsSum_46 ?_
  refine gx_ldc (x := 1048576) mw1455 dX12_readsSum_49 ?_
  refine gx_iload_n dX12_readsSum_51 rfl ?_
  refine gx_imul dX12_readsSum_52 ?_
  refine gx_iastore sh86 dX12_readsSum_53 ?_
  refine gx_aload_n dX12_readsSum_54 rfl ?_
  refine gx_aload_n dX12_readsSum_55 rfl ?_
  refine gx_nm (fun M102 => ?_)
  refine gx_getI fl_X12_167 sh74 rfl dX12_readsSum_56 ?_
  refine gx_iconst (x := 1) (by decide) dX12_readsSum_59 ?_
  refine gx_iadd dX12_readsSum_60 ?_
  refine gx_putI fl_X12_167 fp_X12_19 sh74 rfl dX12_readsSum_61 ?_
  refine gx_aload_n dX12_readsSum_64 rfl ?_
  refine gx_aload_n dX12_readsSum_65 rfl ?_
  refine gx_getI fl_X12_137 sh74 rfl dX12_readsSum_66 ?_
  refine gx_iconst (x := 1) (by decide) dX12_readsSum_69 ?_
  refine gx_iadd dX12_readsSum_70 ?_
  refine gx_putI fl_X12_137 fp_X12_13 sh74 rfl dX12_readsSum_71 ?_
  refine gx_aload_n dX12_readsSum_74 rfl ?_
  refine gx_nm (fun M103 => ?_)
  refine gx_cV_im (av := []) (st := []) ml_X12_187 (by omega) sh74 (c_X12_readsFactor (d - 1) (by omega) n  M103) rfl rfl (Nat.le_of_ble_eq_true rfl) dX12_readsSum_75 (fun x104 M105 => ?_)
  refine gx_if_ne (tgt := 163) dX12_readsSum_78 (by decide) ?_ ?_
  · refine gx_goto (tgt := 14) dX12_readsSum_163 (by decide) ?_
    refine gx_mk (lv' := [some (.inr (some 74)), some (.inl v1), none]) [true, true, false] rfl ?_
    exact hr14  M105
  refine gx_iconst (x := 0) (by decide) dX12_readsSum_81 ?_
  exact gx_zret rfl (by decide) rfl dX12_readsSum_82
def f_X12_readsSum_L14 (n : Nat) (v1 : Int32) : Nat → HMem → Option (Int32 × HMem)
  | 0, _ => none
  | k + 1, M =>
    hb1 (f_X12_here  M) (fun x101 =>
    if (f_X12_sumSign x101) = (-1) then
      (hb1 (f_X12_here  M) (fun x102 =>
      if x102 = 93 then
        (hb1 (f_X12_hasOpenSum n v1 M) (fun x103 =>
        if x103 = 0 then
          (f_X12_readsSum_J138 n v1 M)
        else
          (hb1 (f_X12_closesSums n 1 M) (fun M104 =>
          hb1 (some (hset (hset M104 74 19 ((M104 74 19) - 1)) 74 17 (((hset M104 74 19 ((M104 74 19) - 1)) 74 17) - 1))) (fun M105 =>
          f_X12_readsSum_L14 n v1 k  (hset M105 74 13 ((M105 74 13) + 1)))))))
      else
        (f_X12_readsSum_J138 n v1 M)))
    else
      (if 4 ≤ (f_X12_sumSign x101) then
        (f_X12_readsSum_J38 n (f_X12_readsSum_L14 n v1 k) v1 (f_X12_sumSign x101) 0 M)
      else
        (f_X12_readsSum_J38 n (f_X12_readsSum_L14 n v1 k) v1 (f_X12_sumSign x101) 1 M)))
set_option maxRecDepth 20000 in
theorem w_X12_readsSum_L14 (d : Nat) (hd : 4 ≤ d) (n : Nat) (v1 : Int32) : ∀ (k : Nat)  (M : HMem), GX iX12_readsSum d eI (f_X12_readsSum_L14 n v1 k  M) 14 [some (.inr (some 74)), some (.inl v1), none] [] M := by
  intro k
  induction k with
  | zero => intro  M; exact gx_none
  | succ k ih =>
    intro  M
    rw [f_X12_readsSum_L14]
    refine gx_aload_n dX12_readsSum_14 rfl ?_
    refine gx_cV_ip (av := []) (st := []) ml_X12_143 (by omega) sh74 (c_X12_here (d - 1) (by omega)  M) rfl rfl (Nat.le_of_ble_eq_true rfl) dX12_readsSum_15 (fun x101 => ?_)
    refine gx_cS_it (av := [.inl x101]) (st := []) ml_X12_190 (by omega) (c_X12_sumSign (d - 1) (by omega) x101 M) rfl rfl (Nat.le_of_ble_eq_true rfl) dX12_readsSum_18 ?_
    refine gx_istore_n (lv' := [some (.inr (some 74)), some (.inl v1), some (.inl (f_X12_sumSign x101))]) dX12_readsSum_21 (by decide) rfl ?_
    refine gx_iload_n dX12_readsSum_22 rfl ?_
    refine gx_iconst (x := (-1)) (by decide) dX12_readsSum_23 ?_
    refine gx_icmp_eq (tgt := 83) dX12_readsSum_24 (by decide) ?_ ?_
    · refine gx_aload_n dX12_readsSum_83 rfl ?_
      refine gx_cV_ip (av := []) (st := []) ml_X12_143 (by omega) sh74 (c_X12_here (d - 1) (by omega)  M) rfl rfl (Nat.le_of_ble_eq_true rfl) dX12_readsSum_84 (fun x102 => ?_)
      refine gx_bipush (x := 93) (by decide) dX12_readsSum_87 ?_
      refine gx_icmp_ne (tgt := 138) dX12_readsSum_89 (by decide) ?_ ?_
      · refine gx_mk (lv' := [some (.inr (some 74)), some (.inl v1), none]) [true, true, false] rfl ?_
        exact w_X12_readsSum_J138 d hd n M v1
      refine gx_aload_n dX12_readsSum_92 rfl ?_
      refine gx_iload_n dX12_readsSum_93 rfl ?_
      refine gx_cV_ip (av := [.inl v1]) (st := []) ml_X12_197 (by omega) sh74 (c_X12_hasOpenSum (d - 1) (by omega) n v1 M) rfl rfl (Nat.le_of_ble_eq_true rfl) dX12_readsSum_94 (fun x103 => ?_)
      refine gx_if_eq (tgt := 138) dX12_readsSum_97 (by decide) ?_ ?_
      · refine gx_mk (lv' := [some (.inr (some 74)), some (.inl v1), none]) [true, true, false] rfl ?_
        exact w_X12_readsSum_J138 d hd n M v1
      refine gx_aload_n dX12_readsSum_100 rfl ?_
      refine gx_iconst (x := 1) (by decide) dX12_readsSum_101 ?_
      refine gx_cV_vm (av := [.inl 1]) (st := []) ml_X12_193 (by omega) sh74 (c_X12_closesSums (d - 1) (by omega) n 1 M) rfl rfl (Nat.le_of_ble_eq_true rfl) dX12_readsSum_102 (fun M104 => ?_)
      refine gx_aload_n dX12_readsSum_105 rfl ?_
      refine gx_aload_n dX12_readsSum_106 rfl ?_
      refine gx_getI fl_X12_167 sh74 rfl dX12_readsSum_107 ?_
      refine gx_iconst (x := 1) (by decide) dX12_readsSum_110 ?_
      refine gx_isub dX12_readsSum_111 ?_
      refine gx_putI fl_X12_167 fp_X12_19 sh74 rfl dX12_readsSum_112 ?_
      refine gx_aload_n dX12_readsSum_115 rfl ?_
      refine gx_aload_n dX12_readsSum_116 rfl ?_
      refine gx_getI fl_X12_164 sh74 rfl dX12_readsSum_117 ?_
      refine gx_iconst (x := 1) (by decide) dX12_readsSum_120 ?_
      refine gx_isub dX12_readsSum_121 ?_
      refine gx_putI fl_X12_164 fp_X12_17 sh74 rfl dX12_readsSum_122 ?_
      refine gx_aload_n dX12_readsSum_125 rfl ?_
      refine gx_aload_n dX12_readsSum_126 rfl ?_
      refine gx_nm (fun M105 => ?_)
      refine gx_getI fl_X12_137 sh74 rfl dX12_readsSum_127 ?_
      refine gx_iconst (x := 1) (by decide) dX12_readsSum_130 ?_
      refine gx_iadd dX12_readsSum_131 ?_
      refine gx_putI fl_X12_137 fp_X12_13 sh74 rfl dX12_readsSum_132 ?_
      refine gx_goto (tgt := 163) dX12_readsSum_135 (by decide) ?_
      refine gx_goto (tgt := 14) dX12_readsSum_163 (by decide) ?_
      refine gx_mk (lv' := [some (.inr (some 74)), some (.inl v1), none]) [true, true, false] rfl ?_
      exact ih  (hset M105 74 13 ((M105 74 13) + 1))
    refine gx_aload_n dX12_readsSum_27 rfl ?_
    refine gx_iload_n dX12_readsSum_28 rfl ?_
    refine gx_iconst (x := 4) (by decide) dX12_readsSum_29 ?_
    refine gx_icmp_ge (tgt := 37) dX12_readsSum_30 (by decide) ?_ ?_
    · refine gx_iconst (x := 0) (by decide) dX12_readsSum_37 ?_
      refine gx_mk (lv' := [some (.inr (some 74)), some (.inl v1), some (.inl (f_X12_sumSign x101))]) [true, true, true] rfl ?_
      exact w_X12_readsSum_J38 d hd n (f_X12_readsSum_L14 n v1 k) M v1 (f_X12_sumSign x101) 0 ih
    refine gx_iconst (x := 1) (by decide) dX12_readsSum_33 ?_
    refine gx_goto (tgt := 38) dX12_readsSum_34 (by decide) ?_
    refine gx_mk (lv' := [some (.inr (some 74)), some (.inl v1), some (.inl (f_X12_sumSign x101))]) [true, true, true] rfl ?_
    exact w_X12_readsSum_J38 d hd n (f_X12_readsSum_L14 n v1 k) M v1 (f_X12_sumSign x101) 1 ih
def f_X12_readsSum (n : Nat)  (M : HMem) : Option (Int32 × HMem) :=
  hb2 (f_X12_readsFactor n  M) (fun x101 M102 =>
  if x101 = 0 then
    (some (0, M102))
  else
    (f_X12_readsSum_L14 n (M 74 19) n  M102))
set_option maxRecDepth 20000 in
theorem w_X12_readsSum (d : Nat) (hd : 4 ≤ d) (n : Nat)  (M : HMem) : GX iX12_readsSum d eI (f_X12_readsSum n  M) 0 [some (.inr (some 74)), none, none] [] M := by
  rw [f_X12_readsSum]
  refine gx_aload_n dX12_readsSum_0 rfl ?_
  refine gx_getI fl_X12_167 sh74 rfl dX12_readsSum_1 ?_
  refine gx_istore_n (lv' := [some (.inr (some 74)), some (.inl (M 74 19)), none]) dX12_readsSum_4 (by decide) rfl ?_
  refine gx_aload_n dX12_readsSum_5 rfl ?_
  refine gx_cV_im (av := []) (st := []) ml_X12_187 (by omega) sh74 (c_X12_readsFactor (d - 1) (by omega) n  M) rfl rfl (Nat.le_of_ble_eq_true rfl) dX12_readsSum_6 (fun x101 M102 => ?_)
  refine gx_if_ne (tgt := 14) dX12_readsSum_9 (by decide) ?_ ?_
  · refine gx_mk (lv' := [some (.inr (some 74)), some (.inl (M 74 19)), none]) [true, true, false] rfl ?_
    exact w_X12_readsSum_L14 d hd n (M 74 19) n  M102
  refine gx_iconst (x := 0) (by decide) dX12_readsSum_12 ?_
  exact gx_zret rfl (by decide) rfl dX12_readsSum_13
theorem c_X12_readsSum (d : Nat) (hd : 4 ≤ d) (n : Nat)  (M : HMem) : MX iX12_readsSum d [.inr (some 74)] M eI (f_X12_readsSum n  M) := mx_of (by decide +kernel) (Nat.le_of_ble_eq_true rfl) rfl (w_X12_readsSum d hd n  M)
-- X12_endsPiece
def f_X12_endsPiece_L0 (n : Nat)  : Nat → HMem → Option HMem
  | 0, _ => none
  | k + 1, M =>
    hb1 (f_X12_waitTop  M) (fun x101 =>
    if x101 = 10 then
      (hb1 (f_X12_notes 10 0 M) (fun M102 =>
      f_X12_endsPiece_L0 n k  (hset (hset M102 74 19 ((M102 74 19) - 1)) 74 17 (((hset M102 74 19 ((M102 74 19) - 1)) 74 17) - 1))))
    else
      (some M))
set_option maxRecDepth 20000 in
theorem w_X12_endsPiece_L0 (d : Nat) (hd : 1 ≤ d) (n : Nat)  : ∀ (k : Nat)  (M : HMem), GX iX12_endsPiece d eV (f_X12_endsPiece_L0 n k  M) 0 [some (.inr (some 74))] [] M := by
  intro k
  induction k with
  | zero => intro  M; exact gx_none
  | succ k ih =>
    intro  M
    rw [f_X12_endsPiece_L0]
    refine gx_aload_n dX12_endsPiece_0 rfl ?_
    refine gx_cV_ip (av := []) (st := []) ml_X12_170 (by omega) sh74 (c_X12_waitTop (d - 1) (by omega)  M) rfl rfl (Nat.le_of_ble_eq_true rfl) dX12_endsPiece_1 (fun x101 => ?_)
    refine gx_bipush (x := 10) (by decide) dX12_endsPiece_4 ?_
    refine gx_icmp_ne (tgt := 39) dX12_endsPiece_6 (by decide) ?_ ?_
    · exact gx_vret rfl rfl dX12_endsPiece_39
    refine gx_aload_n dX12_endsPiece_9 rfl ?_
    refine gx_bipush (x := 10) (by decide) dX12_endsPiece_10 ?_
    refine gx_iconst (x := 0) (by decide) dX12_endsPiece_12 ?_
    refine gx_cV_vm (av := [.inl 10, .inl 0]) (st := []) ml_X12_173 (by omega) sh74 (c_X12_notes (d - 1) (by omega) 10 0 M) rfl rfl (Nat.le_of_ble_eq_true rfl) dX12_endsPiece_13 (fun M102 => ?_)
    refine gx_aload_n dX12_endsPiece_16 rfl ?_
    refine gx_aload_n dX12_endsPiece_17 rfl ?_
    refine gx_getI fl_X12_167 sh74 rfl dX12_endsPiece_18 ?_
    refine gx_iconst (x := 1) (by decide) dX12_endsPiece_21 ?_
    refine gx_isub dX12_endsPiece_22 ?_
    refine gx_putI fl_X12_167 fp_X12_19 sh74 rfl dX12_endsPiece_23 ?_
    refine gx_aload_n dX12_endsPiece_26 rfl ?_
    refine gx_aload_n dX12_endsPiece_27 rfl ?_
    refine gx_getI fl_X12_164 sh74 rfl dX12_endsPiece_28 ?_
    refine gx_iconst (x := 1) (by decide) dX12_endsPiece_31 ?_
    refine gx_isub dX12_endsPiece_32 ?_
    refine gx_putI fl_X12_164 fp_X12_17 sh74 rfl dX12_endsPiece_33 ?_
    refine gx_goto (tgt := 0) dX12_endsPiece_36 (by decide) ?_
    refine gx_mk (lv' := [some (.inr (some 74))]) [true] rfl ?_
    exact ih  (hset (hset M102 74 19 ((M102 74 19) - 1)) 74 17 (((hset M102 74 19 ((M102 74 19) - 1)) 74 17) - 1))
def f_X12_endsPiece (n : Nat)  (M : HMem) : Option HMem :=
  f_X12_endsPiece_L0 n n  M
set_option maxRecDepth 20000 in
theorem w_X12_endsPiece (d : Nat) (hd : 1 ≤ d) (n : Nat)  (M : HMem) : GX iX12_endsPiece d eV (f_X12_endsPiece n  M) 0 [some (.inr (some 74))] [] M := by
  rw [f_X12_endsPiece]
  refine gx_mk (lv' := [some (.inr (some 74))]) [true] rfl ?_
  exact w_X12_endsPiece_L0 d hd n  n  M
theorem c_X12_endsPiece (d : Nat) (hd : 1 ≤ d) (n : Nat)  (M : HMem) : MX iX12_endsPiece d [.inr (some 74)] M eV (f_X12_endsPiece n  M) := mx_of (by decide +kernel) (Nat.le_of_ble_eq_true rfl) rfl (w_X12_endsPiece d hd n  M)
-- X12_lands
def f_X12_lands_J22 (n : Nat) (r0 : HMem → Option HMem) (v1 : Int32) (M : HMem) : Option HMem :=
  if hib ((M 74 19) - 1) 260 then
  hb1 (some ((M 86 (Int32.toNatClampNeg ((M 74 19) - 1))) - (M 86 (Int32.toNatClampNeg ((M 74 19) - 1))) / 1048576 * 1048576)) (fun x101 =>
  if hib x101 260 then
  if hib x101 260 then
  hb1 (some (hset M 85 (Int32.toNatClampNeg x101) ((1048576 * ((M 85 (Int32.toNatClampNeg x101)) / 1048576)) + (M 74 18)))) (fun M102 =>
  r0  (hset M102 74 19 ((M102 74 19) - 1)))
  else none
  else none)
  else none
set_option maxRecDepth 20000 in
theorem w_X12_lands_J22 (d : Nat) (hd : 1 ≤ d) (n : Nat) (r0 : HMem → Option HMem) (M : HMem) (v1 : Int32) (hr0 : ∀  (M : HMem), GX iX12_lands d eV (r0  M) 0 [some (.inr (some 74)), some (.inl v1), none] [] M) : GX iX12_lands d eV (f_X12_lands_J22 n r0 v1 M) 22 [some (.inr (some 74)), some (.inl v1), none] [] M := by
  rw [f_X12_lands_J22]
  refine gx_aload_n dX12_lands_22 rfl ?_
  refine gx_getR fl_X12_44 sh74 rfl dX12_lands_23 ?_
  refine gx_aload_n dX12_lands_26 rfl ?_
  refine gx_getI fl_X12_167 sh74 rfl dX12_lands_27 ?_
  refine gx_iconst (x := 1) (by decide) dX12_lands_30 ?_
  refine gx_isub dX12_lands_31 ?_
  refine gx_iaload sh86 dX12_lands_32 ?_
  refine gx_ldc (x := 1048576) mw1455 dX12_lands_33 ?_
  refine gx_iremL (by decide) dX12_lands_35 ?_
  refine gx_ni (fun x101 => ?_)
  refine gx_istore_n (lv' := [some (.inr (some 74)), some (.inl v1), some (.inl x101)]) dX12_lands_36 (by decide) rfl ?_
  refine gx_aload_n dX12_lands_37 rfl ?_
  refine gx_getR fl_X12_41 sh74 rfl dX12_lands_38 ?_
  refine gx_iload_n dX12_lands_41 rfl ?_
  refine gx_ldc (x := 1048576) mw1455 dX12_lands_42 ?_
  refine gx_aload_n dX12_lands_44 rfl ?_
  refine gx_getR fl_X12_41 sh74 rfl dX12_lands_45 ?_
  refine gx_iload_n dX12_lands_48 rfl ?_
  refine gx_iaload sh85 dX12_lands_49 ?_
  refine gx_ldc (x := 1048576) mw1455 dX12_lands_50 ?_
  refine gx_idivL (by decide) dX12_lands_52 ?_
  refine gx_imul dX12_lands_53 ?_
  refine gx_aload_n dX12_lands_54 rfl ?_
  refine gx_getI fl_X12_160 sh74 rfl dX12_lands_55 ?_
  refine gx_iadd dX12_lands_58 ?_
  refine gx_iastore sh85 dX12_lands_59 ?_
  refine gx_aload_n dX12_lands_60 rfl ?_
  refine gx_aload_n dX12_lands_61 rfl ?_
  refine gx_nm (fun M102 => ?_)
  refine gx_getI fl_X12_167 sh74 rfl dX12_lands_62 ?_
  refine gx_iconst (x := 1) (by decide) dX12_lands_65 ?_
  refine gx_isub dX12_lands_66 ?_
  refine gx_putI fl_X12_167 fp_X12_19 sh74 rfl dX12_lands_67 ?_
  refine gx_goto (tgt := 0) dX12_lands_70 (by decide) ?_
  refine gx_mk (lv' := [some (.inr (some 74)), some (.inl v1), none]) [true, true, false] rfl ?_
  exact hr0  (hset M102 74 19 ((M102 74 19) - 1))
def f_X12_lands_L0 (n : Nat) (v1 : Int32) : Nat → HMem → Option HMem
  | 0, _ => none
  | k + 1, M =>
    hb1 (f_X12_waitTop  M) (fun x101 =>
    if x101 = 11 then
      (f_X12_lands_J22 n (f_X12_lands_L0 n v1 k) v1 M)
    else
      (if v1 = 0 then
        (some M)
      else
        (hb1 (f_X12_waitTop  M) (fun x102 =>
        if x102 = 12 then
          (f_X12_lands_J22 n (f_X12_lands_L0 n v1 k) v1 M)
        else
          (some M)))))
set_option maxRecDepth 20000 in
theorem w_X12_lands_L0 (d : Nat) (hd : 1 ≤ d) (n : Nat) (v1 : Int32) : ∀ (k : Nat)  (M : HMem), GX iX12_lands d eV (f_X12_lands_L0 n v1 k  M) 0 [some (.inr (some 74)), some (.inl v1), none] [] M := by
  intro k
  induction k with
  | zero => intro  M; exact gx_none
  | succ k ih =>
    intro  M
    rw [f_X12_lands_L0]
    refine gx_aload_n dX12_lands_0 rfl ?_
    refine gx_cV_ip (av := []) (st := []) ml_X12_170 (by omega) sh74 (c_X12_waitTop (d - 1) (by omega)  M) rfl rfl (Nat.le_of_ble_eq_true rfl) dX12_lands_1 (fun x101 => ?_)
    refine gx_bipush (x := 11) (by decide) dX12_lands_4 ?_
    refine gx_icmp_eq (tgt := 22) dX12_lands_6 (by decide) ?_ ?_
    · refine gx_mk (lv' := [some (.inr (some 74)), some (.inl v1), none]) [true, true, false] rfl ?_
      exact w_X12_lands_J22 d hd n (f_X12_lands_L0 n v1 k) M v1 ih
    refine gx_iload_n dX12_lands_9 rfl ?_
    refine gx_if_eq (tgt := 73) dX12_lands_10 (by decide) ?_ ?_
    · exact gx_vret rfl rfl dX12_lands_73
    refine gx_aload_n dX12_lands_13 rfl ?_
    refine gx_cV_ip (av := []) (st := []) ml_X12_170 (by omega) sh74 (c_X12_waitTop (d - 1) (by omega)  M) rfl rfl (Nat.le_of_ble_eq_true rfl) dX12_lands_14 (fun x102 => ?_)
    refine gx_bipush (x := 12) (by decide) dX12_lands_17 ?_
    refine gx_icmp_ne (tgt := 73) dX12_lands_19 (by decide) ?_ ?_
    · exact gx_vret rfl rfl dX12_lands_73
    refine gx_mk (lv' := [some (.inr (some 74)), some (.inl v1), none]) [true, true, false] rfl ?_
    exact w_X12_lands_J22 d hd n (f_X12_lands_L0 n v1 k) M v1 ih
def f_X12_lands (n : Nat) (v1 : Int32) (M : HMem) : Option HMem :=
  f_X12_lands_L0 n v1 n  M
set_option maxRecDepth 20000 in
theorem w_X12_lands (d : Nat) (hd : 1 ≤ d) (n : Nat) (v1 : Int32) (M : HMem) : GX iX12_lands d eV (f_X12_lands n v1 M) 0 [some (.inr (some 74)), some (.inl v1), none] [] M := by
  rw [f_X12_lands]
  refine gx_mk (lv' := [some (.inr (some 74)), some (.inl v1), none]) [true, true, false] rfl ?_
  exact w_X12_lands_L0 d hd n v1 n  M
theorem c_X12_lands (d : Nat) (hd : 1 ≤ d) (n : Nat) (v1 : Int32) (M : HMem) : MX iX12_lands d [.inr (some 74), .inl v1] M eV (f_X12_lands n v1 M) := mx_of (by decide +kernel) (Nat.le_of_ble_eq_true rfl) rfl (w_X12_lands d hd n v1 M)
-- X12_jumps
def f_X12_jumps (v1 : Int32) (M : HMem) : Option HMem :=
  if hib (M 74 19) 260 then
  hb1 (some (hset M 86 (Int32.toNatClampNeg (M 74 19)) ((1048576 * v1) + (M 74 18)))) (fun M101 =>
  hb1 (f_X12_notes v1 0 (hset M101 74 19 ((M101 74 19) + 1))) (fun M102 =>
  some (hset M102 74 13 ((M102 74 13) + 1))))
  else none
set_option maxRecDepth 20000 in
theorem w_X12_jumps (d : Nat) (hd : 1 ≤ d) (v1 : Int32) (M : HMem) : GX iX12_jumps d eV (f_X12_jumps v1 M) 0 [some (.inr (some 74)), some (.inl v1)] [] M := by
  rw [f_X12_jumps]
  refine gx_aload_n dX12_jumps_0 rfl ?_
  refine gx_getR fl_X12_44 sh74 rfl dX12_jumps_1 ?_
  refine gx_aload_n dX12_jumps_4 rfl ?_
  refine gx_getI fl_X12_167 sh74 rfl dX12_jumps_5 ?_
  refine gx_ldc (x := 1048576) mw1455 dX12_jumps_8 ?_
  refine gx_iload_n dX12_jumps_10 rfl ?_
  refine gx_imul dX12_jumps_11 ?_
  refine gx_aload_n dX12_jumps_12 rfl ?_
  refine gx_getI fl_X12_160 sh74 rfl dX12_jumps_13 ?_
  refine gx_iadd dX12_jumps_16 ?_
  refine gx_iastore sh86 dX12_jumps_17 ?_
  refine gx_aload_n dX12_jumps_18 rfl ?_
  refine gx_aload_n dX12_jumps_19 rfl ?_
  refine gx_nm (fun M101 => ?_)
  refine gx_getI fl_X12_167 sh74 rfl dX12_jumps_20 ?_
  refine gx_iconst (x := 1) (by decide) dX12_jumps_23 ?_
  refine gx_iadd dX12_jumps_24 ?_
  refine gx_putI fl_X12_167 fp_X12_19 sh74 rfl dX12_jumps_25 ?_
  refine gx_aload_n dX12_jumps_28 rfl ?_
  refine gx_iload_n dX12_jumps_29 rfl ?_
  refine gx_iconst (x := 0) (by decide) dX12_jumps_30 ?_
  refine gx_cV_vm (av := [.inl v1, .inl 0]) (st := []) ml_X12_173 (by omega) sh74 (c_X12_notes (d - 1) (by omega) v1 0 (hset M101 74 19 ((M101 74 19) + 1))) rfl rfl (Nat.le_of_ble_eq_true rfl) dX12_jumps_31 (fun M102 => ?_)
  refine gx_aload_n dX12_jumps_34 rfl ?_
  refine gx_aload_n dX12_jumps_35 rfl ?_
  refine gx_getI fl_X12_137 sh74 rfl dX12_jumps_36 ?_
  refine gx_iconst (x := 1) (by decide) dX12_jumps_39 ?_
  refine gx_iadd dX12_jumps_40 ?_
  refine gx_putI fl_X12_137 fp_X12_13 sh74 rfl dX12_jumps_41 ?_
  exact gx_vret rfl rfl dX12_jumps_44
theorem c_X12_jumps (d : Nat) (hd : 1 ≤ d) (v1 : Int32) (M : HMem) : MX iX12_jumps d [.inr (some 74), .inl v1] M eV (f_X12_jumps v1 M) := mx_of (by decide +kernel) (Nat.le_of_ble_eq_true rfl) rfl (w_X12_jumps d hd v1 M)
-- X12_readsCompared
def f_X12_readsCompared_J52 (n : Nat) (s0 : Int32) (M : HMem) : Option (Int32 × HMem) :=
  if s0 = (-1) then
    (hb2 (f_X12_wrongAt 1 (M 74 13) M) (fun x105 M106 =>
    if x105 &&& 1 = x105 then some (x105, M106) else none))
  else
    (hb2 (f_X12_readsSum n  (hset M 74 13 ((M 74 13) + 1))) (fun x101 M102 =>
    if x101 = 0 then
      (some (0, M102))
    else
      (hb1 (f_X12_notes s0 0 M102) (fun M103 =>
      hb1 (f_X12_endsPiece n  M103) (fun M104 =>
      some (1, M104))))))
set_option maxRecDepth 20000 in
theorem w_X12_readsCompared_J52 (d : Nat) (hd : 5 ≤ d) (n : Nat) (M : HMem) (s0 : Int32) : GX iX12_readsCompared d eI (f_X12_readsCompared_J52 n s0 M) 52 [some (.inr (some 74)), none] [.inl s0] M := by
  rw [f_X12_readsCompared_J52]
  refine gx_istore_n (lv' := [some (.inr (some 74)), some (.inl s0)]) dX12_readsCompared_52 (by decide) rfl ?_
  refine gx_iload_n dX12_readsCompared_53 rfl ?_
  refine gx_iconst (x := (-1)) (by decide) dX12_readsCompared_54 ?_
  refine gx_icmp_ne (tgt := 68) dX12_readsCompared_55 (by decide) ?_ ?_
  · refine gx_aload_n dX12_readsCompared_68 rfl ?_
    refine gx_aload_n dX12_readsCompared_69 rfl ?_
    refine gx_getI fl_X12_137 sh74 rfl dX12_readsCompared_70 ?_
    refine gx_iconst (x := 1) (by decide) dX12_readsCompared_73 ?_
    refine gx_iadd dX12_readsCompared_74 ?_
    refine gx_putI fl_X12_137 fp_X12_13 sh74 rfl dX12_readsCompared_75 ?_
    refine gx_aload_n dX12_readsCompared_78 rfl ?_
    refine gx_cV_im (av := []) (st := []) ml_X12_200 (by omega) sh74 (c_X12_readsSum (d - 1) (by omega) n  (hset M 74 13 ((M 74 13) + 1))) rfl rfl (Nat.le_of_ble_eq_true rfl) dX12_readsCompared_79 (fun x101 M102 => ?_)
    refine gx_if_ne (tgt := 87) dX12_readsCompared_82 (by decide) ?_ ?_
    · refine gx_aload_n dX12_readsCompared_87 rfl ?_
      refine gx_iload_n dX12_readsCompared_88 rfl ?_
      refine gx_iconst (x := 0) (by decide) dX12_readsCompared_89 ?_
      refine gx_cV_vm (av := [.inl s0, .inl 0]) (st := []) ml_X12_173 (by omega) sh74 (c_X12_notes (d - 1) (by omega) s0 0 M102) rfl rfl (Nat.le_of_ble_eq_true rfl) dX12_readsCompared_90 (fun M103 => ?_)
      refine gx_aload_n dX12_readsCompared_93 rfl ?_
      refine gx_cV_vm (av := []) (st := []) ml_X12_203 (by omega) sh74 (c_X12_endsPiece (d - 1) (by omega) n  M103) rfl rfl (Nat.le_of_ble_eq_true rfl) dX12_readsCompared_94 (fun M104 => ?_)
      refine gx_iconst (x := 1) (by decide) dX12_readsCompared_97 ?_
      exact gx_zret rfl (by decide) rfl dX12_readsCompared_98
    refine gx_iconst (x := 0) (by decide) dX12_readsCompared_85 ?_
    exact gx_zret rfl (by decide) rfl dX12_readsCompared_86
  refine gx_aload_n dX12_readsCompared_58 rfl ?_
  refine gx_iconst (x := 1) (by decide) dX12_readsCompared_59 ?_
  refine gx_aload_n dX12_readsCompared_60 rfl ?_
  refine gx_getI fl_X12_137 sh74 rfl dX12_readsCompared_61 ?_
  refine gx_cV_im (av := [.inl 1, .inl (M 74 13)]) (st := []) ml_X12_150 (by omega) sh74 (c_X12_wrongAt (d - 1) (by omega) 1 (M 74 13) M) rfl rfl (Nat.le_of_ble_eq_true rfl) dX12_readsCompared_64 (fun x105 M106 => ?_)
  exact gx_zretG rfl rfl dX12_readsCompared_67
def f_X12_readsCompared (n : Nat)  (M : HMem) : Option (Int32 × HMem) :=
  hb2 (f_X12_readsSum n  M) (fun x101 M102 =>
  if x101 = 0 then
    (some (0, M102))
  else
    (hb1 (f_X12_here  M102) (fun x103 =>
    if x103 = 60 then
      (f_X12_readsCompared_J52 n 7 M102)
    else
      (hb1 (f_X12_here  M102) (fun x104 =>
      if x104 = 62 then
        (f_X12_readsCompared_J52 n 8 M102)
      else
        (hb1 (f_X12_here  M102) (fun x105 =>
        if x105 = 61 then
          (f_X12_readsCompared_J52 n 9 M102)
        else
          (f_X12_readsCompared_J52 n (-1) M102))))))))
set_option maxRecDepth 20000 in
theorem w_X12_readsCompared (d : Nat) (hd : 5 ≤ d) (n : Nat)  (M : HMem) : GX iX12_readsCompared d eI (f_X12_readsCompared n  M) 0 [some (.inr (some 74)), none] [] M := by
  rw [f_X12_readsCompared]
  refine gx_aload_n dX12_readsCompared_0 rfl ?_
  refine gx_cV_im (av := []) (st := []) ml_X12_200 (by omega) sh74 (c_X12_readsSum (d - 1) (by omega) n  M) rfl rfl (Nat.le_of_ble_eq_true rfl) dX12_readsCompared_1 (fun x101 M102 => ?_)
  refine gx_if_ne (tgt := 9) dX12_readsCompared_4 (by decide) ?_ ?_
  · refine gx_aload_n dX12_readsCompared_9 rfl ?_
    refine gx_cV_ip (av := []) (st := []) ml_X12_143 (by omega) sh74 (c_X12_here (d - 1) (by omega)  M102) rfl rfl (Nat.le_of_ble_eq_true rfl) dX12_readsCompared_10 (fun x103 => ?_)
    refine gx_bipush (x := 60) (by decide) dX12_readsCompared_13 ?_
    refine gx_icmp_ne (tgt := 23) dX12_readsCompared_15 (by decide) ?_ ?_
    · refine gx_aload_n dX12_readsCompared_23 rfl ?_
      refine gx_cV_ip (av := []) (st := []) ml_X12_143 (by omega) sh74 (c_X12_here (d - 1) (by omega)  M102) rfl rfl (Nat.le_of_ble_eq_true rfl) dX12_readsCompared_24 (fun x104 => ?_)
      refine gx_bipush (x := 62) (by decide) dX12_readsCompared_27 ?_
      refine gx_icmp_ne (tgt := 37) dX12_readsCompared_29 (by decide) ?_ ?_
      · refine gx_aload_n dX12_readsCompared_37 rfl ?_
        refine gx_cV_ip (av := []) (st := []) ml_X12_143 (by omega) sh74 (c_X12_here (d - 1) (by omega)  M102) rfl rfl (Nat.le_of_ble_eq_true rfl) dX12_readsCompared_38 (fun x105 => ?_)
        refine gx_bipush (x := 61) (by decide) dX12_readsCompared_41 ?_
        refine gx_icmp_ne (tgt := 51) dX12_readsCompared_43 (by decide) ?_ ?_
        · refine gx_iconst (x := (-1)) (by decide) dX12_readsCompared_51 ?_
          refine gx_mk (lv' := [some (.inr (some 74)), none]) [true, false] rfl ?_
          exact w_X12_readsCompared_J52 d hd n M102 (-1)
        refine gx_bipush (x := 9) (by decide) dX12_readsCompared_46 ?_
        refine gx_goto (tgt := 52) dX12_readsCompared_48 (by decide) ?_
        refine gx_mk (lv' := [some (.inr (some 74)), none]) [true, false] rfl ?_
        exact w_X12_readsCompared_J52 d hd n M102 9
      refine gx_bipush (x := 8) (by decide) dX12_readsCompared_32 ?_
      refine gx_goto (tgt := 52) dX12_readsCompared_34 (by decide) ?_
      refine gx_mk (lv' := [some (.inr (some 74)), none]) [true, false] rfl ?_
      exact w_X12_readsCompared_J52 d hd n M102 8
    refine gx_bipush (x := 7) (by decide) dX12_readsCompared_18 ?_
    refine gx_goto (tgt := 52) dX12_readsCompared_20 (by decide) ?_
    refine gx_mk (lv' := [some (.inr (some 74)), none]) [true, false] rfl ?_
    exact w_X12_readsCompared_J52 d hd n M102 7
  refine gx_iconst (x := 0) (by decide) dX12_readsCompared_7 ?_
  exact gx_zret rfl (by decide) rfl dX12_readsCompared_8
theorem c_X12_readsCompared (d : Nat) (hd : 5 ≤ d) (n : Nat)  (M : HMem) : MX iX12_readsCompared d [.inr (some 74)] M eI (f_X12_readsCompared n  M) := mx_of (by decide +kernel) (Nat.le_of_ble_eq_true rfl) rfl (w_X12_readsCompared d hd n  M)
-- X12_readsCondition
def f_X12_readsCondition_J195 (n : Nat) (r40 : HMem → Option (Int32 × HMem)) (s0 : Int32) (M : HMem) : Option (Int32 × HMem) :=
  hb1 (f_X12_lands n s0 M) (fun M101 =>
  hb1 (f_X12_here  M101) (fun x102 =>
  if x102 = 38 then
    (hb1 (f_X12_jumps 11 M101) (fun M104 =>
    r40  M104))
  else
    (hb1 (f_X12_jumps 12 M101) (fun M103 =>
    r40  M103))))
set_option maxRecDepth 20000 in
theorem w_X12_readsCondition_J195 (d : Nat) (hd : 6 ≤ d) (n : Nat) (r40 : HMem → Option (Int32 × HMem)) (M : HMem) (s0 : Int32) (hr40 : ∀  (M : HMem), GX iX12_readsCondition d eI (r40  M) 40 [some (.inr (some 74))] [] M) : GX iX12_readsCondition d eI (f_X12_readsCondition_J195 n r40 s0 M) 195 [some (.inr (some 74))] [.inl s0, .inr (some 74)] M := by
  rw [f_X12_readsCondition_J195]
  refine gx_cV_vm (av := [.inl s0]) (st := []) ml_X12_209 (by omega) sh74 (c_X12_lands (d - 1) (by omega) n s0 M) rfl rfl (Nat.le_of_ble_eq_true rfl) dX12_readsCondition_195 (fun M101 => ?_)
  refine gx_aload_n dX12_readsCondition_198 rfl ?_
  refine gx_aload_n dX12_readsCondition_199 rfl ?_
  refine gx_cV_ip (av := []) (st := [.inr (some 74)]) ml_X12_143 (by omega) sh74 (c_X12_here (d - 1) (by omega)  M101) rfl rfl (Nat.le_of_ble_eq_true rfl) dX12_readsCondition_200 (fun x102 => ?_)
  refine gx_bipush (x := 38) (by decide) dX12_readsCondition_203 ?_
  refine gx_icmp_ne (tgt := 213) dX12_readsCondition_205 (by decide) ?_ ?_
  · refine gx_bipush (x := 12) (by decide) dX12_readsCondition_213 ?_
    refine gx_cV_vm (av := [.inl 12]) (st := []) ml_X12_212 (by omega) sh74 (c_X12_jumps (d - 1) (by omega) 12 M101) rfl rfl (Nat.le_of_ble_eq_true rfl) dX12_readsCondition_215 (fun M103 => ?_)
    refine gx_goto (tgt := 40) dX12_readsCondition_218 (by decide) ?_
    refine gx_mk (lv' := [some (.inr (some 74))]) [true] rfl ?_
    exact hr40  M103
  refine gx_bipush (x := 11) (by decide) dX12_readsCondition_208 ?_
  refine gx_goto (tgt := 215) dX12_readsCondition_210 (by decide) ?_
  refine gx_cV_vm (av := [.inl 11]) (st := []) ml_X12_212 (by omega) sh74 (c_X12_jumps (d - 1) (by omega) 11 M101) rfl rfl (Nat.le_of_ble_eq_true rfl) dX12_readsCondition_215 (fun M104 => ?_)
  refine gx_goto (tgt := 40) dX12_readsCondition_218 (by decide) ?_
  refine gx_mk (lv' := [some (.inr (some 74))]) [true] rfl ?_
  exact hr40  M104
def f_X12_readsCondition_L92 (n : Nat) (r40 : HMem → Option (Int32 × HMem))  : Nat → HMem → Option (Int32 × HMem)
  | 0, _ => none
  | k + 1, M =>
    hb1 (f_X12_here  M) (fun x101 =>
    if x101 = 41 then
      (hb1 (f_X12_lands n 1 M) (fun M108 =>
      hb1 (some (hset (hset M108 74 19 ((M108 74 19) - 1)) 74 17 (((hset M108 74 19 ((M108 74 19) - 1)) 74 17) - 1))) (fun M109 =>
      if ((hset M109 74 13 ((M109 74 13) + 1)) 74 19) = 0 then
        (some (1, hset M109 74 13 ((M109 74 13) + 1)))
      else
        (hb1 (f_X12_endsPiece n  (hset M109 74 13 ((M109 74 13) + 1))) (fun M110 =>
        f_X12_readsCondition_L92 n r40 k  M110)))))
    else
      (hb1 (f_X12_here  M) (fun x102 =>
      if x102 = 38 then
        (hb1 (f_X12_here  M) (fun x103 =>
        if x103 = 124 then
          (f_X12_readsCondition_J195 n r40 1 M)
        else
          (f_X12_readsCondition_J195 n r40 0 M)))
      else
        (hb1 (f_X12_here  M) (fun x104 =>
        if x104 = 124 then
          (hb1 (f_X12_here  M) (fun x105 =>
          if x105 = 124 then
            (f_X12_readsCondition_J195 n r40 1 M)
          else
            (f_X12_readsCondition_J195 n r40 0 M)))
        else
          (hb2 (f_X12_wrongAt 1 (M 74 13) M) (fun x106 M107 =>
          if x106 &&& 1 = x106 then some (x106, M107) else none)))))))
set_option maxRecDepth 20000 in
theorem w_X12_readsCondition_L92 (d : Nat) (hd : 6 ≤ d) (n : Nat) (r40 : HMem → Option (Int32 × HMem))  (hr40 : ∀  (M : HMem), GX iX12_readsCondition d eI (r40  M) 40 [some (.inr (some 74))] [] M) : ∀ (k : Nat)  (M : HMem), GX iX12_readsCondition d eI (f_X12_readsCondition_L92 n r40 k  M) 92 [some (.inr (some 74))] [] M := by
  intro k
  induction k with
  | zero => intro  M; exact gx_none
  | succ k ih =>
    intro  M
    rw [f_X12_readsCondition_L92]
    refine gx_aload_n dX12_readsCondition_92 rfl ?_
    refine gx_cV_ip (av := []) (st := []) ml_X12_143 (by omega) sh74 (c_X12_here (d - 1) (by omega)  M) rfl rfl (Nat.le_of_ble_eq_true rfl) dX12_readsCondition_93 (fun x101 => ?_)
    refine gx_bipush (x := 41) (by decide) dX12_readsCondition_96 ?_
    refine gx_icmp_ne (tgt := 152) dX12_readsCondition_98 (by decide) ?_ ?_
    · refine gx_aload_n dX12_readsCondition_152 rfl ?_
      refine gx_cV_ip (av := []) (st := []) ml_X12_143 (by omega) sh74 (c_X12_here (d - 1) (by omega)  M) rfl rfl (Nat.le_of_ble_eq_true rfl) dX12_readsCondition_153 (fun x102 => ?_)
      refine gx_bipush (x := 38) (by decide) dX12_readsCondition_156 ?_
      refine gx_icmp_eq (tgt := 180) dX12_readsCondition_158 (by decide) ?_ ?_
      · refine gx_aload_n dX12_readsCondition_180 rfl ?_
        refine gx_aload_n dX12_readsCondition_181 rfl ?_
        refine gx_cV_ip (av := []) (st := [.inr (some 74)]) ml_X12_143 (by omega) sh74 (c_X12_here (d - 1) (by omega)  M) rfl rfl (Nat.le_of_ble_eq_true rfl) dX12_readsCondition_182 (fun x103 => ?_)
        refine gx_bipush (x := 124) (by decide) dX12_readsCondition_185 ?_
        refine gx_icmp_ne (tgt := 194) dX12_readsCondition_187 (by decide) ?_ ?_
        · refine gx_iconst (x := 0) (by decide) dX12_readsCondition_194 ?_
          refine gx_mk (lv' := [some (.inr (some 74))]) [true] rfl ?_
          exact w_X12_readsCondition_J195 d hd n r40 M 0 hr40
        refine gx_iconst (x := 1) (by decide) dX12_readsCondition_190 ?_
        refine gx_goto (tgt := 195) dX12_readsCondition_191 (by decide) ?_
        refine gx_mk (lv' := [some (.inr (some 74))]) [true] rfl ?_
        exact w_X12_readsCondition_J195 d hd n r40 M 1 hr40
      refine gx_aload_n dX12_readsCondition_161 rfl ?_
      refine gx_cV_ip (av := []) (st := []) ml_X12_143 (by omega) sh74 (c_X12_here (d - 1) (by omega)  M) rfl rfl (Nat.le_of_ble_eq_true rfl) dX12_readsCondition_162 (fun x104 => ?_)
      refine gx_bipush (x := 124) (by decide) dX12_readsCondition_165 ?_
      refine gx_icmp_eq (tgt := 180) dX12_readsCondition_167 (by decide) ?_ ?_
      · refine gx_aload_n dX12_readsCondition_180 rfl ?_
        refine gx_aload_n dX12_readsCondition_181 rfl ?_
        refine gx_cV_ip (av := []) (st := [.inr (some 74)]) ml_X12_143 (by omega) sh74 (c_X12_here (d - 1) (by omega)  M) rfl rfl (Nat.le_of_ble_eq_true rfl) dX12_readsCondition_182 (fun x105 => ?_)
        refine gx_bipush (x := 124) (by decide) dX12_readsCondition_185 ?_
        refine gx_icmp_ne (tgt := 194) dX12_readsCondition_187 (by decide) ?_ ?_
        · refine gx_iconst (x := 0) (by decide) dX12_readsCondition_194 ?_
          refine gx_mk (lv' := [some (.inr (some 74))]) [true] rfl ?_
          exact w_X12_readsCondition_J195 d hd n r40 M 0 hr40
        refine gx_iconst (x := 1) (by decide) dX12_readsCondition_190 ?_
        refine gx_goto (tgt := 195) dX12_readsCondition_191 (by decide) ?_
        refine gx_mk (lv' := [some (.inr (some 74))]) [true] rfl ?_
        exact w_X12_readsCondition_J195 d hd n r40 M 1 hr40
      refine gx_aload_n dX12_readsCondition_170 rfl ?_
      refine gx_iconst (x := 1) (by decide) dX12_readsCondition_171 ?_
      refine gx_aload_n dX12_readsCondition_172 rfl ?_
      refine gx_getI fl_X12_137 sh74 rfl dX12_readsCondition_173 ?_
      refine gx_cV_im (av := [.inl 1, .inl (M 74 13)]) (st := []) ml_X12_150 (by omega) sh74 (c_X12_wrongAt (d - 1) (by omega) 1 (M 74 13) M) rfl rfl (Nat.le_of_ble_eq_true rfl) dX12_readsCondition_176 (fun x106 M107 => ?_)
      exact gx_zretG rfl rfl dX12_readsCondition_179
    refine gx_aload_n dX12_readsCondition_101 rfl ?_
    refine gx_iconst (x := 1) (by decide) dX12_readsCondition_102 ?_
    refine gx_cV_vm (av := [.inl 1]) (st := []) ml_X12_209 (by omega) sh74 (c_X12_lands (d - 1) (by omega) n 1 M) rfl rfl (Nat.le_of_ble_eq_true rfl) dX12_readsCondition_103 (fun M108 => ?_)
    refine gx_aload_n dX12_readsCondition_106 rfl ?_
    refine gx_aload_n dX12_readsCondition_107 rfl ?_
    refine gx_getI fl_X12_167 sh74 rfl dX12_readsCondition_108 ?_
    refine gx_iconst (x := 1) (by decide) dX12_readsCondition_111 ?_
    refine gx_isub dX12_readsCondition_112 ?_
    refine gx_putI fl_X12_167 fp_X12_19 sh74 rfl dX12_readsCondition_113 ?_
    refine gx_aload_n dX12_readsCondition_116 rfl ?_
    refine gx_aload_n dX12_readsCondition_117 rfl ?_
    refine gx_getI fl_X12_164 sh74 rfl dX12_readsCondition_118 ?_
    refine gx_iconst (x := 1) (by decide) dX12_readsCondition_121 ?_
    refine gx_isub dX12_readsCondition_122 ?_
    refine gx_putI fl_X12_164 fp_X12_17 sh74 rfl dX12_readsCondition_123 ?_
    refine gx_aload_n dX12_readsCondition_126 rfl ?_
    refine gx_aload_n dX12_readsCondition_127 rfl ?_
    refine gx_nm (fun M109 => ?_)
    refine gx_getI fl_X12_137 sh74 rfl dX12_readsCondition_128 ?_
    refine gx_iconst (x := 1) (by decide) dX12_readsCondition_131 ?_
    refine gx_iadd dX12_readsCondition_132 ?_
    refine gx_putI fl_X12_137 fp_X12_13 sh74 rfl dX12_readsCondition_133 ?_
    refine gx_aload_n dX12_readsCondition_136 rfl ?_
    refine gx_getI fl_X12_167 sh74 rfl dX12_readsCondition_137 ?_
    refine gx_if_ne (tgt := 145) dX12_readsCondition_140 (by decide) ?_ ?_
    · refine gx_aload_n dX12_readsCondition_145 rfl ?_
      refine gx_cV_vm (av := []) (st := []) ml_X12_203 (by omega) sh74 (c_X12_endsPiece (d - 1) (by omega) n  (hset M109 74 13 ((M109 74 13) + 1))) rfl rfl (Nat.le_of_ble_eq_true rfl) dX12_readsCondition_146 (fun M110 => ?_)
      refine gx_goto (tgt := 92) dX12_readsCondition_149 (by decide) ?_
      refine gx_mk (lv' := [some (.inr (some 74))]) [true] rfl ?_
      exact ih  M110
    refine gx_iconst (x := 1) (by decide) dX12_readsCondition_143 ?_
    exact gx_zret rfl (by decide) rfl dX12_readsCondition_144
def f_X12_readsCondition_J58 (n : Nat) (r40 : HMem → Option (Int32 × HMem))  (M : HMem) : Option (Int32 × HMem) :=
  hb1 (f_X12_here  M) (fun x101 =>
  if x101 = 33 then
    (hb2 (f_X12_opens 10 M) (fun x104 M105 =>
    if x104 = 0 then
      (some (0, M105))
    else
      (r40  M105)))
  else
    (hb2 (f_X12_opens 13 M) (fun x102 M103 =>
    if x102 = 0 then
      (some (0, M103))
    else
      (r40  M103))))
set_option maxRecDepth 20000 in
theorem w_X12_readsCondition_J58 (d : Nat) (hd : 6 ≤ d) (n : Nat) (r40 : HMem → Option (Int32 × HMem)) (M : HMem)  (hr40 : ∀  (M : HMem), GX iX12_readsCondition d eI (r40  M) 40 [some (.inr (some 74))] [] M) : GX iX12_readsCondition d eI (f_X12_readsCondition_J58 n r40 M) 58 [some (.inr (some 74))] [] M := by
  rw [f_X12_readsCondition_J58]
  refine gx_aload_n dX12_readsCondition_58 rfl ?_
  refine gx_aload_n dX12_readsCondition_59 rfl ?_
  refine gx_cV_ip (av := []) (st := [.inr (some 74)]) ml_X12_143 (by omega) sh74 (c_X12_here (d - 1) (by omega)  M) rfl rfl (Nat.le_of_ble_eq_true rfl) dX12_readsCondition_60 (fun x101 => ?_)
  refine gx_bipush (x := 33) (by decide) dX12_readsCondition_63 ?_
  refine gx_icmp_ne (tgt := 73) dX12_readsCondition_65 (by decide) ?_ ?_
  · refine gx_bipush (x := 13) (by decide) dX12_readsCondition_73 ?_
    refine gx_cV_im (av := [.inl 13]) (st := []) ml_X12_177 (by omega) sh74 (c_X12_opens (d - 1) (by omega) 13 M) rfl rfl (Nat.le_of_ble_eq_true rfl) dX12_readsCondition_75 (fun x102 M103 => ?_)
    refine gx_if_ne (tgt := 40) dX12_readsCondition_78 (by decide) ?_ ?_
    · refine gx_mk (lv' := [some (.inr (some 74))]) [true] rfl ?_
      exact hr40  M103
    refine gx_iconst (x := 0) (by decide) dX12_readsCondition_81 ?_
    exact gx_zret rfl (by decide) rfl dX12_readsCondition_82
  refine gx_bipush (x := 10) (by decide) dX12_readsCondition_68 ?_
  refine gx_goto (tgt := 75) dX12_readsCondition_70 (by decide) ?_
  refine gx_cV_im (av := [.inl 10]) (st := []) ml_X12_177 (by omega) sh74 (c_X12_opens (d - 1) (by omega) 10 M) rfl rfl (Nat.le_of_ble_eq_true rfl) dX12_readsCondition_75 (fun x104 M105 => ?_)
  refine gx_if_ne (tgt := 40) dX12_readsCondition_78 (by decide) ?_ ?_
  · refine gx_mk (lv' := [some (.inr (some 74))]) [true] rfl ?_
    exact hr40  M105
  refine gx_iconst (x := 0) (by decide) dX12_readsCondition_81 ?_
  exact gx_zret rfl (by decide) rfl dX12_readsCondition_82
def f_X12_readsCondition_L40 (n : Nat)  : Nat → HMem → Option (Int32 × HMem)
  | 0, _ => none
  | k + 1, M =>
    hb1 (f_X12_here  M) (fun x101 =>
    if x101 = 33 then
      (f_X12_readsCondition_J58 n (f_X12_readsCondition_L40 n k) M)
    else
      (hb1 (f_X12_here  M) (fun x102 =>
      if x102 = 40 then
        (f_X12_readsCondition_J58 n (f_X12_readsCondition_L40 n k) M)
      else
        (hb2 (f_X12_readsCompared n  M) (fun x103 M104 =>
        if x103 = 0 then
          (some (0, M104))
        else
          (f_X12_readsCondition_L92 n (f_X12_readsCondition_L40 n k) n  M104))))))
set_option maxRecDepth 20000 in
theorem w_X12_readsCondition_L40 (d : Nat) (hd : 6 ≤ d) (n : Nat)  : ∀ (k : Nat)  (M : HMem), GX iX12_readsCondition d eI (f_X12_readsCondition_L40 n k  M) 40 [some (.inr (some 74))] [] M := by
  intro k
  induction k with
  | zero => intro  M; exact gx_none
  | succ k ih =>
    intro  M
    rw [f_X12_readsCondition_L40]
    refine gx_aload_n dX12_readsCondition_40 rfl ?_
    refine gx_cV_ip (av := []) (st := []) ml_X12_143 (by omega) sh74 (c_X12_here (d - 1) (by omega)  M) rfl rfl (Nat.le_of_ble_eq_true rfl) dX12_readsCondition_41 (fun x101 => ?_)
    refine gx_bipush (x := 33) (by decide) dX12_readsCondition_44 ?_
    refine gx_icmp_eq (tgt := 58) dX12_readsCondition_46 (by decide) ?_ ?_
    · refine gx_mk (lv' := [some (.inr (some 74))]) [true] rfl ?_
      exact w_X12_readsCondition_J58 d hd n (f_X12_readsCondition_L40 n k) M  ih
    refine gx_aload_n dX12_readsCondition_49 rfl ?_
    refine gx_cV_ip (av := []) (st := []) ml_X12_143 (by omega) sh74 (c_X12_here (d - 1) (by omega)  M) rfl rfl (Nat.le_of_ble_eq_true rfl) dX12_readsCondition_50 (fun x102 => ?_)
    refine gx_bipush (x := 40) (by decide) dX12_readsCondition_53 ?_
    refine gx_icmp_ne (tgt := 83) dX12_readsCondition_55 (by decide) ?_ ?_
    · refine gx_aload_n dX12_readsCondition_83 rfl ?_
      refine gx_cV_im (av := []) (st := []) ml_X12_206 (by omega) sh74 (c_X12_readsCompared (d - 1) (by omega) n  M) rfl rfl (Nat.le_of_ble_eq_true rfl) dX12_readsCondition_84 (fun x103 M104 => ?_)
      refine gx_if_ne (tgt := 92) dX12_readsCondition_87 (by decide) ?_ ?_
      · refine gx_mk (lv' := [some (.inr (some 74))]) [true] rfl ?_
        exact w_X12_readsCondition_L92 d hd n (f_X12_readsCondition_L40 n k)  ih n  M104
      refine gx_iconst (x := 0) (by decide) dX12_readsCondition_90 ?_
      exact gx_zret rfl (by decide) rfl dX12_readsCondition_91
    refine gx_mk (lv' := [some (.inr (some 74))]) [true] rfl ?_
    exact w_X12_readsCondition_J58 d hd n (f_X12_readsCondition_L40 n k) M  ih
def f_X12_readsCondition (n : Nat)  (M : HMem) : Option (Int32 × HMem) :=
  hb1 (f_X12_here  M) (fun x101 =>
  if x101 = 40 then
    (hb2 (f_X12_opens 13 (hset (hset M 74 17 0) 74 19 0)) (fun x102 M103 =>
    if x102 = 0 then
      (some (0, M103))
    else
      (f_X12_readsCondition_L40 n n  M103)))
  else
    (hb2 (f_X12_wrongAt 1 (M 74 13) M) (fun x104 M105 =>
    if x104 &&& 1 = x104 then some (x104, M105) else none)))
set_option maxRecDepth 20000 in
theorem w_X12_readsCondition (d : Nat) (hd : 6 ≤ d) (n : Nat)  (M : HMem) : GX iX12_readsCondition d eI (f_X12_readsCondition n  M) 0 [some (.inr (some 74))] [] M := by
  rw [f_X12_readsCondition]
  refine gx_aload_n dX12_readsCondition_0 rfl ?_
  refine gx_cV_ip (av := []) (st := []) ml_X12_143 (by omega) sh74 (c_X12_here (d - 1) (by omega)  M) rfl rfl (Nat.le_of_ble_eq_true rfl) dX12_readsCondition_1 (fun x101 => ?_)
  refine gx_bipush (x := 40) (by decide) dX12_readsCondition_4 ?_
  refine gx_icmp_eq (tgt := 19) dX12_readsCondition_6 (by decide) ?_ ?_
  · refine gx_aload_n dX12_readsCondition_19 rfl ?_
    refine gx_iconst (x := 0) (by decide) dX12_readsCondition_20 ?_
    refine gx_putI fl_X12_164 fp_X12_17 sh74 rfl dX12_readsCondition_21 ?_
    refine gx_aload_n dX12_readsCondition_24 rfl ?_
    refine gx_iconst (x := 0) (by decide) dX12_readsCondition_25 ?_
    refine gx_putI fl_X12_167 fp_X12_19 sh74 rfl dX12_readsCondition_26 ?_
    refine gx_aload_n dX12_readsCondition_29 rfl ?_
    refine gx_bipush (x := 13) (by decide) dX12_readsCondition_30 ?_
    refine gx_cV_im (av := [.inl 13]) (st := []) ml_X12_177 (by omega) sh74 (c_X12_opens (d - 1) (by omega) 13 (hset (hset M 74 17 0) 74 19 0)) rfl rfl (Nat.le_of_ble_eq_true rfl) dX12_readsCondition_32 (fun x102 M103 => ?_)
    refine gx_if_ne (tgt := 40) dX12_readsCondition_35 (by decide) ?_ ?_
    · refine gx_mk (lv' := [some (.inr (some 74))]) [true] rfl ?_
      exact w_X12_readsCondition_L40 d hd n  n  M103
    refine gx_iconst (x := 0) (by decide) dX12_readsCondition_38 ?_
    exact gx_zret rfl (by decide) rfl dX12_readsCondition_39
  refine gx_aload_n dX12_readsCondition_9 rfl ?_
  refine gx_iconst (x := 1) (by decide) dX12_readsCondition_10 ?_
  refine gx_aload_n dX12_readsCondition_11 rfl ?_
  refine gx_getI fl_X12_137 sh74 rfl dX12_readsCondition_12 ?_
  refine gx_cV_im (av := [.inl 1, .inl (M 74 13)]) (st := []) ml_X12_150 (by omega) sh74 (c_X12_wrongAt (d - 1) (by omega) 1 (M 74 13) M) rfl rfl (Nat.le_of_ble_eq_true rfl) dX12_readsCondition_15 (fun x104 M105 => ?_)
  exact gx_zretG rfl rfl dX12_readsCondition_18
theorem c_X12_readsCondition (d : Nat) (hd : 6 ≤ d) (n : Nat)  (M : HMem) : MX iX12_readsCondition d [.inr (some 74)] M eI (f_X12_readsCondition n  M) := mx_of (by decide +kernel) (Nat.le_of_ble_eq_true rfl) rfl (w_X12_readsCondition d hd n  M)
-- X12_readsRule
def f_X12_readsRule_J110 (n : Nat)  (M : HMem) : Option (Int32 × HMem) :=
  if hib (M 74 20) 16 then
  hb1 (some (hset M 89 (Int32.toNatClampNeg (M 74 20)) (M 74 18))) (fun M101 =>
  hb2 (f_X12_readsCondition n  M101) (fun x102 M103 =>
  if x102 = 0 then
    (some (0, M103))
  else
    (if hib (M103 74 20) 16 then
    hb1 (some (hset M103 90 (Int32.toNatClampNeg (M103 74 20)) (M103 74 18))) (fun M104 =>
    some (1, hset M104 74 20 ((M104 74 20) + 1)))
    else none)))
  else none
set_option maxRecDepth 20000 in
theorem w_X12_readsRule_J110 (d : Nat) (hd : 7 ≤ d) (n : Nat) (M : HMem)  : GX iX12_readsRule d eI (f_X12_readsRule_J110 n M) 110 [some (.inr (some 74)), none] [] M := by
  rw [f_X12_readsRule_J110]
  refine gx_aload_n dX12_readsRule_110 rfl ?_
  refine gx_getR fl_X12_53 sh74 rfl dX12_readsRule_111 ?_
  refine gx_aload_n dX12_readsRule_114 rfl ?_
  refine gx_getI fl_X12_215 sh74 rfl dX12_readsRule_115 ?_
  refine gx_aload_n dX12_readsRule_118 rfl ?_
  refine gx_getI fl_X12_160 sh74 rfl dX12_readsRule_119 ?_
  refine gx_iastore sh89 dX12_readsRule_122 ?_
  refine gx_aload_n dX12_readsRule_123 rfl ?_
  refine gx_nm (fun M101 => ?_)
  refine gx_cV_im (av := []) (st := []) ml_X12_218 (by omega) sh74 (c_X12_readsCondition (d - 1) (by omega) n  M101) rfl rfl (Nat.le_of_ble_eq_true rfl) dX12_readsRule_124 (fun x102 M103 => ?_)
  refine gx_if_ne (tgt := 132) dX12_readsRule_127 (by decide) ?_ ?_
  · refine gx_aload_n dX12_readsRule_132 rfl ?_
    refine gx_getR fl_X12_56 sh74 rfl dX12_readsRule_133 ?_
    refine gx_aload_n dX12_readsRule_136 rfl ?_
    refine gx_getI fl_X12_215 sh74 rfl dX12_readsRule_137 ?_
    refine gx_aload_n dX12_readsRule_140 rfl ?_
    refine gx_getI fl_X12_160 sh74 rfl dX12_readsRule_141 ?_
    refine gx_iastore sh90 dX12_readsRule_144 ?_
    refine gx_aload_n dX12_readsRule_145 rfl ?_
    refine gx_aload_n dX12_readsRule_146 rfl ?_
    refine gx_nm (fun M104 => ?_)
    refine gx_getI fl_X12_215 sh74 rfl dX12_readsRule_147 ?_
    refine gx_iconst (x := 1) (by decide) dX12_readsRule_150 ?_
    refine gx_iadd dX12_readsRule_151 ?_
    refine gx_putI fl_X12_215 fp_X12_20 sh74 rfl dX12_readsRule_152 ?_
    refine gx_iconst (x := 1) (by decide) dX12_readsRule_155 ?_
    exact gx_zret rfl (by decide) rfl dX12_readsRule_156
  refine gx_iconst (x := 0) (by decide) dX12_readsRule_130 ?_
  exact gx_zret rfl (by decide) rfl dX12_readsRule_131
def f_X12_readsRule_J33 (n : Nat) (v1 : Int32) (M : HMem) : Option (Int32 × HMem) :=
  if (M 74 20) = 16 then
    (hb2 (f_X12_wrongAt 4 (M 74 13) M) (fun x105 M106 =>
    if x105 &&& 1 = x105 then some (x105, M106) else none))
  else
    (if hib (M 74 20) 16 then
    hb1 (some (hset M 87 (Int32.toNatClampNeg (M 74 20)) v1)) (fun M101 =>
    if hib ((hset M101 74 13 ((M101 74 13) + 1)) 74 20) 16 then
    if v1 = 120 then
      (f_X12_readsRule_J110 n (hset (hset (hset (hset M101 74 13 ((M101 74 13) + 1)) 88 (Int32.toNatClampNeg ((hset M101 74 13 ((M101 74 13) + 1)) 74 20)) ((hset M101 74 13 ((M101 74 13) + 1)) 74 18)) 74 17 0) 74 19 0))
    else
      (hb1 (some (hset (hset (hset (hset M101 74 13 ((M101 74 13) + 1)) 88 (Int32.toNatClampNeg ((hset M101 74 13 ((M101 74 13) + 1)) 74 20)) ((hset M101 74 13 ((M101 74 13) + 1)) 74 18)) 74 17 0) 74 19 0)) (fun M102 =>
      hb2 (f_X12_readsSum n  M102) (fun x103 M104 =>
      if x103 = 0 then
        (some (0, M104))
      else
        (f_X12_readsRule_J110 n M104))))
    else none)
    else none)
set_option maxRecDepth 20000 in
theorem w_X12_readsRule_J33 (d : Nat) (hd : 7 ≤ d) (n : Nat) (M : HMem) (v1 : Int32) : GX iX12_readsRule d eI (f_X12_readsRule_J33 n v1 M) 33 [some (.inr (some 74)), some (.inl v1)] [] M := by
  rw [f_X12_readsRule_J33]
  refine gx_aload_n dX12_readsRule_33 rfl ?_
  refine gx_getI fl_X12_215 sh74 rfl dX12_readsRule_34 ?_
  refine gx_bipush (x := 16) (by decide) dX12_readsRule_37 ?_
  refine gx_icmp_ne (tgt := 52) dX12_readsRule_39 (by decide) ?_ ?_
  · refine gx_aload_n dX12_readsRule_52 rfl ?_
    refine gx_getR fl_X12_47 sh74 rfl dX12_readsRule_53 ?_
    refine gx_aload_n dX12_readsRule_56 rfl ?_
    refine gx_getI fl_X12_215 sh74 rfl dX12_readsRule_57 ?_
    refine gx_iload_n dX12_readsRule_60 rfl ?_
    refine gx_iastore sh87 dX12_readsRule_61 ?_
    refine gx_aload_n dX12_readsRule_62 rfl ?_
    refine gx_aload_n dX12_readsRule_63 rfl ?_
    refine gx_nm (fun M101 => ?_)
    refine gx_getI fl_X12_137 sh74 rfl dX12_readsRule_64 ?_
    refine gx_iconst (x := 1) (by decide) dX12_readsRule_67 ?_
    refine gx_iadd dX12_readsRule_68 ?_
    refine gx_putI fl_X12_137 fp_X12_13 sh74 rfl dX12_readsRule_69 ?_
    refine gx_aload_n dX12_readsRule_72 rfl ?_
    refine gx_getR fl_X12_50 sh74 rfl dX12_readsRule_73 ?_
    refine gx_aload_n dX12_readsRule_76 rfl ?_
    refine gx_getI fl_X12_215 sh74 rfl dX12_readsRule_77 ?_
    refine gx_aload_n dX12_readsRule_80 rfl ?_
    refine gx_getI fl_X12_160 sh74 rfl dX12_readsRule_81 ?_
    refine gx_iastore sh88 dX12_readsRule_84 ?_
    refine gx_aload_n dX12_readsRule_85 rfl ?_
    refine gx_iconst (x := 0) (by decide) dX12_readsRule_86 ?_
    refine gx_putI fl_X12_164 fp_X12_17 sh74 rfl dX12_readsRule_87 ?_
    refine gx_aload_n dX12_readsRule_90 rfl ?_
    refine gx_iconst (x := 0) (by decide) dX12_readsRule_91 ?_
    refine gx_putI fl_X12_167 fp_X12_19 sh74 rfl dX12_readsRule_92 ?_
    refine gx_iload_n dX12_readsRule_95 rfl ?_
    refine gx_bipush (x := 120) (by decide) dX12_readsRule_96 ?_
    refine gx_icmp_eq (tgt := 110) dX12_readsRule_98 (by decide) ?_ ?_
    · refine gx_mk (lv' := [some (.inr (some 74)), none]) [true, false] rfl ?_
      exact w_X12_readsRule_J110 d hd n (hset (hset (hset (hset M101 74 13 ((M101 74 13) + 1)) 88 (Int32.toNatClampNeg ((hset M101 74 13 ((M101 74 13) + 1)) 74 20)) ((hset M101 74 13 ((M101 74 13) + 1)) 74 18)) 74 17 0) 74 19 0) 
    refine gx_aload_n dX12_readsRule_101 rfl ?_
    refine gx_nm (fun M102 => ?_)
    refine gx_cV_im (av := []) (st := []) ml_X12_200 (by omega) sh74 (c_X12_readsSum (d - 1) (by omega) n  M102) rfl rfl (Nat.le_of_ble_eq_true rfl) dX12_readsRule_102 (fun x103 M104 => ?_)
    refine gx_if_ne (tgt := 110) dX12_readsRule_105 (by decide) ?_ ?_
    · refine gx_mk (lv' := [some (.inr (some 74)), none]) [true, false] rfl ?_
      exact w_X12_readsRule_J110 d hd n M104 
    refine gx_iconst (x := 0) (by decide) dX12_readsRule_108 ?_
    exact gx_zret rfl (by decide) rfl dX12_readsRule_109
  refine gx_aload_n dX12_readsRule_42 rfl ?_
  refine gx_iconst (x := 4) (by decide) dX12_readsRule_43 ?_
  refine gx_aload_n dX12_readsRule_44 rfl ?_
  refine gx_getI fl_X12_137 sh74 rfl dX12_readsRule_45 ?_
  refine gx_cV_im (av := [.inl 4, .inl (M 74 13)]) (st := []) ml_X12_150 (by omega) sh74 (c_X12_wrongAt (d - 1) (by omega) 4 (M 74 13) M) rfl rfl (Nat.le_of_ble_eq_true rfl) dX12_readsRule_48 (fun x105 M106 => ?_)
  exact gx_zretG rfl rfl dX12_readsRule_51
def f_X12_readsRule (n : Nat)  (M : HMem) : Option (Int32 × HMem) :=
  hb1 (f_X12_here  M) (fun x101 =>
  if x101 = 101 then
    (f_X12_readsRule_J33 n x101 M)
  else
    (if x101 = 114 then
      (f_X12_readsRule_J33 n x101 M)
    else
      (if x101 = 120 then
        (f_X12_readsRule_J33 n x101 M)
      else
        (hb2 (f_X12_wrongAt 1 (M 74 13) M) (fun x102 M103 =>
        if x102 &&& 1 = x102 then some (x102, M103) else none)))))
set_option maxRecDepth 20000 in
theorem w_X12_readsRule (d : Nat) (hd : 7 ≤ d) (n : Nat)  (M : HMem) : GX iX12_readsRule d eI (f_X12_readsRule n  M) 0 [some (.inr (some 74)), none] [] M := by
  rw [f_X12_readsRule]
  refine gx_aload_n dX12_readsRule_0 rfl ?_
  refine gx_cV_ip (av := []) (st := []) ml_X12_143 (by omega) sh74 (c_X12_here (d - 1) (by omega)  M) rfl rfl (Nat.le_of_ble_eq_true rfl) dX12_readsRule_1 (fun x101 => ?_)
  refine gx_istore_n (lv' := [some (.inr (some 74)), some (.inl x101)]) dX12_readsRule_4 (by decide) rfl ?_
  refine gx_iload_n dX12_readsRule_5 rfl ?_
  refine gx_bipush (x := 101) (by decide) dX12_readsRule_6 ?_
  refine gx_icmp_eq (tgt := 33) dX12_readsRule_8 (by decide) ?_ ?_
  · refine gx_mk (lv' := [some (.inr (some 74)), some (.inl x101)]) [true, true] rfl ?_
    exact w_X12_readsRule_J33 d hd n M x101
  refine gx_iload_n dX12_readsRule_11 rfl ?_
  refine gx_bipush (x := 114) (by decide) dX12_readsRule_12 ?_
  refine gx_icmp_eq (tgt := 33) dX12_readsRule_14 (by decide) ?_ ?_
  · refine gx_mk (lv' := [some (.inr (some 74)), some (.inl x101)]) [true, true] rfl ?_
    exact w_X12_readsRule_J33 d hd n M x101
  refine gx_iload_n dX12_readsRule_17 rfl ?_
  refine gx_bipush (x := 120) (by decide) dX12_readsRule_18 ?_
  refine gx_icmp_eq (tgt := 33) dX12_readsRule_20 (by decide) ?_ ?_
  · refine gx_mk (lv' := [some (.inr (some 74)), some (.inl x101)]) [true, true] rfl ?_
    exact w_X12_readsRule_J33 d hd n M x101
  refine gx_aload_n dX12_readsRule_23 rfl ?_
  refine gx_iconst (x := 1) (by decide) dX12_readsRule_24 ?_
  refine gx_aload_n dX12_readsRule_25 rfl ?_
  refine gx_getI fl_X12_137 sh74 rfl dX12_readsRule_26 ?_
  refine gx_cV_im (av := [.inl 1, .inl (M 74 13)]) (st := []) ml_X12_150 (by omega) sh74 (c_X12_wrongAt (d - 1) (by omega) 1 (M 74 13) M) rfl rfl (Nat.le_of_ble_eq_true rfl) dX12_readsRule_29 (fun x102 M103 => ?_)
  exact gx_zretG rfl rfl dX12_readsRule_32
theorem c_X12_readsRule (d : Nat) (hd : 7 ≤ d) (n : Nat)  (M : HMem) : MX iX12_readsRule d [.inr (some 74)] M eI (f_X12_readsRule n  M) := mx_of (by decide +kernel) (Nat.le_of_ble_eq_true rfl) rfl (w_X12_readsRule d hd n  M)

-- X12_whereAt
def f_X12_whereAt (v1 : Int32) (v2 : Int32) (M : HMem) : Option Int32 :=
  hb1 (f_X12_hasLine v1 M) (fun x101 =>
  if x101 = 0 then
    (some (-1))
  else
    (if hib v1 8 then
    if hib v1 8 then
    if hib v1 8 then
    if (f_X12_in v2 (M 79 (Int32.toNatClampNeg v1)) ((M 79 (Int32.toNatClampNeg v1)) + (M 78 (Int32.toNatClampNeg v1)))) = 0 then
      (some (-1))
    else
      (if hib v1 8 then
      if hib (((97 * v1) + v2) - (M 79 (Int32.toNatClampNeg v1))) 776 then
      some (M 81 (Int32.toNatClampNeg (((97 * v1) + v2) - (M 79 (Int32.toNatClampNeg v1)))))
      else none
      else none)
    else none
    else none
    else none))
set_option maxRecDepth 20000 in
theorem w_X12_whereAt (d : Nat) (hd : 2 ≤ d) (v1 : Int32) (v2 : Int32) (M : HMem) : GX iX12_whereAt d (eP M) (f_X12_whereAt v1 v2 M) 0 [some (.inr (some 74)), some (.inl v1), some (.inl v2)] [] M := by
  rw [f_X12_whereAt]
  refine gx_aload_n dX12_whereAt_0 rfl ?_
  refine gx_iload_n dX12_whereAt_1 rfl ?_
  refine gx_cV_ip (av := [.inl v1]) (st := []) ml_X12_122 (by omega) sh74 (c_X12_hasLine (d - 1) (by omega) v1 M) rfl rfl (Nat.le_of_ble_eq_true rfl) dX12_whereAt_2 (fun x101 => ?_)
  refine gx_if_eq (tgt := 55) dX12_whereAt_5 (by decide) ?_ ?_
  · refine gx_iconst (x := (-1)) (by decide) dX12_whereAt_55 ?_
    exact gx_iret rfl rfl dX12_whereAt_56
  refine gx_iload_n dX12_whereAt_8 rfl ?_
  refine gx_aload_n dX12_whereAt_9 rfl ?_
  refine gx_getR fl_X12_22 sh74 rfl dX12_whereAt_10 ?_
  refine gx_iload_n dX12_whereAt_13 rfl ?_
  refine gx_iaload sh79 dX12_whereAt_14 ?_
  refine gx_aload_n dX12_whereAt_15 rfl ?_
  refine gx_getR fl_X12_22 sh74 rfl dX12_whereAt_16 ?_
  refine gx_iload_n dX12_whereAt_19 rfl ?_
  refine gx_iaload sh79 dX12_whereAt_20 ?_
  refine gx_aload_n dX12_whereAt_21 rfl ?_
  refine gx_getR fl_X12_19 sh74 rfl dX12_whereAt_22 ?_
  refine gx_iload_n dX12_whereAt_25 rfl ?_
  refine gx_iaload sh78 dX12_whereAt_26 ?_
  refine gx_iadd dX12_whereAt_27 ?_
  refine gx_cS_it (av := [.inl v2, .inl (M 79 (Int32.toNatClampNeg v1)), .inl ((M 79 (Int32.toNatClampNeg v1)) + (M 78 (Int32.toNatClampNeg v1)))]) (st := []) ml_X12_118 (by omega) (c_X12_in (d - 1) (by omega) v2 (M 79 (Int32.toNatClampNeg v1)) ((M 79 (Int32.toNatClampNeg v1)) + (M 78 (Int32.toNatClampNeg v1))) M) rfl rfl (Nat.le_of_ble_eq_true rfl) dX12_whereAt_28 ?_
  refine gx_if_eq (tgt := 55) dX12_whereAt_31 (by decide) ?_ ?_
  · refine gx_iconst (x := (-1)) (by decide) dX12_whereAt_55 ?_
    exact gx_iret rfl rfl dX12_whereAt_56
  refine gx_aload_n dX12_whereAt_34 rfl ?_
  refine gx_getR fl_X12_28 sh74 rfl dX12_whereAt_35 ?_
  refine gx_bipush (x := 97) (by decide) dX12_whereAt_38 ?_
  refine gx_iload_n dX12_whereAt_40 rfl ?_
  refine gx_imul dX12_whereAt_41 ?_
  refine gx_iload_n dX12_whereAt_42 rfl ?_
  refine gx_iadd dX12_whereAt_43 ?_
  refine gx_aload_n dX12_whereAt_44 rfl ?_
  refine gx_getR fl_X12_22 sh74 rfl dX12_whereAt_45 ?_
  refine gx_iload_n dX12_whereAt_48 rfl ?_
  refine gx_iaload sh79 dX12_whereAt_49 ?_
  refine gx_isub dX12_whereAt_50 ?_
  refine gx_iaload sh81 dX12_whereAt_51 ?_
  refine gx_goto (tgt := 56) dX12_whereAt_52 (by decide) ?_
  exact gx_iret rfl rfl dX12_whereAt_56
theorem c_X12_whereAt (d : Nat) (hd : 2 ≤ d) (v1 : Int32) (v2 : Int32) (M : HMem) : MX iX12_whereAt d [.inr (some 74), .inl v1, .inl v2] M (eP M) (f_X12_whereAt v1 v2 M) := mx_of (by decide +kernel) (Nat.le_of_ble_eq_true rfl) rfl (w_X12_whereAt d hd v1 v2 M)
-- X12_readsAmount
def f_X12_readsAmount_L27 (n : Nat) (v1 : Int32) : Nat → HMem → Option (Int32 × HMem)
  | 0, _ => none
  | k + 1, M =>
    hb1 (f_X12_isDigit  M) (fun x101 =>
    if x101 = 0 then
      (some (1, M))
    else
      (if (M 74 13) = (v1 + 2) then
        (hb2 (f_X12_wrongAt 2 (M 74 13) M) (fun x104 M105 =>
        if x104 &&& 1 = x104 then some (x104, M105) else none))
      else
        (hb1 (f_X12_here  M) (fun x102 =>
        hb1 (some (hset M 74 16 (((10 * (M 74 16)) + x102) - 48))) (fun M103 =>
        f_X12_readsAmount_L27 n v1 k  (hset M103 74 13 ((M103 74 13) + 1)))))))
set_option maxRecDepth 20000 in
theorem w_X12_readsAmount_L27 (d : Nat) (hd : 2 ≤ d) (n : Nat) (v1 : Int32) : ∀ (k : Nat)  (M : HMem), GX iX12_readsAmount d eI (f_X12_readsAmount_L27 n v1 k  M) 27 [some (.inr (some 74)), some (.inl v1)] [] M := by
  intro k
  induction k with
  | zero => intro  M; exact gx_none
  | succ k ih =>
    intro  M
    rw [f_X12_readsAmount_L27]
    refine gx_aload_n dX12_readsAmount_27 rfl ?_
    refine gx_cV_ip (av := []) (st := []) ml_X12_156 (by omega) sh74 (c_X12_isDigit (d - 1) (by omega)  M) rfl rfl (Nat.le_of_ble_eq_true rfl) dX12_readsAmount_28 (fun x101 => ?_)
    refine gx_if_eq (tgt := 86) dX12_readsAmount_31 (by decide) ?_ ?_
    · refine gx_iconst (x := 1) (by decide) dX12_readsAmount_86 ?_
      exact gx_zret rfl (by decide) rfl dX12_readsAmount_87
    refine gx_aload_n dX12_readsAmount_34 rfl ?_
    refine gx_getI fl_X12_137 sh74 rfl dX12_readsAmount_35 ?_
    refine gx_iload_n dX12_readsAmount_38 rfl ?_
    refine gx_iconst (x := 2) (by decide) dX12_readsAmount_39 ?_
    refine gx_iadd dX12_readsAmount_40 ?_
    refine gx_icmp_ne (tgt := 54) dX12_readsAmount_41 (by decide) ?_ ?_
    · refine gx_aload_n dX12_readsAmount_54 rfl ?_
      refine gx_bipush (x := 10) (by decide) dX12_readsAmount_55 ?_
      refine gx_aload_n dX12_readsAmount_57 rfl ?_
      refine gx_getI fl_X12_153 sh74 rfl dX12_readsAmount_58 ?_
      refine gx_imul dX12_readsAmount_61 ?_
      refine gx_aload_n dX12_readsAmount_62 rfl ?_
      refine gx_cV_ip (av := []) (st := [.inl (10 * (M 74 16)), .inr (some 74)]) ml_X12_143 (by omega) sh74 (c_X12_here (d - 1) (by omega)  M) rfl rfl (Nat.le_of_ble_eq_true rfl) dX12_readsAmount_63 (fun x102 => ?_)
      refine gx_iadd dX12_readsAmount_66 ?_
      refine gx_bipush (x := 48) (by decide) dX12_readsAmount_67 ?_
      refine gx_isub dX12_readsAmount_69 ?_
      refine gx_putI fl_X12_153 fp_X12_16 sh74 rfl dX12_readsAmount_70 ?_
      refine gx_aload_n dX12_readsAmount_73 rfl ?_
      refine gx_aload_n dX12_readsAmount_74 rfl ?_
      refine gx_nm (fun M103 => ?_)
      refine gx_getI fl_X12_137 sh74 rfl dX12_readsAmount_75 ?_
      refine gx_iconst (x := 1) (by decide) dX12_readsAmount_78 ?_
      refine gx_iadd dX12_readsAmount_79 ?_
      refine gx_putI fl_X12_137 fp_X12_13 sh74 rfl dX12_readsAmount_80 ?_
      refine gx_goto (tgt := 27) dX12_readsAmount_83 (by decide) ?_
      refine gx_mk (lv' := [some (.inr (some 74)), some (.inl v1)]) [true, true] rfl ?_
      exact ih  (hset M103 74 13 ((M103 74 13) + 1))
    refine gx_aload_n dX12_readsAmount_44 rfl ?_
    refine gx_iconst (x := 2) (by decide) dX12_readsAmount_45 ?_
    refine gx_aload_n dX12_readsAmount_46 rfl ?_
    refine gx_getI fl_X12_137 sh74 rfl dX12_readsAmount_47 ?_
    refine gx_cV_im (av := [.inl 2, .inl (M 74 13)]) (st := []) ml_X12_150 (by omega) sh74 (c_X12_wrongAt (d - 1) (by omega) 2 (M 74 13) M) rfl rfl (Nat.le_of_ble_eq_true rfl) dX12_readsAmount_50 (fun x104 M105 => ?_)
    exact gx_zretG rfl rfl dX12_readsAmount_53
def f_X12_readsAmount (n : Nat)  (M : HMem) : Option (Int32 × HMem) :=
  hb1 (f_X12_isDigit  M) (fun x101 =>
  if x101 = 0 then
    (hb2 (f_X12_wrongAt 1 (M 74 13) M) (fun x102 M103 =>
    if x102 &&& 1 = x102 then some (x102, M103) else none))
  else
    (f_X12_readsAmount_L27 n (M 74 13) n  (hset M 74 16 0)))
set_option maxRecDepth 20000 in
theorem w_X12_readsAmount (d : Nat) (hd : 2 ≤ d) (n : Nat)  (M : HMem) : GX iX12_readsAmount d eI (f_X12_readsAmount n  M) 0 [some (.inr (some 74)), none] [] M := by
  rw [f_X12_readsAmount]
  refine gx_aload_n dX12_readsAmount_0 rfl ?_
  refine gx_getI fl_X12_137 sh74 rfl dX12_readsAmount_1 ?_
  refine gx_istore_n (lv' := [some (.inr (some 74)), some (.inl (M 74 13))]) dX12_readsAmount_4 (by decide) rfl ?_
  refine gx_aload_n dX12_readsAmount_5 rfl ?_
  refine gx_cV_ip (av := []) (st := []) ml_X12_156 (by omega) sh74 (c_X12_isDigit (d - 1) (by omega)  M) rfl rfl (Nat.le_of_ble_eq_true rfl) dX12_readsAmount_6 (fun x101 => ?_)
  refine gx_if_ne (tgt := 22) dX12_readsAmount_9 (by decide) ?_ ?_
  · refine gx_aload_n dX12_readsAmount_22 rfl ?_
    refine gx_iconst (x := 0) (by decide) dX12_readsAmount_23 ?_
    refine gx_putI fl_X12_153 fp_X12_16 sh74 rfl dX12_readsAmount_24 ?_
    refine gx_mk (lv' := [some (.inr (some 74)), some (.inl (M 74 13))]) [true, true] rfl ?_
    exact w_X12_readsAmount_L27 d hd n (M 74 13) n  (hset M 74 16 0)
  refine gx_aload_n dX12_readsAmount_12 rfl ?_
  refine gx_iconst (x := 1) (by decide) dX12_readsAmount_13 ?_
  refine gx_aload_n dX12_readsAmount_14 rfl ?_
  refine gx_getI fl_X12_137 sh74 rfl dX12_readsAmount_15 ?_
  refine gx_cV_im (av := [.inl 1, .inl (M 74 13)]) (st := []) ml_X12_150 (by omega) sh74 (c_X12_wrongAt (d - 1) (by omega) 1 (M 74 13) M) rfl rfl (Nat.le_of_ble_eq_true rfl) dX12_readsAmount_18 (fun x102 M103 => ?_)
  exact gx_zretG rfl rfl dX12_readsAmount_21
theorem c_X12_readsAmount (d : Nat) (hd : 2 ≤ d) (n : Nat)  (M : HMem) : MX iX12_readsAmount d [.inr (some 74)] M eI (f_X12_readsAmount n  M) := mx_of (by decide +kernel) (Nat.le_of_ble_eq_true rfl) rfl (w_X12_readsAmount d hd n  M)
-- X12_readsWithin
def f_X12_readsWithin (n : Nat) (v1 : Int32) (v2 : Int32) (v3 : Int32) (M : HMem) : Option (Int32 × HMem) :=
  hb2 (f_X12_readsAmount n  M) (fun x101 M102 =>
  if x101 = 0 then
    (some (0, M102))
  else
    (if (f_X12_in (M102 74 16) v1 v2) = 0 then
      (hb2 (f_X12_wrongAt 3 (M 74 13) M102) (fun x105 M106 =>
      if x105 &&& 1 = x105 then some (x105, M106) else none))
    else
      (if v3 = (-1) then
        (some (1, M102))
      else
        (hb2 (f_X12_takes v3 M102) (fun x103 M104 =>
        if x103 = 0 then
          (some (0, M104))
        else
          (some (1, M104)))))))
set_option maxRecDepth 20000 in
theorem w_X12_readsWithin (d : Nat) (hd : 3 ≤ d) (n : Nat) (v1 : Int32) (v2 : Int32) (v3 : Int32) (M : HMem) : GX iX12_readsWithin d eI (f_X12_readsWithin n v1 v2 v3 M) 0 [some (.inr (some 74)), some (.inl v1), some (.inl v2), some (.inl v3), none] [] M := by
  rw [f_X12_readsWithin]
  refine gx_aload_n dX12_readsWithin_0 rfl ?_
  refine gx_getI fl_X12_137 sh74 rfl dX12_readsWithin_1 ?_
  refine gx_istore (lv' := [some (.inr (some 74)), some (.inl v1), some (.inl v2), some (.inl v3), some (.inl (M 74 13))]) dX12_readsWithin_4 (by decide) rfl ?_
  refine gx_aload_n dX12_readsWithin_6 rfl ?_
  refine gx_cV_im (av := []) (st := []) ml_X12_268 (by omega) sh74 (c_X12_readsAmount (d - 1) (by omega) n  M) rfl rfl (Nat.le_of_ble_eq_true rfl) dX12_readsWithin_7 (fun x101 M102 => ?_)
  refine gx_if_ne (tgt := 15) dX12_readsWithin_10 (by decide) ?_ ?_
  · refine gx_aload_n dX12_readsWithin_15 rfl ?_
    refine gx_getI fl_X12_153 sh74 rfl dX12_readsWithin_16 ?_
    refine gx_iload_n dX12_readsWithin_19 rfl ?_
    refine gx_iload_n dX12_readsWithin_20 rfl ?_
    refine gx_cS_it (av := [.inl (M102 74 16), .inl v1, .inl v2]) (st := []) ml_X12_118 (by omega) (c_X12_in (d - 1) (by omega) (M102 74 16) v1 v2 M102) rfl rfl (Nat.le_of_ble_eq_true rfl) dX12_readsWithin_21 ?_
    refine gx_if_ne (tgt := 35) dX12_readsWithin_24 (by decide) ?_ ?_
    · refine gx_iload_n dX12_readsWithin_35 rfl ?_
      refine gx_iconst (x := (-1)) (by decide) dX12_readsWithin_36 ?_
      refine gx_icmp_eq (tgt := 48) dX12_readsWithin_37 (by decide) ?_ ?_
      · refine gx_iconst (x := 1) (by decide) dX12_readsWithin_48 ?_
        refine gx_goto (tgt := 53) dX12_readsWithin_49 (by decide) ?_
        exact gx_zret rfl (by decide) rfl dX12_readsWithin_53
      refine gx_aload_n dX12_readsWithin_40 rfl ?_
      refine gx_iload_n dX12_readsWithin_41 rfl ?_
      refine gx_cV_im (av := [.inl v3]) (st := []) ml_X12_227 (by omega) sh74 (c_X12_takes (d - 1) (by omega) v3 M102) rfl rfl (Nat.le_of_ble_eq_true rfl) dX12_readsWithin_42 (fun x103 M104 => ?_)
      refine gx_if_eq (tgt := 52) dX12_readsWithin_45 (by decide) ?_ ?_
      · refine gx_iconst (x := 0) (by decide) dX12_readsWithin_52 ?_
        exact gx_zret rfl (by decide) rfl dX12_readsWithin_53
      refine gx_iconst (x := 1) (by decide) dX12_readsWithin_48 ?_
      refine gx_goto (tgt := 53) dX12_readsWithin_49 (by decide) ?_
      exact gx_zret rfl (by decide) rfl dX12_readsWithin_53
    refine gx_aload_n dX12_readsWithin_27 rfl ?_
    refine gx_iconst (x := 3) (by decide) dX12_readsWithin_28 ?_
    refine gx_iload dX12_readsWithin_29 rfl ?_
    refine gx_cV_im (av := [.inl 3, .inl (M 74 13)]) (st := []) ml_X12_150 (by omega) sh74 (c_X12_wrongAt (d - 1) (by omega) 3 (M 74 13) M102) rfl rfl (Nat.le_of_ble_eq_true rfl) dX12_readsWithin_31 (fun x105 M106 => ?_)
    exact gx_zretG rfl rfl dX12_readsWithin_34
  refine gx_iconst (x := 0) (by decide) dX12_readsWithin_13 ?_
  exact gx_zret rfl (by decide) rfl dX12_readsWithin_14
theorem c_X12_readsWithin (d : Nat) (hd : 3 ≤ d) (n : Nat) (v1 : Int32) (v2 : Int32) (v3 : Int32) (M : HMem) : MX iX12_readsWithin d [.inr (some 74), .inl v1, .inl v2, .inl v3] M eI (f_X12_readsWithin n v1 v2 v3 M) := mx_of (by decide +kernel) (Nat.le_of_ble_eq_true rfl) rfl (w_X12_readsWithin d hd n v1 v2 v3 M)
-- X12_readsGround
def f_X12_readsGround_L184 (n : Nat) (v1 : Int32) (v2 : Int32) (v3 : Int32) (v4 : Int32) (v5 : Int32) : Nat → Int32 → HMem → Option (Int32 × HMem)
  | 0, _, _ => none
  | k + 1, v6, M =>
    if 192 ≤ v6 then
      (some (1, M))
    else
      (if (f_X12_in (v6 - v6 / 16 * 16) v2 ((v2 + v4) - 1)) = 0 then
        (f_X12_readsGround_L184 n v1 v2 v3 v4 v5 k (v6 + 1) M)
      else
        (if (f_X12_in (v6 / 16) v3 ((v3 + v5) - 1)) = 0 then
          (f_X12_readsGround_L184 n v1 v2 v3 v4 v5 k (v6 + 1) M)
        else
          (if v1 = 126 then
            (if hib v6 192 then
            if hib v6 192 then
            f_X12_readsGround_L184 n v1 v2 v3 v4 v5 k (v6 + 1) (hset (hset M 102 (Int32.toNatClampNeg v6) 1) 103 (Int32.toNatClampNeg v6) ((hset M 102 (Int32.toNatClampNeg v6) 1) 74 16))
            else none
            else none)
          else
            (if hib v6 192 then
            hb1 (some (hset M 102 (Int32.toNatClampNeg v6) ((v1 - 97) + 2))) (fun M101 =>
            if hib v6 192 then
            f_X12_readsGround_L184 n v1 v2 v3 v4 v5 k (v6 + 1) (hset M101 103 (Int32.toNatClampNeg v6) (M101 74 16))
            else none)
            else none))))
set_option maxRecDepth 20000 in
theorem w_X12_readsGround_L184 (d : Nat) (hd : 4 ≤ d) (n : Nat) (v1 : Int32) (v2 : Int32) (v3 : Int32) (v4 : Int32) (v5 : Int32) : ∀ (k : Nat) (v6 : Int32) (M : HMem), GX iX12_readsGround d eI (f_X12_readsGround_L184 n v1 v2 v3 v4 v5 k v6 M) 184 [some (.inr (some 74)), some (.inl v1), some (.inl v2), some (.inl v3), some (.inl v4), some (.inl v5), some (.inl v6)] [] M := by
  intro k
  induction k with
  | zero => intro v6 M; exact gx_none
  | succ k ih =>
    intro v6 M
    rw [f_X12_readsGround_L184]
    refine gx_iload dX12_readsGround_184 rfl ?_
    refine gx_sipush (x := 192) (by decide) dX12_readsGround_186 ?_
    refine gx_icmp_ge (tgt := 271) dX12_readsGround_189 (by decide) ?_ ?_
    · refine gx_iconst (x := 1) (by decide) dX12_readsGround_271 ?_
      exact gx_zret rfl (by decide) rfl dX12_readsGround_272
    refine gx_iload dX12_readsGround_192 rfl ?_
    refine gx_bipush (x := 16) (by decide) dX12_readsGround_194 ?_
    refine gx_iremL (by decide) dX12_readsGround_196 ?_
    refine gx_iload_n dX12_readsGround_197 rfl ?_
    refine gx_iload_n dX12_readsGround_198 rfl ?_
    refine gx_iload dX12_readsGround_199 rfl ?_
    refine gx_iadd dX12_readsGround_201 ?_
    refine gx_iconst (x := 1) (by decide) dX12_readsGround_202 ?_
    refine gx_isub dX12_readsGround_203 ?_
    refine gx_cS_it (av := [.inl (v6 - v6 / 16 * 16), .inl v2, .inl ((v2 + v4) - 1)]) (st := []) ml_X12_118 (by omega) (c_X12_in (d - 1) (by omega) (v6 - v6 / 16 * 16) v2 ((v2 + v4) - 1) M) rfl rfl (Nat.le_of_ble_eq_true rfl) dX12_readsGround_204 ?_
    refine gx_if_eq (tgt := 265) dX12_readsGround_207 (by decide) ?_ ?_
    · refine gx_iinc (y := v6 + 1) (lv' := [some (.inr (some 74)), some (.inl v1), some (.inl v2), some (.inl v3), some (.inl v4), some (.inl v5), some (.inl (v6 + 1))]) dX12_readsGround_265 rfl rfl (by decide) rfl ?_
      refine gx_goto (tgt := 184) dX12_readsGround_268 (by decide) ?_
      refine gx_mk (lv' := [some (.inr (some 74)), some (.inl v1), some (.inl v2), some (.inl v3), some (.inl v4), some (.inl v5), some (.inl (v6 + 1))]) [true, true, true, true, true, true, true] rfl ?_
      exact ih (v6 + 1) M
    refine gx_iload dX12_readsGround_210 rfl ?_
    refine gx_bipush (x := 16) (by decide) dX12_readsGround_212 ?_
    refine gx_idivL (by decide) dX12_readsGround_214 ?_
    refine gx_iload_n dX12_readsGround_215 rfl ?_
    refine gx_iload_n dX12_readsGround_216 rfl ?_
    refine gx_iload dX12_readsGround_217 rfl ?_
    refine gx_iadd dX12_readsGround_219 ?_
    refine gx_iconst (x := 1) (by decide) dX12_readsGround_220 ?_
    refine gx_isub dX12_readsGround_221 ?_
    refine gx_cS_it (av := [.inl (v6 / 16), .inl v3, .inl ((v3 + v5) - 1)]) (st := []) ml_X12_118 (by omega) (c_X12_in (d - 1) (by omega) (v6 / 16) v3 ((v3 + v5) - 1) M) rfl rfl (Nat.le_of_ble_eq_true rfl) dX12_readsGround_222 ?_
    refine gx_if_ne (tgt := 231) dX12_readsGround_225 (by decide) ?_ ?_
    · refine gx_aload_n dX12_readsGround_231 rfl ?_
      refine gx_getR fl_X12_92 sh74 rfl dX12_readsGround_232 ?_
      refine gx_iload dX12_readsGround_235 rfl ?_
      refine gx_iload_n dX12_readsGround_237 rfl ?_
      refine gx_bipush (x := 126) (by decide) dX12_readsGround_238 ?_
      refine gx_icmp_ne (tgt := 247) dX12_readsGround_240 (by decide) ?_ ?_
      · refine gx_iload_n dX12_readsGround_247 rfl ?_
        refine gx_bipush (x := 97) (by decide) dX12_readsGround_248 ?_
        refine gx_isub dX12_readsGround_250 ?_
        refine gx_iconst (x := 2) (by decide) dX12_readsGround_251 ?_
        refine gx_iadd dX12_readsGround_252 ?_
        refine gx_iastore sh102 dX12_readsGround_253 ?_
        refine gx_aload_n dX12_readsGround_254 rfl ?_
        refine gx_getR fl_X12_95 sh74 rfl dX12_readsGround_255 ?_
        refine gx_iload dX12_readsGround_258 rfl ?_
        refine gx_aload_n dX12_readsGround_260 rfl ?_
        refine gx_nm (fun M101 => ?_)
        refine gx_getI fl_X12_153 sh74 rfl dX12_readsGround_261 ?_
        refine gx_iastore sh103 dX12_readsGround_264 ?_
        refine gx_iinc (y := v6 + 1) (lv' := [some (.inr (some 74)), some (.inl v1), some (.inl v2), some (.inl v3), some (.inl v4), some (.inl v5), some (.inl (v6 + 1))]) dX12_readsGround_265 rfl rfl (by decide) rfl ?_
        refine gx_goto (tgt := 184) dX12_readsGround_268 (by decide) ?_
        refine gx_mk (lv' := [some (.inr (some 74)), some (.inl v1), some (.inl v2), some (.inl v3), some (.inl v4), some (.inl v5), some (.inl (v6 + 1))]) [true, true, true, true, true, true, true] rfl ?_
        exact ih (v6 + 1) (hset M101 103 (Int32.toNatClampNeg v6) (M101 74 16))
      refine gx_iconst (x := 1) (by decide) dX12_readsGround_243 ?_
      refine gx_goto (tgt := 253) dX12_readsGround_244 (by decide) ?_
      refine gx_iastore sh102 dX12_readsGround_253 ?_
      refine gx_aload_n dX12_readsGround_254 rfl ?_
      refine gx_getR fl_X12_95 sh74 rfl dX12_readsGround_255 ?_
      refine gx_iload dX12_readsGround_258 rfl ?_
      refine gx_aload_n dX12_readsGround_260 rfl ?_
      refine gx_getI fl_X12_153 sh74 rfl dX12_readsGround_261 ?_
      refine gx_iastore sh103 dX12_readsGround_264 ?_
      refine gx_iinc (y := v6 + 1) (lv' := [some (.inr (some 74)), some (.inl v1), some (.inl v2), some (.inl v3), some (.inl v4), some (.inl v5), some (.inl (v6 + 1))]) dX12_readsGround_265 rfl rfl (by decide) rfl ?_
      refine gx_goto (tgt := 184) dX12_readsGround_268 (by decide) ?_
      refine gx_mk (lv' := [some (.inr (some 74)), some (.inl v1), some (.inl v2), some (.inl v3), some (.inl v4), some (.inl v5), some (.inl (v6 + 1))]) [true, true, true, true, true, true, true] rfl ?_
      exact ih (v6 + 1) (hset (hset M 102 (Int32.toNatClampNeg v6) 1) 103 (Int32.toNatClampNeg v6) ((hset M 102 (Int32.toNatClampNeg v6) 1) 74 16))
    refine gx_goto (tgt := 265) dX12_readsGround_228 (by decide) ?_
    refine gx_iinc (y := v6 + 1) (lv' := [some (.inr (some 74)), some (.inl v1), some (.inl v2), some (.inl v3), some (.inl v4), some (.inl v5), some (.inl (v6 + 1))]) dX12_readsGround_265 rfl rfl (by decide) rfl ?_
    refine gx_goto (tgt := 184) dX12_readsGround_268 (by decide) ?_
    refine gx_mk (lv' := [some (.inr (some 74)), some (.inl v1), some (.inl v2), some (.inl v3), some (.inl v4), some (.inl v5), some (.inl (v6 + 1))]) [true, true, true, true, true, true, true] rfl ?_
    exact ih (v6 + 1) M
def f_X12_readsGround_J32 (n : Nat) (v1 : Int32) (M : HMem) : Option (Int32 × HMem) :=
  if (M 74 45) = 12 then
    (hb2 (f_X12_wrongAt 4 (M 74 13) M) (fun x114 M115 =>
    if x114 &&& 1 = x114 then some (x114, M115) else none))
  else
    (hb1 (some (hset (hset M 74 45 ((M 74 45) + 1)) 74 13 (((hset M 74 45 ((M 74 45) + 1)) 74 13) + 1))) (fun M101 =>
    hb2 (f_X12_readsWithin n 0 15 44 M101) (fun x102 M103 =>
    if x102 = 0 then
      (some (0, M103))
    else
      (hb2 (f_X12_readsWithin n 0 11 58 M103) (fun x104 M105 =>
      if x104 = 0 then
        (some (0, M105))
      else
        (hb2 (f_X12_readsWithin n 1 (16 - (M103 74 16)) 120 M105) (fun x106 M107 =>
        if x106 = 0 then
          (some (0, M107))
        else
          (hb2 (f_X12_readsWithin n 1 (12 - (M105 74 16)) (-1) M107) (fun x108 M109 =>
          if x108 = 0 then
            (some (0, M109))
          else
            (if v1 = 126 then
              (f_X12_readsGround_L184 n v1 (M103 74 16) (M105 74 16) (M107 74 16) (M109 74 16) n 0 (hset M109 74 16 0))
            else
              (hb2 (f_X12_takes 61 (hset M109 74 16 0)) (fun x110 M111 =>
              if x110 = 0 then
                (some (0, M111))
              else
                (hb2 (f_X12_readsAmount n  M111) (fun x112 M113 =>
                if x112 = 0 then
                  (some (0, M113))
                else
                  (f_X12_readsGround_L184 n v1 (M103 74 16) (M105 74 16) (M107 74 16) (M109 74 16) n 0 M113)))))))))))))))
set_option maxRecDepth 20000 in
theorem w_X12_readsGround_J32 (d : Nat) (hd : 4 ≤ d) (n : Nat) (M : HMem) (v1 : Int32) : GX iX12_readsGround d eI (f_X12_readsGround_J32 n v1 M) 32 [some (.inr (some 74)), some (.inl v1), none, none, none, none, none] [] M := by
  rw [f_X12_readsGround_J32]
  refine gx_aload_n dX12_readsGround_32 rfl ?_
  refine gx_getI fl_X12_271 sh74 rfl dX12_readsGround_33 ?_
  refine gx_bipush (x := 12) (by decide) dX12_readsGround_36 ?_
  refine gx_icmp_ne (tgt := 51) dX12_readsGround_38 (by decide) ?_ ?_
  · refine gx_aload_n dX12_readsGround_51 rfl ?_
    refine gx_aload_n dX12_readsGround_52 rfl ?_
    refine gx_getI fl_X12_271 sh74 rfl dX12_readsGround_53 ?_
    refine gx_iconst (x := 1) (by decide) dX12_readsGround_56 ?_
    refine gx_iadd dX12_readsGround_57 ?_
    refine gx_putI fl_X12_271 fp_X12_45 sh74 rfl dX12_readsGround_58 ?_
    refine gx_aload_n dX12_readsGround_61 rfl ?_
    refine gx_aload_n dX12_readsGround_62 rfl ?_
    refine gx_getI fl_X12_137 sh74 rfl dX12_readsGround_63 ?_
    refine gx_iconst (x := 1) (by decide) dX12_readsGround_66 ?_
    refine gx_iadd dX12_readsGround_67 ?_
    refine gx_putI fl_X12_137 fp_X12_13 sh74 rfl dX12_readsGround_68 ?_
    refine gx_aload_n dX12_readsGround_71 rfl ?_
    refine gx_iconst (x := 0) (by decide) dX12_readsGround_72 ?_
    refine gx_bipush (x := 15) (by decide) dX12_readsGround_73 ?_
    refine gx_bipush (x := 44) (by decide) dX12_readsGround_75 ?_
    refine gx_nm (fun M101 => ?_)
    refine gx_cV_im (av := [.inl 0, .inl 15, .inl 44]) (st := []) ml_X12_274 (by omega) sh74 (c_X12_readsWithin (d - 1) (by omega) n 0 15 44 M101) rfl rfl (Nat.le_of_ble_eq_true rfl) dX12_readsGround_77 (fun x102 M103 => ?_)
    refine gx_if_ne (tgt := 85) dX12_readsGround_80 (by decide) ?_ ?_
    · refine gx_aload_n dX12_readsGround_85 rfl ?_
      refine gx_getI fl_X12_153 sh74 rfl dX12_readsGround_86 ?_
      refine gx_istore_n (lv' := [some (.inr (some 74)), some (.inl v1), some (.inl (M103 74 16)), none, none, none, none]) dX12_readsGround_89 (by decide) rfl ?_
      refine gx_aload_n dX12_readsGround_90 rfl ?_
      refine gx_iconst (x := 0) (by decide) dX12_readsGround_91 ?_
      refine gx_bipush (x := 11) (by decide) dX12_readsGround_92 ?_
      refine gx_bipush (x := 58) (by decide) dX12_readsGround_94 ?_
      refine gx_cV_im (av := [.inl 0, .inl 11, .inl 58]) (st := []) ml_X12_274 (by omega) sh74 (c_X12_readsWithin (d - 1) (by omega) n 0 11 58 M103) rfl rfl (Nat.le_of_ble_eq_true rfl) dX12_readsGround_96 (fun x104 M105 => ?_)
      refine gx_if_ne (tgt := 104) dX12_readsGround_99 (by decide) ?_ ?_
      · refine gx_aload_n dX12_readsGround_104 rfl ?_
        refine gx_getI fl_X12_153 sh74 rfl dX12_readsGround_105 ?_
        refine gx_istore_n (lv' := [some (.inr (some 74)), some (.inl v1), some (.inl (M103 74 16)), some (.inl (M105 74 16)), none, none, none]) dX12_readsGround_108 (by decide) rfl ?_
        refine gx_aload_n dX12_readsGround_109 rfl ?_
        refine gx_iconst (x := 1) (by decide) dX12_readsGround_110 ?_
        refine gx_bipush (x := 16) (by decide) dX12_readsGround_111 ?_
        refine gx_iload_n dX12_readsGround_113 rfl ?_
        refine gx_isub dX12_readsGround_114 ?_
        refine gx_bipush (x := 120) (by decide) dX12_readsGround_115 ?_
        refine gx_cV_im (av := [.inl 1, .inl (16 - (M103 74 16)), .inl 120]) (st := []) ml_X12_274 (by omega) sh74 (c_X12_readsWithin (d - 1) (by omega) n 1 (16 - (M103 74 16)) 120 M105) rfl rfl (Nat.le_of_ble_eq_true rfl) dX12_readsGround_117 (fun x106 M107 => ?_)
        refine gx_if_ne (tgt := 125) dX12_readsGround_120 (by decide) ?_ ?_
        · refine gx_aload_n dX12_readsGround_125 rfl ?_
          refine gx_getI fl_X12_153 sh74 rfl dX12_readsGround_126 ?_
          refine gx_istore (lv' := [some (.inr (some 74)), some (.inl v1), some (.inl (M103 74 16)), some (.inl (M105 74 16)), some (.inl (M107 74 16)), none, none]) dX12_readsGround_129 (by decide) rfl ?_
          refine gx_aload_n dX12_readsGround_131 rfl ?_
          refine gx_iconst (x := 1) (by decide) dX12_readsGround_132 ?_
          refine gx_bipush (x := 12) (by decide) dX12_readsGround_133 ?_
          refine gx_iload_n dX12_readsGround_135 rfl ?_
          refine gx_isub dX12_readsGround_136 ?_
          refine gx_iconst (x := (-1)) (by decide) dX12_readsGround_137 ?_
          refine gx_cV_im (av := [.inl 1, .inl (12 - (M105 74 16)), .inl (-1)]) (st := []) ml_X12_274 (by omega) sh74 (c_X12_readsWithin (d - 1) (by omega) n 1 (12 - (M105 74 16)) (-1) M107) rfl rfl (Nat.le_of_ble_eq_true rfl) dX12_readsGround_138 (fun x108 M109 => ?_)
          refine gx_if_ne (tgt := 146) dX12_readsGround_141 (by decide) ?_ ?_
          · refine gx_aload_n dX12_readsGround_146 rfl ?_
            refine gx_getI fl_X12_153 sh74 rfl dX12_readsGround_147 ?_
            refine gx_istore (lv' := [some (.inr (some 74)), some (.inl v1), some (.inl (M103 74 16)), some (.inl (M105 74 16)), some (.inl (M107 74 16)), some (.inl (M109 74 16)), none]) dX12_readsGround_150 (by decide) rfl ?_
            refine gx_aload_n dX12_readsGround_152 rfl ?_
            refine gx_iconst (x := 0) (by decide) dX12_readsGround_153 ?_
            refine gx_putI fl_X12_153 fp_X12_16 sh74 rfl dX12_readsGround_154 ?_
            refine gx_iload_n dX12_readsGround_157 rfl ?_
            refine gx_bipush (x := 126) (by decide) dX12_readsGround_158 ?_
            refine gx_icmp_eq (tgt := 181) dX12_readsGround_160 (by decide) ?_ ?_
            · refine gx_iconst (x := 0) (by decide) dX12_readsGround_181 ?_
              refine gx_istore (lv' := [some (.inr (some 74)), some (.inl v1), some (.inl (M103 74 16)), some (.inl (M105 74 16)), some (.inl (M107 74 16)), some (.inl (M109 74 16)), some (.inl 0)]) dX12_readsGround_182 (by decide) rfl ?_
              refine gx_mk (lv' := [some (.inr (some 74)), some (.inl v1), some (.inl (M103 74 16)), some (.inl (M105 74 16)), some (.inl (M107 74 16)), some (.inl (M109 74 16)), some (.inl 0)]) [true, true, true, true, true, true, true] rfl ?_
              exact w_X12_readsGround_L184 d hd n v1 (M103 74 16) (M105 74 16) (M107 74 16) (M109 74 16) n 0 (hset M109 74 16 0)
            refine gx_aload_n dX12_readsGround_163 rfl ?_
            refine gx_bipush (x := 61) (by decide) dX12_readsGround_164 ?_
            refine gx_cV_im (av := [.inl 61]) (st := []) ml_X12_227 (by omega) sh74 (c_X12_takes (d - 1) (by omega) 61 (hset M109 74 16 0)) rfl rfl (Nat.le_of_ble_eq_true rfl) dX12_readsGround_166 (fun x110 M111 => ?_)
            refine gx_if_eq (tgt := 179) dX12_readsGround_169 (by decide) ?_ ?_
            · refine gx_iconst (x := 0) (by decide) dX12_readsGround_179 ?_
              exact gx_zret rfl (by decide) rfl dX12_readsGround_180
            refine gx_aload_n dX12_readsGround_172 rfl ?_
            refine gx_cV_im (av := []) (st := []) ml_X12_268 (by omega) sh74 (c_X12_readsAmount (d - 1) (by omega) n  M111) rfl rfl (Nat.le_of_ble_eq_true rfl) dX12_readsGround_173 (fun x112 M113 => ?_)
            refine gx_if_ne (tgt := 181) dX12_readsGround_176 (by decide) ?_ ?_
            · refine gx_iconst (x := 0) (by decide) dX12_readsGround_181 ?_
              refine gx_istore (lv' := [some (.inr (some 74)), some (.inl v1), some (.inl (M103 74 16)), some (.inl (M105 74 16)), some (.inl (M107 74 16)), some (.inl (M109 74 16)), some (.inl 0)]) dX12_readsGround_182 (by decide) rfl ?_
              refine gx_mk (lv' := [some (.inr (some 74)), some (.inl v1), some (.inl (M103 74 16)), some (.inl (M105 74 16)), some (.inl (M107 74 16)), some (.inl (M109 74 16)), some (.inl 0)]) [true, true, true, true, true, true, true] rfl ?_
              exact w_X12_readsGround_L184 d hd n v1 (M103 74 16) (M105 74 16) (M107 74 16) (M109 74 16) n 0 M113
            refine gx_iconst (x := 0) (by decide) dX12_readsGround_179 ?_
            exact gx_zret rfl (by decide) rfl dX12_readsGround_180
          refine gx_iconst (x := 0) (by decide) dX12_readsGround_144 ?_
          exact gx_zret rfl (by decide) rfl dX12_readsGround_145
        refine gx_iconst (x := 0) (by decide) dX12_readsGround_123 ?_
        exact gx_zret rfl (by decide) rfl dX12_readsGround_124
      refine gx_iconst (x := 0) (by decide) dX12_readsGround_102 ?_
      exact gx_zret rfl (by decide) rfl dX12_readsGround_103
    refine gx_iconst (x := 0) (by decide) dX12_readsGround_83 ?_
    exact gx_zret rfl (by decide) rfl dX12_readsGround_84
  refine gx_aload_n dX12_readsGround_41 rfl ?_
  refine gx_iconst (x := 4) (by decide) dX12_readsGround_42 ?_
  refine gx_aload_n dX12_readsGround_43 rfl ?_
  refine gx_getI fl_X12_137 sh74 rfl dX12_readsGround_44 ?_
  refine gx_cV_im (av := [.inl 4, .inl (M 74 13)]) (st := []) ml_X12_150 (by omega) sh74 (c_X12_wrongAt (d - 1) (by omega) 4 (M 74 13) M) rfl rfl (Nat.le_of_ble_eq_true rfl) dX12_readsGround_47 (fun x114 M115 => ?_)
  exact gx_zretG rfl rfl dX12_readsGround_50
def f_X12_readsGround (n : Nat)  (M : HMem) : Option (Int32 × HMem) :=
  hb1 (f_X12_here  M) (fun x101 =>
  if x101 = 126 then
    (f_X12_readsGround_J32 n x101 M)
  else
    (if (f_X12_in x101 97 104) = 0 then
      (hb2 (f_X12_wrongAt 1 (M 74 13) M) (fun x102 M103 =>
      if x102 &&& 1 = x102 then some (x102, M103) else none))
    else
      (f_X12_readsGround_J32 n x101 M)))
set_option maxRecDepth 20000 in
theorem w_X12_readsGround (d : Nat) (hd : 4 ≤ d) (n : Nat)  (M : HMem) : GX iX12_readsGround d eI (f_X12_readsGround n  M) 0 [some (.inr (some 74)), none, none, none, none, none, none] [] M := by
  rw [f_X12_readsGround]
  refine gx_aload_n dX12_readsGround_0 rfl ?_
  refine gx_cV_ip (av := []) (st := []) ml_X12_143 (by omega) sh74 (c_X12_here (d - 1) (by omega)  M) rfl rfl (Nat.le_of_ble_eq_true rfl) dX12_readsGround_1 (fun x101 => ?_)
  refine gx_istore_n (lv' := [some (.inr (some 74)), some (.inl x101), none, none, none, none, none]) dX12_readsGround_4 (by decide) rfl ?_
  refine gx_iload_n dX12_readsGround_5 rfl ?_
  refine gx_bipush (x := 126) (by decide) dX12_readsGround_6 ?_
  refine gx_icmp_eq (tgt := 32) dX12_readsGround_8 (by decide) ?_ ?_
  · refine gx_mk (lv' := [some (.inr (some 74)), some (.inl x101), none, none, none, none, none]) [true, true, false, false, false, false, false] rfl ?_
    exact w_X12_readsGround_J32 d hd n M x101
  refine gx_iload_n dX12_readsGround_11 rfl ?_
  refine gx_bipush (x := 97) (by decide) dX12_readsGround_12 ?_
  refine gx_bipush (x := 104) (by decide) dX12_readsGround_14 ?_
  refine gx_cS_it (av := [.inl x101, .inl 97, .inl 104]) (st := []) ml_X12_118 (by omega) (c_X12_in (d - 1) (by omega) x101 97 104 M) rfl rfl (Nat.le_of_ble_eq_true rfl) dX12_readsGround_16 ?_
  refine gx_if_ne (tgt := 32) dX12_readsGround_19 (by decide) ?_ ?_
  · refine gx_mk (lv' := [some (.inr (some 74)), some (.inl x101), none, none, none, none, none]) [true, true, false, false, false, false, false] rfl ?_
    exact w_X12_readsGround_J32 d hd n M x101
  refine gx_aload_n dX12_readsGround_22 rfl ?_
  refine gx_iconst (x := 1) (by decide) dX12_readsGround_23 ?_
  refine gx_aload_n dX12_readsGround_24 rfl ?_
  refine gx_getI fl_X12_137 sh74 rfl dX12_readsGround_25 ?_
  refine gx_cV_im (av := [.inl 1, .inl (M 74 13)]) (st := []) ml_X12_150 (by omega) sh74 (c_X12_wrongAt (d - 1) (by omega) 1 (M 74 13) M) rfl rfl (Nat.le_of_ble_eq_true rfl) dX12_readsGround_28 (fun x102 M103 => ?_)
  exact gx_zretG rfl rfl dX12_readsGround_31
theorem c_X12_readsGround (d : Nat) (hd : 4 ≤ d) (n : Nat)  (M : HMem) : MX iX12_readsGround d [.inr (some 74)] M eI (f_X12_readsGround n  M) := mx_of (by decide +kernel) (Nat.le_of_ble_eq_true rfl) rfl (w_X12_readsGround d hd n  M)
-- X12_land
def f_X12_land_L129 (n : Nat)  : Nat → Int32 → HMem → Option (Int32 × HMem)
  | 0, _, _ => none
  | k + 1, v3, M =>
    if 192 ≤ v3 then
      (some (M 74 45, M))
    else
      (if hib v3 192 then
      if hib v3 192 then
      hb1 (some (hset M 82 (Int32.toNatClampNeg v3) (M 102 (Int32.toNatClampNeg v3)))) (fun M101 =>
      if hib v3 192 then
      if hib v3 192 then
      f_X12_land_L129 n k (v3 + 1) (hset M101 83 (Int32.toNatClampNeg v3) (M101 103 (Int32.toNatClampNeg v3)))
      else none
      else none)
      else none
      else none)
set_option maxRecDepth 20000 in
theorem w_X12_land_L129 (d : Nat) (hd : 5 ≤ d) (n : Nat)  : ∀ (k : Nat) (v3 : Int32) (M : HMem), GX iX12_land d eI (f_X12_land_L129 n k v3 M) 129 [some (.inr (some 74)), none, none, some (.inl v3)] [] M := by
  intro k
  induction k with
  | zero => intro v3 M; exact gx_none
  | succ k ih =>
    intro v3 M
    rw [f_X12_land_L129]
    refine gx_iload_n dX12_land_129 rfl ?_
    refine gx_sipush (x := 192) (by decide) dX12_land_130 ?_
    refine gx_icmp_ge (tgt := 166) dX12_land_133 (by decide) ?_ ?_
    · refine gx_aload_n dX12_land_166 rfl ?_
      refine gx_getI fl_X12_271 sh74 rfl dX12_land_167 ?_
      exact gx_iret rfl rfl dX12_land_170
    refine gx_aload_n dX12_land_136 rfl ?_
    refine gx_getR fl_X12_31 sh74 rfl dX12_land_137 ?_
    refine gx_iload_n dX12_land_140 rfl ?_
    refine gx_aload_n dX12_land_141 rfl ?_
    refine gx_getR fl_X12_92 sh74 rfl dX12_land_142 ?_
    refine gx_iload_n dX12_land_145 rfl ?_
    refine gx_iaload sh102 dX12_land_146 ?_
    refine gx_iastore sh82 dX12_land_147 ?_
    refine gx_aload_n dX12_land_148 rfl ?_
    refine gx_getR fl_X12_34 sh74 rfl dX12_land_149 ?_
    refine gx_iload_n dX12_land_152 rfl ?_
    refine gx_aload_n dX12_land_153 rfl ?_
    refine gx_getR fl_X12_95 sh74 rfl dX12_land_154 ?_
    refine gx_iload_n dX12_land_157 rfl ?_
    refine gx_nm (fun M101 => ?_)
    refine gx_iaload sh103 dX12_land_158 ?_
    refine gx_iastore sh83 dX12_land_159 ?_
    refine gx_iinc (y := v3 + 1) (lv' := [some (.inr (some 74)), none, none, some (.inl (v3 + 1))]) dX12_land_160 rfl rfl (by decide) rfl ?_
    refine gx_goto (tgt := 129) dX12_land_163 (by decide) ?_
    refine gx_mk (lv' := [some (.inr (some 74)), none, none, some (.inl (v3 + 1))]) [true, false, false, true] rfl ?_
    exact ih (v3 + 1) (hset M101 83 (Int32.toNatClampNeg v3) (M101 103 (Int32.toNatClampNeg v3)))
def f_X12_land_J105 (n : Nat) (v2 : Int32) (M : HMem) : Option (Int32 × HMem) :=
  if v2 = 0 then
    (some ((hset M 74 12 0) 74 15, hset M 74 12 0))
  else
    (f_X12_land_L129 n n 0 (hset (hset M 74 12 0) 74 10 ((hset M 74 12 0) 74 45)))
set_option maxRecDepth 20000 in
theorem w_X12_land_J105 (d : Nat) (hd : 5 ≤ d) (n : Nat) (M : HMem) (v2 : Int32) : GX iX12_land d eI (f_X12_land_J105 n v2 M) 105 [some (.inr (some 74)), none, some (.inl v2), none] [] M := by
  rw [f_X12_land_J105]
  refine gx_aload_n dX12_land_105 rfl ?_
  refine gx_iconst (x := 0) (by decide) dX12_land_106 ?_
  refine gx_putI fl_X12_130 fp_X12_12 sh74 rfl dX12_land_107 ?_
  refine gx_iload_n dX12_land_110 rfl ?_
  refine gx_if_ne (tgt := 119) dX12_land_111 (by decide) ?_ ?_
  · refine gx_aload_n dX12_land_119 rfl ?_
    refine gx_aload_n dX12_land_120 rfl ?_
    refine gx_getI fl_X12_271 sh74 rfl dX12_land_121 ?_
    refine gx_putI fl_X12_280 fp_X12_10 sh74 rfl dX12_land_124 ?_
    refine gx_iconst (x := 0) (by decide) dX12_land_127 ?_
    refine gx_istore_n (lv' := [some (.inr (some 74)), none, some (.inl v2), some (.inl 0)]) dX12_land_128 (by decide) rfl ?_
    refine gx_mk (lv' := [some (.inr (some 74)), none, none, some (.inl 0)]) [true, false, false, true] rfl ?_
    exact w_X12_land_L129 d hd n  n 0 (hset (hset M 74 12 0) 74 10 ((hset M 74 12 0) 74 45))
  refine gx_aload_n dX12_land_114 rfl ?_
  refine gx_getI fl_X12_147 sh74 rfl dX12_land_115 ?_
  exact gx_iret rfl rfl dX12_land_118
def f_X12_land_L65 (n : Nat)  : Nat → Int32 → HMem → Option (Int32 × HMem)
  | 0, _, _ => none
  | k + 1, v2, M =>
    if v2 = 0 then
      (f_X12_land_J105 n v2 M)
    else
      (if (M 74 14) ≤ (M 74 13) then
        (f_X12_land_J105 n v2 M)
      else
        (hb2 (f_X12_takes 59 M) (fun x101 M102 =>
        if x101 = 0 then
          (f_X12_land_L65 n k 0 M102)
        else
          (hb2 (f_X12_readsGround n  M102) (fun x103 M104 =>
          if x103 = 0 then
            (f_X12_land_L65 n k 0 M104)
          else
            (f_X12_land_L65 n k 1 M104))))))
set_option maxRecDepth 20000 in
theorem w_X12_land_L65 (d : Nat) (hd : 5 ≤ d) (n : Nat)  : ∀ (k : Nat) (v2 : Int32) (M : HMem), GX iX12_land d eI (f_X12_land_L65 n k v2 M) 65 [some (.inr (some 74)), none, some (.inl v2), none] [] M := by
  intro k
  induction k with
  | zero => intro v2 M; exact gx_none
  | succ k ih =>
    intro v2 M
    rw [f_X12_land_L65]
    refine gx_iload_n dX12_land_65 rfl ?_
    refine gx_if_eq (tgt := 105) dX12_land_66 (by decide) ?_ ?_
    · refine gx_mk (lv' := [some (.inr (some 74)), none, some (.inl v2), none]) [true, false, true, false] rfl ?_
      exact w_X12_land_J105 d hd n M v2
    refine gx_aload_n dX12_land_69 rfl ?_
    refine gx_getI fl_X12_137 sh74 rfl dX12_land_70 ?_
    refine gx_aload_n dX12_land_73 rfl ?_
    refine gx_getI fl_X12_140 sh74 rfl dX12_land_74 ?_
    refine gx_icmp_ge (tgt := 105) dX12_land_77 (by decide) ?_ ?_
    · refine gx_mk (lv' := [some (.inr (some 74)), none, some (.inl v2), none]) [true, false, true, false] rfl ?_
      exact w_X12_land_J105 d hd n M v2
    refine gx_aload_n dX12_land_80 rfl ?_
    refine gx_bipush (x := 59) (by decide) dX12_land_81 ?_
    refine gx_cV_im (av := [.inl 59]) (st := []) ml_X12_227 (by omega) sh74 (c_X12_takes (d - 1) (by omega) 59 M) rfl rfl (Nat.le_of_ble_eq_true rfl) dX12_land_83 (fun x101 M102 => ?_)
    refine gx_if_eq (tgt := 100) dX12_land_86 (by decide) ?_ ?_
    · refine gx_iconst (x := 0) (by decide) dX12_land_100 ?_
      refine gx_istore_n (lv' := [some (.inr (some 74)), none, some (.inl 0), none]) dX12_land_101 (by decide) rfl ?_
      refine gx_goto (tgt := 65) dX12_land_102 (by decide) ?_
      refine gx_mk (lv' := [some (.inr (some 74)), none, some (.inl 0), none]) [true, false, true, false] rfl ?_
      exact ih 0 M102
    refine gx_aload_n dX12_land_89 rfl ?_
    refine gx_cV_im (av := []) (st := []) ml_X12_277 (by omega) sh74 (c_X12_readsGround (d - 1) (by omega) n  M102) rfl rfl (Nat.le_of_ble_eq_true rfl) dX12_land_90 (fun x103 M104 => ?_)
    refine gx_if_eq (tgt := 100) dX12_land_93 (by decide) ?_ ?_
    · refine gx_iconst (x := 0) (by decide) dX12_land_100 ?_
      refine gx_istore_n (lv' := [some (.inr (some 74)), none, some (.inl 0), none]) dX12_land_101 (by decide) rfl ?_
      refine gx_goto (tgt := 65) dX12_land_102 (by decide) ?_
      refine gx_mk (lv' := [some (.inr (some 74)), none, some (.inl 0), none]) [true, false, true, false] rfl ?_
      exact ih 0 M104
    refine gx_iconst (x := 1) (by decide) dX12_land_96 ?_
    refine gx_goto (tgt := 101) dX12_land_97 (by decide) ?_
    refine gx_istore_n (lv' := [some (.inr (some 74)), none, some (.inl 1), none]) dX12_land_101 (by decide) rfl ?_
    refine gx_goto (tgt := 65) dX12_land_102 (by decide) ?_
    refine gx_mk (lv' := [some (.inr (some 74)), none, some (.inl 1), none]) [true, false, true, false] rfl ?_
    exact ih 1 M104
def f_X12_land_L33 (n : Nat)  : Nat → Int32 → HMem → Option (Int32 × HMem)
  | 0, _, _ => none
  | k + 1, v2, M =>
    if 192 ≤ v2 then
      (hb2 (f_X12_readsGround n  M) (fun x101 M102 =>
      f_X12_land_L65 n n x101 M102))
    else
      (if hib v2 192 then
      if hib v2 192 then
      f_X12_land_L33 n k (v2 + 1) (hset (hset M 102 (Int32.toNatClampNeg v2) 0) 103 (Int32.toNatClampNeg v2) 0)
      else none
      else none)
set_option maxRecDepth 20000 in
theorem w_X12_land_L33 (d : Nat) (hd : 5 ≤ d) (n : Nat)  : ∀ (k : Nat) (v2 : Int32) (M : HMem), GX iX12_land d eI (f_X12_land_L33 n k v2 M) 33 [some (.inr (some 74)), none, some (.inl v2), none] [] M := by
  intro k
  induction k with
  | zero => intro v2 M; exact gx_none
  | succ k ih =>
    intro v2 M
    rw [f_X12_land_L33]
    refine gx_iload_n dX12_land_33 rfl ?_
    refine gx_sipush (x := 192) (by decide) dX12_land_34 ?_
    refine gx_icmp_ge (tgt := 60) dX12_land_37 (by decide) ?_ ?_
    · refine gx_aload_n dX12_land_60 rfl ?_
      refine gx_cV_im (av := []) (st := []) ml_X12_277 (by omega) sh74 (c_X12_readsGround (d - 1) (by omega) n  M) rfl rfl (Nat.le_of_ble_eq_true rfl) dX12_land_61 (fun x101 M102 => ?_)
      refine gx_istore_n (lv' := [some (.inr (some 74)), none, some (.inl x101), none]) dX12_land_64 (by decide) rfl ?_
      refine gx_mk (lv' := [some (.inr (some 74)), none, some (.inl x101), none]) [true, false, true, false] rfl ?_
      exact w_X12_land_L65 d hd n  n x101 M102
    refine gx_aload_n dX12_land_40 rfl ?_
    refine gx_getR fl_X12_92 sh74 rfl dX12_land_41 ?_
    refine gx_iload_n dX12_land_44 rfl ?_
    refine gx_iconst (x := 0) (by decide) dX12_land_45 ?_
    refine gx_iastore sh102 dX12_land_46 ?_
    refine gx_aload_n dX12_land_47 rfl ?_
    refine gx_getR fl_X12_95 sh74 rfl dX12_land_48 ?_
    refine gx_iload_n dX12_land_51 rfl ?_
    refine gx_iconst (x := 0) (by decide) dX12_land_52 ?_
    refine gx_iastore sh103 dX12_land_53 ?_
    refine gx_iinc (y := v2 + 1) (lv' := [some (.inr (some 74)), none, some (.inl (v2 + 1)), none]) dX12_land_54 rfl rfl (by decide) rfl ?_
    refine gx_goto (tgt := 33) dX12_land_57 (by decide) ?_
    refine gx_mk (lv' := [some (.inr (some 74)), none, some (.inl (v2 + 1)), none]) [true, false, true, false] rfl ?_
    exact ih (v2 + 1) (hset (hset M 102 (Int32.toNatClampNeg v2) 0) 103 (Int32.toNatClampNeg v2) 0)
def f_X12_land (n : Nat) (v1 : Int32) (M : HMem) : Option (Int32 × HMem) :=
  if (f_X12_in v1 1 160) = 0 then
    (some ((-1), M))
  else
    (if v1 ≤ (M 74 12) then
      (f_X12_land_L33 n n 0 (hset (f_X12_beginsText v1 M) 74 45 0))
    else
      (some ((-1), M)))
set_option maxRecDepth 20000 in
theorem w_X12_land (d : Nat) (hd : 5 ≤ d) (n : Nat) (v1 : Int32) (M : HMem) : GX iX12_land d eI (f_X12_land n v1 M) 0 [some (.inr (some 74)), some (.inl v1), none, none] [] M := by
  rw [f_X12_land]
  refine gx_iload_n dX12_land_0 rfl ?_
  refine gx_iconst (x := 1) (by decide) dX12_land_1 ?_
  refine gx_sipush (x := 160) (by decide) dX12_land_2 ?_
  refine gx_cS_it (av := [.inl v1, .inl 1, .inl 160]) (st := []) ml_X12_118 (by omega) (c_X12_in (d - 1) (by omega) v1 1 160 M) rfl rfl (Nat.le_of_ble_eq_true rfl) dX12_land_5 ?_
  refine gx_if_eq (tgt := 19) dX12_land_8 (by decide) ?_ ?_
  · refine gx_iconst (x := (-1)) (by decide) dX12_land_19 ?_
    exact gx_iret rfl rfl dX12_land_20
  refine gx_iload_n dX12_land_11 rfl ?_
  refine gx_aload_n dX12_land_12 rfl ?_
  refine gx_getI fl_X12_130 sh74 rfl dX12_land_13 ?_
  refine gx_icmp_le (tgt := 21) dX12_land_16 (by decide) ?_ ?_
  · refine gx_aload_n dX12_land_21 rfl ?_
    refine gx_iload_n dX12_land_22 rfl ?_
    refine gx_cV_vt (av := [.inl v1]) (st := []) ml_X12_221 (by omega) sh74 (c_X12_beginsText (d - 1) (by omega) v1 M) rfl rfl (Nat.le_of_ble_eq_true rfl) dX12_land_23 ?_
    refine gx_aload_n dX12_land_26 rfl ?_
    refine gx_iconst (x := 0) (by decide) dX12_land_27 ?_
    refine gx_putI fl_X12_271 fp_X12_45 sh74 rfl dX12_land_28 ?_
    refine gx_iconst (x := 0) (by decide) dX12_land_31 ?_
    refine gx_istore_n (lv' := [some (.inr (some 74)), some (.inl v1), some (.inl 0), none]) dX12_land_32 (by decide) rfl ?_
    refine gx_mk (lv' := [some (.inr (some 74)), none, some (.inl 0), none]) [true, false, true, false] rfl ?_
    exact w_X12_land_L33 d hd n  n 0 (hset (f_X12_beginsText v1 M) 74 45 0)
  refine gx_iconst (x := (-1)) (by decide) dX12_land_19 ?_
  exact gx_iret rfl rfl dX12_land_20
theorem c_X12_land (d : Nat) (hd : 5 ≤ d) (n : Nat) (v1 : Int32) (M : HMem) : MX iX12_land d [.inr (some 74), .inl v1] M eI (f_X12_land n v1 M) := mx_of (by decide +kernel) (Nat.le_of_ble_eq_true rfl) rfl (w_X12_land d hd n v1 M)
-- X12_landAt
def f_X12_landAt (v1 : Int32) (v2 : Int32) (M : HMem) : Option Int32 :=
  if (f_X12_isPlace v1 v2) = 0 then
    (some (-1))
  else
    (if hib ((16 * v2) + v1) 192 then
    some (M 82 (Int32.toNatClampNeg ((16 * v2) + v1)))
    else none)
set_option maxRecDepth 20000 in
theorem w_X12_landAt (d : Nat) (hd : 2 ≤ d) (v1 : Int32) (v2 : Int32) (M : HMem) : GX iX12_landAt d (eP M) (f_X12_landAt v1 v2 M) 0 [some (.inr (some 74)), some (.inl v1), some (.inl v2)] [] M := by
  rw [f_X12_landAt]
  refine gx_iload_n dX12_landAt_0 rfl ?_
  refine gx_iload_n dX12_landAt_1 rfl ?_
  refine gx_cS_it (av := [.inl v1, .inl v2]) (st := []) ml_X12_126 (by omega) (c_X12_isPlace (d - 1) (by omega) v1 v2 M) rfl rfl (Nat.le_of_ble_eq_true rfl) dX12_landAt_2 ?_
  refine gx_if_eq (tgt := 22) dX12_landAt_5 (by decide) ?_ ?_
  · refine gx_iconst (x := (-1)) (by decide) dX12_landAt_22 ?_
    exact gx_iret rfl rfl dX12_landAt_23
  refine gx_aload_n dX12_landAt_8 rfl ?_
  refine gx_getR fl_X12_31 sh74 rfl dX12_landAt_9 ?_
  refine gx_bipush (x := 16) (by decide) dX12_landAt_12 ?_
  refine gx_iload_n dX12_landAt_14 rfl ?_
  refine gx_imul dX12_landAt_15 ?_
  refine gx_iload_n dX12_landAt_16 rfl ?_
  refine gx_iadd dX12_landAt_17 ?_
  refine gx_iaload sh82 dX12_landAt_18 ?_
  refine gx_goto (tgt := 23) dX12_landAt_19 (by decide) ?_
  exact gx_iret rfl rfl dX12_landAt_23
theorem c_X12_landAt (d : Nat) (hd : 2 ≤ d) (v1 : Int32) (v2 : Int32) (M : HMem) : MX iX12_landAt d [.inr (some 74), .inl v1, .inl v2] M (eP M) (f_X12_landAt v1 v2 M) := mx_of (by decide +kernel) (Nat.le_of_ble_eq_true rfl) rfl (w_X12_landAt d hd v1 v2 M)
-- X12_strengthOf
def f_X12_strengthOf (v1 : Int32) (v2 : Int32) (M : HMem) : Option Int32 :=
  if hib v1 8 then
  if (((M 75 30) - (M 79 (Int32.toNatClampNeg v1))) - v2) < 0 then
    (some 0)
  else
    (if hib ((97 * v1) + v2) 776 then
    if hib (M 81 (Int32.toNatClampNeg ((97 * v1) + v2))) 192 then
    if (M 82 (Int32.toNatClampNeg (M 81 (Int32.toNatClampNeg ((97 * v1) + v2))))) = 1 then
      (some 0)
    else
      (some (f_X12_max 0 (99 - ((((M 75 30) - (M 79 (Int32.toNatClampNeg v1))) - v2) * (M 74 9)))))
    else none
    else none)
  else none
set_option maxRecDepth 20000 in
theorem w_X12_strengthOf (d : Nat) (hd : 1 ≤ d) (v1 : Int32) (v2 : Int32) (M : HMem) : GX iX12_strengthOf d (eP M) (f_X12_strengthOf v1 v2 M) 0 [some (.inr (some 74)), some (.inl v1), some (.inl v2), none] [] M := by
  rw [f_X12_strengthOf]
  refine gx_aload_n dX12_strengthOf_0 rfl ?_
  refine gx_getR fl_X12_7 sh74 rfl dX12_strengthOf_1 ?_
  refine gx_bipush (x := 30) (by decide) dX12_strengthOf_4 ?_
  refine gx_ialoadL (j := 30) sh75 (by decide) (by decide) dX12_strengthOf_6 ?_
  refine gx_aload_n dX12_strengthOf_7 rfl ?_
  refine gx_getR fl_X12_22 sh74 rfl dX12_strengthOf_8 ?_
  refine gx_iload_n dX12_strengthOf_11 rfl ?_
  refine gx_iaload sh79 dX12_strengthOf_12 ?_
  refine gx_isub dX12_strengthOf_13 ?_
  refine gx_iload_n dX12_strengthOf_14 rfl ?_
  refine gx_isub dX12_strengthOf_15 ?_
  refine gx_istore_n (lv' := [some (.inr (some 74)), some (.inl v1), some (.inl v2), some (.inl (((M 75 30) - (M 79 (Int32.toNatClampNeg v1))) - v2))]) dX12_strengthOf_16 (by decide) rfl ?_
  refine gx_iload_n dX12_strengthOf_17 rfl ?_
  refine gx_if_lt (tgt := 41) dX12_strengthOf_18 (by decide) ?_ ?_
  · refine gx_iconst (x := 0) (by decide) dX12_strengthOf_41 ?_
    exact gx_iret rfl rfl dX12_strengthOf_42
  refine gx_aload_n dX12_strengthOf_21 rfl ?_
  refine gx_getR fl_X12_31 sh74 rfl dX12_strengthOf_22 ?_
  refine gx_aload_n dX12_strengthOf_25 rfl ?_
  refine gx_getR fl_X12_28 sh74 rfl dX12_strengthOf_26 ?_
  refine gx_bipush (x := 97) (by decide) dX12_strengthOf_29 ?_
  refine gx_iload_n dX12_strengthOf_31 rfl ?_
  refine gx_imul dX12_strengthOf_32 ?_
  refine gx_iload_n dX12_strengthOf_33 rfl ?_
  refine gx_iadd dX12_strengthOf_34 ?_
  refine gx_iaload sh81 dX12_strengthOf_35 ?_
  refine gx_iaload sh82 dX12_strengthOf_36 ?_
  refine gx_iconst (x := 1) (by decide) dX12_strengthOf_37 ?_
  refine gx_icmp_ne (tgt := 43) dX12_strengthOf_38 (by decide) ?_ ?_
  · refine gx_iconst (x := 0) (by decide) dX12_strengthOf_43 ?_
    refine gx_bipush (x := 99) (by decide) dX12_strengthOf_44 ?_
    refine gx_iload_n dX12_strengthOf_46 rfl ?_
    refine gx_aload_n dX12_strengthOf_47 rfl ?_
    refine gx_getI fl_X12_114 sh74 rfl dX12_strengthOf_48 ?_
    refine gx_imul dX12_strengthOf_51 ?_
    refine gx_isub dX12_strengthOf_52 ?_
    refine gx_cS_it (av := [.inl 0, .inl (99 - ((((M 75 30) - (M 79 (Int32.toNatClampNeg v1))) - v2) * (M 74 9)))]) (st := []) ml_X12_283 (by omega) (c_X12_max (d - 1) (by omega) 0 (99 - ((((M 75 30) - (M 79 (Int32.toNatClampNeg v1))) - v2) * (M 74 9))) M) rfl rfl (Nat.le_of_ble_eq_true rfl) dX12_strengthOf_53 ?_
    exact gx_iret rfl rfl dX12_strengthOf_56
  refine gx_iconst (x := 0) (by decide) dX12_strengthOf_41 ?_
  exact gx_iret rfl rfl dX12_strengthOf_42
theorem c_X12_strengthOf (d : Nat) (hd : 1 ≤ d) (v1 : Int32) (v2 : Int32) (M : HMem) : MX iX12_strengthOf d [.inr (some 74), .inl v1, .inl v2] M (eP M) (f_X12_strengthOf v1 v2 M) := mx_of (by decide +kernel) (Nat.le_of_ble_eq_true rfl) rfl (w_X12_strengthOf d hd v1 v2 M)
-- X12_houndsAt
def f_X12_houndsAt_L4 (n : Nat) (v1 : Int32) (M : HMem) : Nat → Int32 → Int32 → Option Int32
  | 0, _, _ => none
  | k + 1, v2, v3 =>
    if 6 ≤ v3 then
      (some v2)
    else
      (hb1 (f_X12_isHound v3 M) (fun x101 =>
      if x101 = 0 then
        (f_X12_houndsAt_L4 n v1 M k v2 (v3 + 1))
      else
        (if hib (6 + v3) 32 then
        if (M 75 (Int32.toNatClampNeg (6 + v3))) = v1 then
          (f_X12_houndsAt_L4 n v1 M k (v2 + 1) (v3 + 1))
        else
          (f_X12_houndsAt_L4 n v1 M k v2 (v3 + 1))
        else none)))
set_option maxRecDepth 20000 in
theorem w_X12_houndsAt_L4 (d : Nat) (hd : 2 ≤ d) (n : Nat) (M : HMem) (v1 : Int32) : ∀ (k : Nat) (v2 : Int32) (v3 : Int32), GX iX12_houndsAt d (eP M) (f_X12_houndsAt_L4 n v1 M k v2 v3) 4 [some (.inr (some 74)), some (.inl v1), some (.inl v2), some (.inl v3)] [] M := by
  intro k
  induction k with
  | zero => intro v2 v3; exact gx_none
  | succ k ih =>
    intro v2 v3
    rw [f_X12_houndsAt_L4]
    refine gx_iload_n dX12_houndsAt_4 rfl ?_
    refine gx_bipush (x := 6) (by decide) dX12_houndsAt_5 ?_
    refine gx_icmp_ge (tgt := 41) dX12_houndsAt_7 (by decide) ?_ ?_
    · refine gx_iload_n dX12_houndsAt_41 rfl ?_
      exact gx_iret rfl rfl dX12_houndsAt_42
    refine gx_aload_n dX12_houndsAt_10 rfl ?_
    refine gx_iload_n dX12_houndsAt_11 rfl ?_
    refine gx_cV_ip (av := [.inl v3]) (st := []) ml_X12_286 (by omega) sh74 (c_X12_isHound (d - 1) (by omega) v3 M) rfl rfl (Nat.le_of_ble_eq_true rfl) dX12_houndsAt_12 (fun x101 => ?_)
    refine gx_if_eq (tgt := 35) dX12_houndsAt_15 (by decide) ?_ ?_
    · refine gx_iinc (y := v3 + 1) (lv' := [some (.inr (some 74)), some (.inl v1), some (.inl v2), some (.inl (v3 + 1))]) dX12_houndsAt_35 rfl rfl (by decide) rfl ?_
      refine gx_goto (tgt := 4) dX12_houndsAt_38 (by decide) ?_
      refine gx_mk (lv' := [some (.inr (some 74)), some (.inl v1), some (.inl v2), some (.inl (v3 + 1))]) [true, true, true, true] rfl ?_
      exact ih v2 (v3 + 1)
    refine gx_aload_n dX12_houndsAt_18 rfl ?_
    refine gx_getR fl_X12_7 sh74 rfl dX12_houndsAt_19 ?_
    refine gx_bipush (x := 6) (by decide) dX12_houndsAt_22 ?_
    refine gx_iload_n dX12_houndsAt_24 rfl ?_
    refine gx_iadd dX12_houndsAt_25 ?_
    refine gx_iaload sh75 dX12_houndsAt_26 ?_
    refine gx_iload_n dX12_houndsAt_27 rfl ?_
    refine gx_icmp_ne (tgt := 35) dX12_houndsAt_28 (by decide) ?_ ?_
    · refine gx_iinc (y := v3 + 1) (lv' := [some (.inr (some 74)), some (.inl v1), some (.inl v2), some (.inl (v3 + 1))]) dX12_houndsAt_35 rfl rfl (by decide) rfl ?_
      refine gx_goto (tgt := 4) dX12_houndsAt_38 (by decide) ?_
      refine gx_mk (lv' := [some (.inr (some 74)), some (.inl v1), some (.inl v2), some (.inl (v3 + 1))]) [true, true, true, true] rfl ?_
      exact ih v2 (v3 + 1)
    refine gx_iload_n dX12_houndsAt_31 rfl ?_
    refine gx_iconst (x := 1) (by decide) dX12_houndsAt_32 ?_
    refine gx_iadd dX12_houndsAt_33 ?_
    refine gx_istore_n (lv' := [some (.inr (some 74)), some (.inl v1), some (.inl (v2 + 1)), some (.inl v3)]) dX12_houndsAt_34 (by decide) rfl ?_
    refine gx_iinc (y := v3 + 1) (lv' := [some (.inr (some 74)), some (.inl v1), some (.inl (v2 + 1)), some (.inl (v3 + 1))]) dX12_houndsAt_35 rfl rfl (by decide) rfl ?_
    refine gx_goto (tgt := 4) dX12_houndsAt_38 (by decide) ?_
    refine gx_mk (lv' := [some (.inr (some 74)), some (.inl v1), some (.inl (v2 + 1)), some (.inl (v3 + 1))]) [true, true, true, true] rfl ?_
    exact ih (v2 + 1) (v3 + 1)
def f_X12_houndsAt (n : Nat) (v1 : Int32) (M : HMem) : Option Int32 :=
  f_X12_houndsAt_L4 n v1 M n 0 0
set_option maxRecDepth 20000 in
theorem w_X12_houndsAt (d : Nat) (hd : 2 ≤ d) (n : Nat) (v1 : Int32) (M : HMem) : GX iX12_houndsAt d (eP M) (f_X12_houndsAt n v1 M) 0 [some (.inr (some 74)), some (.inl v1), none, none] [] M := by
  rw [f_X12_houndsAt]
  refine gx_iconst (x := 0) (by decide) dX12_houndsAt_0 ?_
  refine gx_istore_n (lv' := [some (.inr (some 74)), some (.inl v1), some (.inl 0), none]) dX12_houndsAt_1 (by decide) rfl ?_
  refine gx_iconst (x := 0) (by decide) dX12_houndsAt_2 ?_
  refine gx_istore_n (lv' := [some (.inr (some 74)), some (.inl v1), some (.inl 0), some (.inl 0)]) dX12_houndsAt_3 (by decide) rfl ?_
  refine gx_mk (lv' := [some (.inr (some 74)), some (.inl v1), some (.inl 0), some (.inl 0)]) [true, true, true, true] rfl ?_
  exact w_X12_houndsAt_L4 d hd n M v1 n 0 0
theorem c_X12_houndsAt (d : Nat) (hd : 2 ≤ d) (n : Nat) (v1 : Int32) (M : HMem) : MX iX12_houndsAt d [.inr (some 74), .inl v1] M (eP M) (f_X12_houndsAt n v1 M) := mx_of (by decide +kernel) (Nat.le_of_ble_eq_true rfl) rfl (w_X12_houndsAt d hd n v1 M)
-- X12_feels
def f_X12_feels_L2 (n : Nat) (v1 : Int32) : Nat → Int32 → HMem → Option HMem
  | 0, _, _ => none
  | k + 1, v2, M =>
    if 8 ≤ v2 then
      (if hib (18 + v1) 32 then
      hb1 (some (hset (hset M 97 0 v1) 97 5 ((hset M 97 0 v1) 75 (Int32.toNatClampNeg (18 + v1))))) (fun M101 =>
      if hib (6 + v1) 32 then
      hb1 (f_X12_houndsAt n (M101 75 (Int32.toNatClampNeg (6 + v1))) M101) (fun x102 =>
      some (hset (hset M101 97 6 x102) 97 7 (((hset M101 97 6 x102) 75 30) - ((hset M101 97 6 x102) 75 30) / 100 * 100)))
      else none)
      else none)
    else
      (if hib v2 8 then
      f_X12_feels_L2 n v1 k (v2 + 1) (hset M 97 (Int32.toNatClampNeg v2) 0)
      else none)
set_option maxRecDepth 20000 in
theorem w_X12_feels_L2 (d : Nat) (hd : 3 ≤ d) (n : Nat) (v1 : Int32) : ∀ (k : Nat) (v2 : Int32) (M : HMem), GX iX12_feels d eV (f_X12_feels_L2 n v1 k v2 M) 2 [some (.inr (some 74)), some (.inl v1), some (.inl v2)] [] M := by
  intro k
  induction k with
  | zero => intro v2 M; exact gx_none
  | succ k ih =>
    intro v2 M
    rw [f_X12_feels_L2]
    refine gx_iload_n dX12_feels_2 rfl ?_
    refine gx_bipush (x := 8) (by decide) dX12_feels_3 ?_
    refine gx_icmp_ge (tgt := 21) dX12_feels_5 (by decide) ?_ ?_
    · refine gx_aload_n dX12_feels_21 rfl ?_
      refine gx_getR fl_X12_77 sh74 rfl dX12_feels_22 ?_
      refine gx_iconst (x := 0) (by decide) dX12_feels_25 ?_
      refine gx_iload_n dX12_feels_26 rfl ?_
      refine gx_iastoreL (j := 0) sh97 (by decide) (by decide) dX12_feels_27 ?_
      refine gx_aload_n dX12_feels_28 rfl ?_
      refine gx_getR fl_X12_77 sh74 rfl dX12_feels_29 ?_
      refine gx_iconst (x := 5) (by decide) dX12_feels_32 ?_
      refine gx_aload_n dX12_feels_33 rfl ?_
      refine gx_getR fl_X12_7 sh74 rfl dX12_feels_34 ?_
      refine gx_bipush (x := 18) (by decide) dX12_feels_37 ?_
      refine gx_iload_n dX12_feels_39 rfl ?_
      refine gx_iadd dX12_feels_40 ?_
      refine gx_iaload sh75 dX12_feels_41 ?_
      refine gx_iastoreL (j := 5) sh97 (by decide) (by decide) dX12_feels_42 ?_
      refine gx_aload_n dX12_feels_43 rfl ?_
      refine gx_getR fl_X12_77 sh74 rfl dX12_feels_44 ?_
      refine gx_bipush (x := 6) (by decide) dX12_feels_47 ?_
      refine gx_aload_n dX12_feels_49 rfl ?_
      refine gx_aload_n dX12_feels_50 rfl ?_
      refine gx_getR fl_X12_7 sh74 rfl dX12_feels_51 ?_
      refine gx_bipush (x := 6) (by decide) dX12_feels_54 ?_
      refine gx_iload_n dX12_feels_56 rfl ?_
      refine gx_iadd dX12_feels_57 ?_
      refine gx_nm (fun M101 => ?_)
      refine gx_iaload sh75 dX12_feels_58 ?_
      refine gx_cV_ip (av := [.inl (M101 75 (Int32.toNatClampNeg (6 + v1)))]) (st := [.inl 6, .inr (some 97)]) ml_X12_289 (by omega) sh74 (c_X12_houndsAt (d - 1) (by omega) n (M101 75 (Int32.toNatClampNeg (6 + v1))) M101) rfl rfl (Nat.le_of_ble_eq_true rfl) dX12_feels_59 (fun x102 => ?_)
      refine gx_iastoreL (j := 6) sh97 (by decide) (by decide) dX12_feels_62 ?_
      refine gx_aload_n dX12_feels_63 rfl ?_
      refine gx_getR fl_X12_77 sh74 rfl dX12_feels_64 ?_
      refine gx_bipush (x := 7) (by decide) dX12_feels_67 ?_
      refine gx_aload_n dX12_feels_69 rfl ?_
      refine gx_getR fl_X12_7 sh74 rfl dX12_feels_70 ?_
      refine gx_bipush (x := 30) (by decide) dX12_feels_73 ?_
      refine gx_ialoadL (j := 30) sh75 (by decide) (by decide) dX12_feels_75 ?_
      refine gx_bipush (x := 100) (by decide) dX12_feels_76 ?_
      refine gx_iremL (by decide) dX12_feels_78 ?_
      refine gx_iastoreL (j := 7) sh97 (by decide) (by decide) dX12_feels_79 ?_
      exact gx_vret rfl rfl dX12_feels_80
    refine gx_aload_n dX12_feels_8 rfl ?_
    refine gx_getR fl_X12_77 sh74 rfl dX12_feels_9 ?_
    refine gx_iload_n dX12_feels_12 rfl ?_
    refine gx_iconst (x := 0) (by decide) dX12_feels_13 ?_
    refine gx_iastore sh97 dX12_feels_14 ?_
    refine gx_iinc (y := v2 + 1) (lv' := [some (.inr (some 74)), some (.inl v1), some (.inl (v2 + 1))]) dX12_feels_15 rfl rfl (by decide) rfl ?_
    refine gx_goto (tgt := 2) dX12_feels_18 (by decide) ?_
    refine gx_mk (lv' := [some (.inr (some 74)), some (.inl v1), some (.inl (v2 + 1))]) [true, true, true] rfl ?_
    exact ih (v2 + 1) (hset M 97 (Int32.toNatClampNeg v2) 0)
def f_X12_feels (n : Nat) (v1 : Int32) (M : HMem) : Option HMem :=
  f_X12_feels_L2 n v1 n 0 M
set_option maxRecDepth 20000 in
theorem w_X12_feels (d : Nat) (hd : 3 ≤ d) (n : Nat) (v1 : Int32) (M : HMem) : GX iX12_feels d eV (f_X12_feels n v1 M) 0 [some (.inr (some 74)), some (.inl v1), none] [] M := by
  rw [f_X12_feels]
  refine gx_iconst (x := 0) (by decide) dX12_feels_0 ?_
  refine gx_istore_n (lv' := [some (.inr (some 74)), some (.inl v1), some (.inl 0)]) dX12_feels_1 (by decide) rfl ?_
  refine gx_mk (lv' := [some (.inr (some 74)), some (.inl v1), some (.inl 0)]) [true, true, true] rfl ?_
  exact w_X12_feels_L2 d hd n v1 n 0 M
theorem c_X12_feels (d : Nat) (hd : 3 ≤ d) (n : Nat) (v1 : Int32) (M : HMem) : MX iX12_feels d [.inr (some 74), .inl v1] M eV (f_X12_feels n v1 M) := mx_of (by decide +kernel) (Nat.le_of_ble_eq_true rfl) rfl (w_X12_feels d hd n v1 M)
-- X12_feelsScent
def f_X12_feelsScent (n : Nat) (v1 : Int32) (v2 : Int32) (v3 : Int32) (M : HMem) : Option HMem :=
  hb1 (f_X12_feels n v1 M) (fun M101 =>
  if hib v2 8 then
  hb1 (some (hset (hset M101 97 1 v2) 97 2 (((hset M101 97 1 v2) 75 30) - ((M101 79 (Int32.toNatClampNeg v2)) + v3)))) (fun M102 =>
  hb1 (f_X12_strengthOf v2 v3 M102) (fun x103 =>
  if hib (12 + v1) 32 then
  hb1 (some (hset (hset M102 97 3 x103) 97 4 (((hset M102 97 3 x103) 75 (Int32.toNatClampNeg (12 + v1))) - ((M101 79 (Int32.toNatClampNeg v2)) + v3)))) (fun M104 =>
  if hib ((97 * v2) + v3) 776 then
  hb1 (f_X12_houndsAt n (M104 81 (Int32.toNatClampNeg ((97 * v2) + v3))) M104) (fun x105 =>
  some (hset M104 97 6 x105))
  else none)
  else none))
  else none)
set_option maxRecDepth 20000 in
theorem w_X12_feelsScent (d : Nat) (hd : 4 ≤ d) (n : Nat) (v1 : Int32) (v2 : Int32) (v3 : Int32) (M : HMem) : GX iX12_feelsScent d eV (f_X12_feelsScent n v1 v2 v3 M) 0 [some (.inr (some 74)), some (.inl v1), some (.inl v2), some (.inl v3), none] [] M := by
  rw [f_X12_feelsScent]
  refine gx_aload_n dX12_feelsScent_0 rfl ?_
  refine gx_iload_n dX12_feelsScent_1 rfl ?_
  refine gx_cV_vm (av := [.inl v1]) (st := []) ml_X12_292 (by omega) sh74 (c_X12_feels (d - 1) (by omega) n v1 M) rfl rfl (Nat.le_of_ble_eq_true rfl) dX12_feelsScent_2 (fun M101 => ?_)
  refine gx_aload_n dX12_feelsScent_5 rfl ?_
  refine gx_getR fl_X12_22 sh74 rfl dX12_feelsScent_6 ?_
  refine gx_iload_n dX12_feelsScent_9 rfl ?_
  refine gx_iaload sh79 dX12_feelsScent_10 ?_
  refine gx_iload_n dX12_feelsScent_11 rfl ?_
  refine gx_iadd dX12_feelsScent_12 ?_
  refine gx_istore (lv' := [some (.inr (some 74)), some (.inl v1), some (.inl v2), some (.inl v3), some (.inl ((M101 79 (Int32.toNatClampNeg v2)) + v3))]) dX12_feelsScent_13 (by decide) rfl ?_
  refine gx_aload_n dX12_feelsScent_15 rfl ?_
  refine gx_getR fl_X12_77 sh74 rfl dX12_feelsScent_16 ?_
  refine gx_iconst (x := 1) (by decide) dX12_feelsScent_19 ?_
  refine gx_iload_n dX12_feelsScent_20 rfl ?_
  refine gx_iastoreL (j := 1) sh97 (by decide) (by decide) dX12_feelsScent_21 ?_
  refine gx_aload_n dX12_feelsScent_22 rfl ?_
  refine gx_getR fl_X12_77 sh74 rfl dX12_feelsScent_23 ?_
  refine gx_iconst (x := 2) (by decide) dX12_feelsScent_26 ?_
  refine gx_aload_n dX12_feelsScent_27 rfl ?_
  refine gx_getR fl_X12_7 sh74 rfl dX12_feelsScent_28 ?_
  refine gx_bipush (x := 30) (by decide) dX12_feelsScent_31 ?_
  refine gx_ialoadL (j := 30) sh75 (by decide) (by decide) dX12_feelsScent_33 ?_
  refine gx_iload dX12_feelsScent_34 rfl ?_
  refine gx_isub dX12_feelsScent_36 ?_
  refine gx_iastoreL (j := 2) sh97 (by decide) (by decide) dX12_feelsScent_37 ?_
  refine gx_aload_n dX12_feelsScent_38 rfl ?_
  refine gx_getR fl_X12_77 sh74 rfl dX12_feelsScent_39 ?_
  refine gx_iconst (x := 3) (by decide) dX12_feelsScent_42 ?_
  refine gx_aload_n dX12_feelsScent_43 rfl ?_
  refine gx_iload_n dX12_feelsScent_44 rfl ?_
  refine gx_iload_n dX12_feelsScent_45 rfl ?_
  refine gx_nm (fun M102 => ?_)
  refine gx_cV_ip (av := [.inl v2, .inl v3]) (st := [.inl 3, .inr (some 97)]) ml_X12_295 (by omega) sh74 (c_X12_strengthOf (d - 1) (by omega) v2 v3 M102) rfl rfl (Nat.le_of_ble_eq_true rfl) dX12_feelsScent_46 (fun x103 => ?_)
  refine gx_iastoreL (j := 3) sh97 (by decide) (by decide) dX12_feelsScent_49 ?_
  refine gx_aload_n dX12_feelsScent_50 rfl ?_
  refine gx_getR fl_X12_77 sh74 rfl dX12_feelsScent_51 ?_
  refine gx_iconst (x := 4) (by decide) dX12_feelsScent_54 ?_
  refine gx_aload_n dX12_feelsScent_55 rfl ?_
  refine gx_getR fl_X12_7 sh74 rfl dX12_feelsScent_56 ?_
  refine gx_bipush (x := 12) (by decide) dX12_feelsScent_59 ?_
  refine gx_iload_n dX12_feelsScent_61 rfl ?_
  refine gx_iadd dX12_feelsScent_62 ?_
  refine gx_iaload sh75 dX12_feelsScent_63 ?_
  refine gx_iload dX12_feelsScent_64 rfl ?_
  refine gx_isub dX12_feelsScent_66 ?_
  refine gx_iastoreL (j := 4) sh97 (by decide) (by decide) dX12_feelsScent_67 ?_
  refine gx_aload_n dX12_feelsScent_68 rfl ?_
  refine gx_getR fl_X12_77 sh74 rfl dX12_feelsScent_69 ?_
  refine gx_bipush (x := 6) (by decide) dX12_feelsScent_72 ?_
  refine gx_aload_n dX12_feelsScent_74 rfl ?_
  refine gx_aload_n dX12_feelsScent_75 rfl ?_
  refine gx_getR fl_X12_28 sh74 rfl dX12_feelsScent_76 ?_
  refine gx_bipush (x := 97) (by decide) dX12_feelsScent_79 ?_
  refine gx_iload_n dX12_feelsScent_81 rfl ?_
  refine gx_imul dX12_feelsScent_82 ?_
  refine gx_iload_n dX12_feelsScent_83 rfl ?_
  refine gx_iadd dX12_feelsScent_84 ?_
  refine gx_nm (fun M104 => ?_)
  refine gx_iaload sh81 dX12_feelsScent_85 ?_
  refine gx_cV_ip (av := [.inl (M104 81 (Int32.toNatClampNeg ((97 * v2) + v3)))]) (st := [.inl 6, .inr (some 97)]) ml_X12_289 (by omega) sh74 (c_X12_houndsAt (d - 1) (by omega) n (M104 81 (Int32.toNatClampNeg ((97 * v2) + v3))) M104) rfl rfl (Nat.le_of_ble_eq_true rfl) dX12_feelsScent_86 (fun x105 => ?_)
  refine gx_iastoreL (j := 6) sh97 (by decide) (by decide) dX12_feelsScent_89 ?_
  exact gx_vret rfl rfl dX12_feelsScent_90
theorem c_X12_feelsScent (d : Nat) (hd : 4 ≤ d) (n : Nat) (v1 : Int32) (v2 : Int32) (v3 : Int32) (M : HMem) : MX iX12_feelsScent d [.inr (some 74), .inl v1, .inl v2, .inl v3] M eV (f_X12_feelsScent n v1 v2 v3 M) := mx_of (by decide +kernel) (Nat.le_of_ble_eq_true rfl) rfl (w_X12_feelsScent d hd n v1 v2 v3 M)
-- X12_isBetter
def f_X12_isBetter (v1 : Int32) (v2 : Int32) (v3 : Int32) (M : HMem) : Int32 :=
  if v1 = (M 74 46) then
    (if v1 = 0 then
      (0)
    else
      (if (M 74 47) < v2 then
        (1)
      else
        (if v2 = (M 74 47) then
          (if (M 74 48) ≤ v3 then
            (0)
          else
            (1))
        else
          (0))))
  else
    (if v1 ≤ (M 74 46) then
      (0)
    else
      (1))
set_option maxRecDepth 20000 in
theorem w_X12_isBetter (d : Nat) (hd : 0 ≤ d) (v1 : Int32) (v2 : Int32) (v3 : Int32) (M : HMem) : GX iX12_isBetter d (eP M) (some (f_X12_isBetter v1 v2 v3 M)) 0 [some (.inr (some 74)), some (.inl v1), some (.inl v2), some (.inl v3)] [] M := by
  rw [f_X12_isBetter]
  refine gx_iload_n dX12_isBetter_0 rfl ?_
  refine gx_aload_n dX12_isBetter_1 rfl ?_
  refine gx_getI fl_X12_298 sh74 rfl dX12_isBetter_2 ?_
  refine gxt_icmp_eq (tgt := 22) dX12_isBetter_5 (by decide) ?_ ?_
  · refine gx_iload_n dX12_isBetter_22 rfl ?_
    refine gxt_if_ne (tgt := 28) dX12_isBetter_23 (by decide) ?_ ?_
    · refine gx_iload_n dX12_isBetter_28 rfl ?_
      refine gx_aload_n dX12_isBetter_29 rfl ?_
      refine gx_getI fl_X12_301 sh74 rfl dX12_isBetter_30 ?_
      refine gxt_icmp_gt (tgt := 52) dX12_isBetter_33 (by decide) ?_ ?_
      · refine gx_iconst (x := 1) (by decide) dX12_isBetter_52 ?_
        refine gx_goto (tgt := 57) dX12_isBetter_53 (by decide) ?_
        exact gx_zret rfl (by decide) rfl dX12_isBetter_57
      refine gx_iload_n dX12_isBetter_36 rfl ?_
      refine gx_aload_n dX12_isBetter_37 rfl ?_
      refine gx_getI fl_X12_301 sh74 rfl dX12_isBetter_38 ?_
      refine gxt_icmp_ne (tgt := 56) dX12_isBetter_41 (by decide) ?_ ?_
      · refine gx_iconst (x := 0) (by decide) dX12_isBetter_56 ?_
        exact gx_zret rfl (by decide) rfl dX12_isBetter_57
      refine gx_iload_n dX12_isBetter_44 rfl ?_
      refine gx_aload_n dX12_isBetter_45 rfl ?_
      refine gx_getI fl_X12_304 sh74 rfl dX12_isBetter_46 ?_
      refine gxt_icmp_ge (tgt := 56) dX12_isBetter_49 (by decide) ?_ ?_
      · refine gx_iconst (x := 0) (by decide) dX12_isBetter_56 ?_
        exact gx_zret rfl (by decide) rfl dX12_isBetter_57
      refine gx_iconst (x := 1) (by decide) dX12_isBetter_52 ?_
      refine gx_goto (tgt := 57) dX12_isBetter_53 (by decide) ?_
      exact gx_zret rfl (by decide) rfl dX12_isBetter_57
    refine gx_iconst (x := 0) (by decide) dX12_isBetter_26 ?_
    exact gx_zret rfl (by decide) rfl dX12_isBetter_27
  refine gx_iload_n dX12_isBetter_8 rfl ?_
  refine gx_aload_n dX12_isBetter_9 rfl ?_
  refine gx_getI fl_X12_298 sh74 rfl dX12_isBetter_10 ?_
  refine gxt_icmp_le (tgt := 20) dX12_isBetter_13 (by decide) ?_ ?_
  · refine gx_iconst (x := 0) (by decide) dX12_isBetter_20 ?_
    exact gx_zret rfl (by decide) rfl dX12_isBetter_21
  refine gx_iconst (x := 1) (by decide) dX12_isBetter_16 ?_
  refine gx_goto (tgt := 21) dX12_isBetter_17 (by decide) ?_
  exact gx_zret rfl (by decide) rfl dX12_isBetter_21
theorem c_X12_isBetter (d : Nat) (hd : 0 ≤ d) (v1 : Int32) (v2 : Int32) (v3 : Int32) (M : HMem) : MX iX12_isBetter d [.inr (some 74), .inl v1, .inl v2, .inl v3] M (eP M) (some (f_X12_isBetter v1 v2 v3 M)) := mx_of (by decide +kernel) (Nat.le_of_ble_eq_true rfl) rfl (w_X12_isBetter d hd v1 v2 v3 M)
-- X12_asksScents
def f_X12_asksScents_L3 (n : Nat) (v1 : Int32) (v2 : Int32) (v3 : Int32) (v4 : Int32) : Nat → Int32 → HMem → Option HMem
  | 0, _, _ => none
  | k + 1, v5, M =>
    if hib v2 8 then
    if (M 78 (Int32.toNatClampNeg v2)) < v5 then
      (some M)
    else
      (if hib v2 8 then
      if hib ((97 * v2) + v5) 776 then
      if (M 81 (Int32.toNatClampNeg ((97 * v2) + v5))) = v3 then
        (if hib (12 + v1) 32 then
        if (M 75 (Int32.toNatClampNeg (12 + v1))) ≤ ((M 79 (Int32.toNatClampNeg v2)) + v5) then
          (f_X12_asksScents_L3 n v1 v2 v3 v4 k (v5 + 1) M)
        else
          (hb1 (f_X12_strengthOf v2 v5 M) (fun x101 =>
          if x101 = 0 then
            (f_X12_asksScents_L3 n v1 v2 v3 v4 k (v5 + 1) M)
          else
            (hb1 (f_X12_feelsScent n v1 v2 v5 M) (fun M102 =>
            hb2 (f_X12_byLaw n 101 9999 M102) (fun x103 M104 =>
            if (f_X12_isBetter x103 ((M 79 (Int32.toNatClampNeg v2)) + v5) v4 M104) = 0 then
              (f_X12_asksScents_L3 n v1 v2 v3 v4 k (v5 + 1) M104)
            else
              (f_X12_asksScents_L3 n v1 v2 v3 v4 k (v5 + 1) (hset (hset (hset (hset M104 74 46 x103) 74 47 ((M 79 (Int32.toNatClampNeg v2)) + v5)) 74 48 v4) 74 49 v2)))))))
        else none)
      else
        (f_X12_asksScents_L3 n v1 v2 v3 v4 k (v5 + 1) M)
      else none
      else none)
    else none
set_option maxRecDepth 20000 in
theorem w_X12_asksScents_L3 (d : Nat) (hd : 5 ≤ d) (n : Nat) (v1 : Int32) (v2 : Int32) (v3 : Int32) (v4 : Int32) : ∀ (k : Nat) (v5 : Int32) (M : HMem), GX iX12_asksScents d eV (f_X12_asksScents_L3 n v1 v2 v3 v4 k v5 M) 3 [some (.inr (some 74)), some (.inl v1), some (.inl v2), some (.inl v3), some (.inl v4), some (.inl v5), none, none] [] M := by
  intro k
  induction k with
  | zero => intro v5 M; exact gx_none
  | succ k ih =>
    intro v5 M
    rw [f_X12_asksScents_L3]
    refine gx_iload dX12_asksScents_3 rfl ?_
    refine gx_aload_n dX12_asksScents_5 rfl ?_
    refine gx_getR fl_X12_19 sh74 rfl dX12_asksScents_6 ?_
    refine gx_iload_n dX12_asksScents_9 rfl ?_
    refine gx_iaload sh78 dX12_asksScents_10 ?_
    refine gx_icmp_gt (tgt := 132) dX12_asksScents_11 (by decide) ?_ ?_
    · exact gx_vret rfl rfl dX12_asksScents_132
    refine gx_aload_n dX12_asksScents_14 rfl ?_
    refine gx_getR fl_X12_22 sh74 rfl dX12_asksScents_15 ?_
    refine gx_iload_n dX12_asksScents_18 rfl ?_
    refine gx_iaload sh79 dX12_asksScents_19 ?_
    refine gx_iload dX12_asksScents_20 rfl ?_
    refine gx_iadd dX12_asksScents_22 ?_
    refine gx_istore (lv' := [some (.inr (some 74)), some (.inl v1), some (.inl v2), some (.inl v3), some (.inl v4), some (.inl v5), some (.inl ((M 79 (Int32.toNatClampNeg v2)) + v5)), none]) dX12_asksScents_23 (by decide) rfl ?_
    refine gx_aload_n dX12_asksScents_25 rfl ?_
    refine gx_getR fl_X12_28 sh74 rfl dX12_asksScents_26 ?_
    refine gx_bipush (x := 97) (by decide) dX12_asksScents_29 ?_
    refine gx_iload_n dX12_asksScents_31 rfl ?_
    refine gx_imul dX12_asksScents_32 ?_
    refine gx_iload dX12_asksScents_33 rfl ?_
    refine gx_iadd dX12_asksScents_35 ?_
    refine gx_iaload sh81 dX12_asksScents_36 ?_
    refine gx_iload_n dX12_asksScents_37 rfl ?_
    refine gx_icmp_ne (tgt := 126) dX12_asksScents_38 (by decide) ?_ ?_
    · refine gx_iinc (y := v5 + 1) (lv' := [some (.inr (some 74)), some (.inl v1), some (.inl v2), some (.inl v3), some (.inl v4), some (.inl (v5 + 1)), some (.inl ((M 79 (Int32.toNatClampNeg v2)) + v5)), none]) dX12_asksScents_126 rfl rfl (by decide) rfl ?_
      refine gx_goto (tgt := 3) dX12_asksScents_129 (by decide) ?_
      refine gx_mk (lv' := [some (.inr (some 74)), some (.inl v1), some (.inl v2), some (.inl v3), some (.inl v4), some (.inl (v5 + 1)), none, none]) [true, true, true, true, true, true, false, false] rfl ?_
      exact ih (v5 + 1) M
    refine gx_iload dX12_asksScents_41 rfl ?_
    refine gx_aload_n dX12_asksScents_43 rfl ?_
    refine gx_getR fl_X12_7 sh74 rfl dX12_asksScents_44 ?_
    refine gx_bipush (x := 12) (by decide) dX12_asksScents_47 ?_
    refine gx_iload_n dX12_asksScents_49 rfl ?_
    refine gx_iadd dX12_asksScents_50 ?_
    refine gx_iaload sh75 dX12_asksScents_51 ?_
    refine gx_icmp_ge (tgt := 126) dX12_asksScents_52 (by decide) ?_ ?_
    · refine gx_iinc (y := v5 + 1) (lv' := [some (.inr (some 74)), some (.inl v1), some (.inl v2), some (.inl v3), some (.inl v4), some (.inl (v5 + 1)), some (.inl ((M 79 (Int32.toNatClampNeg v2)) + v5)), none]) dX12_asksScents_126 rfl rfl (by decide) rfl ?_
      refine gx_goto (tgt := 3) dX12_asksScents_129 (by decide) ?_
      refine gx_mk (lv' := [some (.inr (some 74)), some (.inl v1), some (.inl v2), some (.inl v3), some (.inl v4), some (.inl (v5 + 1)), none, none]) [true, true, true, true, true, true, false, false] rfl ?_
      exact ih (v5 + 1) M
    refine gx_aload_n dX12_asksScents_55 rfl ?_
    refine gx_iload_n dX12_asksScents_56 rfl ?_
    refine gx_iload dX12_asksScents_57 rfl ?_
    refine gx_cV_ip (av := [.inl v2, .inl v5]) (st := []) ml_X12_295 (by omega) sh74 (c_X12_strengthOf (d - 1) (by omega) v2 v5 M) rfl rfl (Nat.le_of_ble_eq_true rfl) dX12_asksScents_59 (fun x101 => ?_)
    refine gx_if_ne (tgt := 68) dX12_asksScents_62 (by decide) ?_ ?_
    · refine gx_aload_n dX12_asksScents_68 rfl ?_
      refine gx_iload_n dX12_asksScents_69 rfl ?_
      refine gx_iload_n dX12_asksScents_70 rfl ?_
      refine gx_iload dX12_asksScents_71 rfl ?_
      refine gx_cV_vm (av := [.inl v1, .inl v2, .inl v5]) (st := []) ml_X12_307 (by omega) sh74 (c_X12_feelsScent (d - 1) (by omega) n v1 v2 v5 M) rfl rfl (Nat.le_of_ble_eq_true rfl) dX12_asksScents_73 (fun M102 => ?_)
      refine gx_aload_n dX12_asksScents_76 rfl ?_
      refine gx_bipush (x := 101) (by decide) dX12_asksScents_77 ?_
      refine gx_sipush (x := 9999) (by decide) dX12_asksScents_79 ?_
      refine gx_cV_im (av := [.inl 101, .inl 9999]) (st := []) ml_X12_311 (by omega) sh74 (c_X12_byLaw (d - 1) (by omega) n 101 9999 M102) rfl rfl (Nat.le_of_ble_eq_true rfl) dX12_asksScents_82 (fun x103 M104 => ?_)
      refine gx_istore (lv' := [some (.inr (some 74)), some (.inl v1), some (.inl v2), some (.inl v3), some (.inl v4), some (.inl v5), some (.inl ((M 79 (Int32.toNatClampNeg v2)) + v5)), some (.inl x103)]) dX12_asksScents_85 (by decide) rfl ?_
      refine gx_aload_n dX12_asksScents_87 rfl ?_
      refine gx_iload dX12_asksScents_88 rfl ?_
      refine gx_iload dX12_asksScents_90 rfl ?_
      refine gx_iload dX12_asksScents_92 rfl ?_
      refine gx_cV_it (av := [.inl x103, .inl ((M 79 (Int32.toNatClampNeg v2)) + v5), .inl v4]) (st := []) ml_X12_314 (by omega) sh74 (c_X12_isBetter (d - 1) (by omega) x103 ((M 79 (Int32.toNatClampNeg v2)) + v5) v4 M104) rfl rfl (Nat.le_of_ble_eq_true rfl) dX12_asksScents_94 ?_
      refine gx_if_ne (tgt := 103) dX12_asksScents_97 (by decide) ?_ ?_
      · refine gx_aload_n dX12_asksScents_103 rfl ?_
        refine gx_iload dX12_asksScents_104 rfl ?_
        refine gx_putI fl_X12_298 fp_X12_46 sh74 rfl dX12_asksScents_106 ?_
        refine gx_aload_n dX12_asksScents_109 rfl ?_
        refine gx_iload dX12_asksScents_110 rfl ?_
        refine gx_putI fl_X12_301 fp_X12_47 sh74 rfl dX12_asksScents_112 ?_
        refine gx_aload_n dX12_asksScents_115 rfl ?_
        refine gx_iload dX12_asksScents_116 rfl ?_
        refine gx_putI fl_X12_304 fp_X12_48 sh74 rfl dX12_asksScents_118 ?_
        refine gx_aload_n dX12_asksScents_121 rfl ?_
        refine gx_iload_n dX12_asksScents_122 rfl ?_
        refine gx_putI fl_X12_317 fp_X12_49 sh74 rfl dX12_asksScents_123 ?_
        refine gx_iinc (y := v5 + 1) (lv' := [some (.inr (some 74)), some (.inl v1), some (.inl v2), some (.inl v3), some (.inl v4), some (.inl (v5 + 1)), some (.inl ((M 79 (Int32.toNatClampNeg v2)) + v5)), some (.inl x103)]) dX12_asksScents_126 rfl rfl (by decide) rfl ?_
        refine gx_goto (tgt := 3) dX12_asksScents_129 (by decide) ?_
        refine gx_mk (lv' := [some (.inr (some 74)), some (.inl v1), some (.inl v2), some (.inl v3), some (.inl v4), some (.inl (v5 + 1)), none, none]) [true, true, true, true, true, true, false, false] rfl ?_
        exact ih (v5 + 1) (hset (hset (hset (hset M104 74 46 x103) 74 47 ((M 79 (Int32.toNatClampNeg v2)) + v5)) 74 48 v4) 74 49 v2)
      refine gx_goto (tgt := 126) dX12_asksScents_100 (by decide) ?_
      refine gx_iinc (y := v5 + 1) (lv' := [some (.inr (some 74)), some (.inl v1), some (.inl v2), some (.inl v3), some (.inl v4), some (.inl (v5 + 1)), some (.inl ((M 79 (Int32.toNatClampNeg v2)) + v5)), some (.inl x103)]) dX12_asksScents_126 rfl rfl (by decide) rfl ?_
      refine gx_goto (tgt := 3) dX12_asksScents_129 (by decide) ?_
      refine gx_mk (lv' := [some (.inr (some 74)), some (.inl v1), some (.inl v2), some (.inl v3), some (.inl v4), some (.inl (v5 + 1)), none, none]) [true, true, true, true, true, true, false, false] rfl ?_
      exact ih (v5 + 1) M104
    refine gx_goto (tgt := 126) dX12_asksScents_65 (by decide) ?_
    refine gx_iinc (y := v5 + 1) (lv' := [some (.inr (some 74)), some (.inl v1), some (.inl v2), some (.inl v3), some (.inl v4), some (.inl (v5 + 1)), some (.inl ((M 79 (Int32.toNatClampNeg v2)) + v5)), none]) dX12_asksScents_126 rfl rfl (by decide) rfl ?_
    refine gx_goto (tgt := 3) dX12_asksScents_129 (by decide) ?_
    refine gx_mk (lv' := [some (.inr (some 74)), some (.inl v1), some (.inl v2), some (.inl v3), some (.inl v4), some (.inl (v5 + 1)), none, none]) [true, true, true, true, true, true, false, false] rfl ?_
    exact ih (v5 + 1) M
def f_X12_asksScents (n : Nat) (v1 : Int32) (v2 : Int32) (v3 : Int32) (v4 : Int32) (M : HMem) : Option HMem :=
  f_X12_asksScents_L3 n v1 v2 v3 v4 n 0 M
set_option maxRecDepth 20000 in
theorem w_X12_asksScents (d : Nat) (hd : 5 ≤ d) (n : Nat) (v1 : Int32) (v2 : Int32) (v3 : Int32) (v4 : Int32) (M : HMem) : GX iX12_asksScents d eV (f_X12_asksScents n v1 v2 v3 v4 M) 0 [some (.inr (some 74)), some (.inl v1), some (.inl v2), some (.inl v3), some (.inl v4), none, none, none] [] M := by
  rw [f_X12_asksScents]
  refine gx_iconst (x := 0) (by decide) dX12_asksScents_0 ?_
  refine gx_istore (lv' := [some (.inr (some 74)), some (.inl v1), some (.inl v2), some (.inl v3), some (.inl v4), some (.inl 0), none, none]) dX12_asksScents_1 (by decide) rfl ?_
  refine gx_mk (lv' := [some (.inr (some 74)), some (.inl v1), some (.inl v2), some (.inl v3), some (.inl v4), some (.inl 0), none, none]) [true, true, true, true, true, true, false, false] rfl ?_
  exact w_X12_asksScents_L3 d hd n v1 v2 v3 v4 n 0 M
theorem c_X12_asksScents (d : Nat) (hd : 5 ≤ d) (n : Nat) (v1 : Int32) (v2 : Int32) (v3 : Int32) (v4 : Int32) (M : HMem) : MX iX12_asksScents d [.inr (some 74), .inl v1, .inl v2, .inl v3, .inl v4] M eV (f_X12_asksScents n v1 v2 v3 v4 M) := mx_of (by decide +kernel) (Nat.le_of_ble_eq_true rfl) rfl (w_X12_asksScents d hd n v1 v2 v3 v4 M)
-- X12_isAtFault
def f_X12_isAtFault (v1 : Int32) (M : HMem) : Option HMem :=
  if hib (18 + v1) 32 then
  if hib (18 + v1) 32 then
  hb1 (some (hset M 75 (Int32.toNatClampNeg (18 + v1)) ((M 75 (Int32.toNatClampNeg (18 + v1))) + 1))) (fun M101 =>
  if hib (18 + v1) 32 then
  if (M101 75 (Int32.toNatClampNeg (18 + v1))) < 9 then
    (some M101)
  else
    (if hib (24 + v1) 32 then
    some (hset M101 75 (Int32.toNatClampNeg (24 + v1)) 2)
    else none)
  else none)
  else none
  else none
set_option maxRecDepth 20000 in
theorem w_X12_isAtFault (d : Nat) (hd : 0 ≤ d) (v1 : Int32) (M : HMem) : GX iX12_isAtFault d eV (f_X12_isAtFault v1 M) 0 [some (.inr (some 74)), some (.inl v1)] [] M := by
  rw [f_X12_isAtFault]
  refine gx_aload_n dX12_isAtFault_0 rfl ?_
  refine gx_getR fl_X12_7 sh74 rfl dX12_isAtFault_1 ?_
  refine gx_bipush (x := 18) (by decide) dX12_isAtFault_4 ?_
  refine gx_iload_n dX12_isAtFault_6 rfl ?_
  refine gx_iadd dX12_isAtFault_7 ?_
  refine gx_aload_n dX12_isAtFault_8 rfl ?_
  refine gx_getR fl_X12_7 sh74 rfl dX12_isAtFault_9 ?_
  refine gx_bipush (x := 18) (by decide) dX12_isAtFault_12 ?_
  refine gx_iload_n dX12_isAtFault_14 rfl ?_
  refine gx_iadd dX12_isAtFault_15 ?_
  refine gx_iaload sh75 dX12_isAtFault_16 ?_
  refine gx_iconst (x := 1) (by decide) dX12_isAtFault_17 ?_
  refine gx_iadd dX12_isAtFault_18 ?_
  refine gx_iastore sh75 dX12_isAtFault_19 ?_
  refine gx_aload_n dX12_isAtFault_20 rfl ?_
  refine gx_getR fl_X12_7 sh74 rfl dX12_isAtFault_21 ?_
  refine gx_bipush (x := 18) (by decide) dX12_isAtFault_24 ?_
  refine gx_iload_n dX12_isAtFault_26 rfl ?_
  refine gx_iadd dX12_isAtFault_27 ?_
  refine gx_nm (fun M101 => ?_)
  refine gx_iaload sh75 dX12_isAtFault_28 ?_
  refine gx_bipush (x := 9) (by decide) dX12_isAtFault_29 ?_
  refine gx_icmp_lt (tgt := 44) dX12_isAtFault_31 (by decide) ?_ ?_
  · exact gx_vret rfl rfl dX12_isAtFault_44
  refine gx_aload_n dX12_isAtFault_34 rfl ?_
  refine gx_getR fl_X12_7 sh74 rfl dX12_isAtFault_35 ?_
  refine gx_bipush (x := 24) (by decide) dX12_isAtFault_38 ?_
  refine gx_iload_n dX12_isAtFault_40 rfl ?_
  refine gx_iadd dX12_isAtFault_41 ?_
  refine gx_iconst (x := 2) (by decide) dX12_isAtFault_42 ?_
  refine gx_iastore sh75 dX12_isAtFault_43 ?_
  exact gx_vret rfl rfl dX12_isAtFault_44
theorem c_X12_isAtFault (d : Nat) (hd : 0 ≤ d) (v1 : Int32) (M : HMem) : MX iX12_isAtFault d [.inr (some 74), .inl v1] M eV (f_X12_isAtFault v1 M) := mx_of (by decide +kernel) (Nat.le_of_ble_eq_true rfl) rfl (w_X12_isAtFault d hd v1 M)
-- X12_turnOf
def f_X12_turnOf_J216 (n : Nat) (v1 : Int32) (s0 : Int32) (s1 : Int32) (M : HMem) : Option HMem :=
  if hib s1 32 then
  if hib (12 + v1) 32 then
  hb1 (some (hset (hset M 75 (Int32.toNatClampNeg s1) s0) 75 (Int32.toNatClampNeg (12 + v1)) ((hset M 75 (Int32.toNatClampNeg s1) s0) 74 47))) (fun M101 =>
  if hib (M101 74 49) 8 then
  if (M101 74 47) = (M101 79 (Int32.toNatClampNeg (M101 74 49))) then
    (if hib (24 + v1) 32 then
    some (hset M101 75 (Int32.toNatClampNeg (24 + v1)) 1)
    else none)
  else
    (some M101)
  else none)
  else none
  else none
set_option maxRecDepth 20000 in
theorem w_X12_turnOf_J216 (d : Nat) (hd : 6 ≤ d) (n : Nat) (M : HMem) (v1 : Int32) (s0 : Int32) (s1 : Int32) : GX iX12_turnOf d eV (f_X12_turnOf_J216 n v1 s0 s1 M) 216 [some (.inr (some 74)), some (.inl v1), none, none, none, none] [.inl s0, .inl s1, .inr (some 75)] M := by
  rw [f_X12_turnOf_J216]
  refine gx_iastore sh75 dX12_turnOf_216 ?_
  refine gx_aload_n dX12_turnOf_217 rfl ?_
  refine gx_getR fl_X12_7 sh74 rfl dX12_turnOf_218 ?_
  refine gx_bipush (x := 12) (by decide) dX12_turnOf_221 ?_
  refine gx_iload_n dX12_turnOf_223 rfl ?_
  refine gx_iadd dX12_turnOf_224 ?_
  refine gx_aload_n dX12_turnOf_225 rfl ?_
  refine gx_getI fl_X12_301 sh74 rfl dX12_turnOf_226 ?_
  refine gx_iastore sh75 dX12_turnOf_229 ?_
  refine gx_aload_n dX12_turnOf_230 rfl ?_
  refine gx_nm (fun M101 => ?_)
  refine gx_getI fl_X12_301 sh74 rfl dX12_turnOf_231 ?_
  refine gx_aload_n dX12_turnOf_234 rfl ?_
  refine gx_getR fl_X12_22 sh74 rfl dX12_turnOf_235 ?_
  refine gx_aload_n dX12_turnOf_238 rfl ?_
  refine gx_getI fl_X12_317 sh74 rfl dX12_turnOf_239 ?_
  refine gx_iaload sh79 dX12_turnOf_242 ?_
  refine gx_icmp_ne (tgt := 256) dX12_turnOf_243 (by decide) ?_ ?_
  · exact gx_vret rfl rfl dX12_turnOf_256
  refine gx_aload_n dX12_turnOf_246 rfl ?_
  refine gx_getR fl_X12_7 sh74 rfl dX12_turnOf_247 ?_
  refine gx_bipush (x := 24) (by decide) dX12_turnOf_250 ?_
  refine gx_iload_n dX12_turnOf_252 rfl ?_
  refine gx_iadd dX12_turnOf_253 ?_
  refine gx_iconst (x := 1) (by decide) dX12_turnOf_254 ?_
  refine gx_iastore sh75 dX12_turnOf_255 ?_
  exact gx_vret rfl rfl dX12_turnOf_256
def f_X12_turnOf_L129 (n : Nat) (r98 : Int32 → HMem → Option HMem) (v1 : Int32) (v3 : Int32) (v4 : Int32) : Nat → Int32 → HMem → Option HMem
  | 0, _, _ => none
  | k + 1, v5, M =>
    if 4 ≤ v5 then
      (r98 (v4 + 1) M)
    else
      (if (f_X12_beside v3 v5) = v3 then
        (f_X12_turnOf_L129 n r98 v1 v3 v4 k (v5 + 1) M)
      else
        (hb1 (f_X12_asksScents n v1 v4 (f_X12_beside v3 v5) (v5 + 1) M) (fun M101 =>
        f_X12_turnOf_L129 n r98 v1 v3 v4 k (v5 + 1) M101)))
set_option maxRecDepth 20000 in
theorem w_X12_turnOf_L129 (d : Nat) (hd : 6 ≤ d) (n : Nat) (r98 : Int32 → HMem → Option HMem) (v1 : Int32) (v3 : Int32) (v4 : Int32) (hr98 : ∀ (v4 : Int32) (M : HMem), GX iX12_turnOf d eV (r98 v4 M) 98 [some (.inr (some 74)), some (.inl v1), none, some (.inl v3), some (.inl v4), none] [] M) : ∀ (k : Nat) (v5 : Int32) (M : HMem), GX iX12_turnOf d eV (f_X12_turnOf_L129 n r98 v1 v3 v4 k v5 M) 129 [some (.inr (some 74)), some (.inl v1), none, some (.inl v3), some (.inl v4), some (.inl v5)] [] M := by
  intro k
  induction k with
  | zero => intro v5 M; exact gx_none
  | succ k ih =>
    intro v5 M
    rw [f_X12_turnOf_L129]
    refine gx_iload dX12_turnOf_129 rfl ?_
    refine gx_iconst (x := 4) (by decide) dX12_turnOf_131 ?_
    refine gx_icmp_ge (tgt := 168) dX12_turnOf_132 (by decide) ?_ ?_
    · refine gx_iinc (y := v4 + 1) (lv' := [some (.inr (some 74)), some (.inl v1), none, some (.inl v3), some (.inl (v4 + 1)), some (.inl v5)]) dX12_turnOf_168 rfl rfl (by decide) rfl ?_
      refine gx_goto (tgt := 98) dX12_turnOf_171 (by decide) ?_
      refine gx_mk (lv' := [some (.inr (some 74)), some (.inl v1), none, some (.inl v3), some (.inl (v4 + 1)), none]) [true, true, false, true, true, false] rfl ?_
      exact hr98 (v4 + 1) M
    refine gx_iload_n dX12_turnOf_135 rfl ?_
    refine gx_iload dX12_turnOf_136 rfl ?_
    refine gx_cS_it (av := [.inl v3, .inl v5]) (st := []) ml_X12_265 (by omega) (c_X12_beside (d - 1) (by omega) v3 v5 M) rfl rfl (Nat.le_of_ble_eq_true rfl) dX12_turnOf_138 ?_
    refine gx_iload_n dX12_turnOf_141 rfl ?_
    refine gx_icmp_eq (tgt := 162) dX12_turnOf_142 (by decide) ?_ ?_
    · refine gx_iinc (y := v5 + 1) (lv' := [some (.inr (some 74)), some (.inl v1), none, some (.inl v3), some (.inl v4), some (.inl (v5 + 1))]) dX12_turnOf_162 rfl rfl (by decide) rfl ?_
      refine gx_goto (tgt := 129) dX12_turnOf_165 (by decide) ?_
      refine gx_mk (lv' := [some (.inr (some 74)), some (.inl v1), none, some (.inl v3), some (.inl v4), some (.inl (v5 + 1))]) [true, true, false, true, true, true] rfl ?_
      exact ih (v5 + 1) M
    refine gx_aload_n dX12_turnOf_145 rfl ?_
    refine gx_iload_n dX12_turnOf_146 rfl ?_
    refine gx_iload dX12_turnOf_147 rfl ?_
    refine gx_iload_n dX12_turnOf_149 rfl ?_
    refine gx_iload dX12_turnOf_150 rfl ?_
    refine gx_cS_it (av := [.inl v3, .inl v5]) (st := [.inl v4, .inl v1, .inr (some 74)]) ml_X12_265 (by omega) (c_X12_beside (d - 1) (by omega) v3 v5 M) rfl rfl (Nat.le_of_ble_eq_true rfl) dX12_turnOf_152 ?_
    refine gx_iload dX12_turnOf_155 rfl ?_
    refine gx_iconst (x := 1) (by decide) dX12_turnOf_157 ?_
    refine gx_iadd dX12_turnOf_158 ?_
    refine gx_cV_vm (av := [.inl v1, .inl v4, .inl (f_X12_beside v3 v5), .inl (v5 + 1)]) (st := []) ml_X12_327 (by omega) sh74 (c_X12_asksScents (d - 1) (by omega) n v1 v4 (f_X12_beside v3 v5) (v5 + 1) M) rfl rfl (Nat.le_of_ble_eq_true rfl) dX12_turnOf_159 (fun M101 => ?_)
    refine gx_iinc (y := v5 + 1) (lv' := [some (.inr (some 74)), some (.inl v1), none, some (.inl v3), some (.inl v4), some (.inl (v5 + 1))]) dX12_turnOf_162 rfl rfl (by decide) rfl ?_
    refine gx_goto (tgt := 129) dX12_turnOf_165 (by decide) ?_
    refine gx_mk (lv' := [some (.inr (some 74)), some (.inl v1), none, some (.inl v3), some (.inl v4), some (.inl (v5 + 1))]) [true, true, false, true, true, true] rfl ?_
    exact ih (v5 + 1) M101
def f_X12_turnOf_L98 (n : Nat) (v1 : Int32) (v3 : Int32) : Nat → Int32 → HMem → Option HMem
  | 0, _, _ => none
  | k + 1, v4, M =>
    if 8 ≤ v4 then
      (if (M 74 46) = 0 then
        (hb1 (f_X12_isAtFault v1 M) (fun M101 =>
        some M101))
      else
        (if (M 74 48) = 0 then
          (f_X12_turnOf_J216 n v1 v3 (6 + v1) M)
        else
          (f_X12_turnOf_J216 n v1 (f_X12_beside v3 ((M 74 48) - 1)) (6 + v1) M)))
    else
      (hb1 (f_X12_hasLine v4 M) (fun x102 =>
      if x102 = 0 then
        (f_X12_turnOf_L98 n v1 v3 k (v4 + 1) M)
      else
        (hb1 (f_X12_asksScents n v1 v4 v3 0 M) (fun M103 =>
        f_X12_turnOf_L129 n (f_X12_turnOf_L98 n v1 v3 k) v1 v3 v4 n 0 M103))))
set_option maxRecDepth 20000 in
theorem w_X12_turnOf_L98 (d : Nat) (hd : 6 ≤ d) (n : Nat) (v1 : Int32) (v3 : Int32) : ∀ (k : Nat) (v4 : Int32) (M : HMem), GX iX12_turnOf d eV (f_X12_turnOf_L98 n v1 v3 k v4 M) 98 [some (.inr (some 74)), some (.inl v1), none, some (.inl v3), some (.inl v4), none] [] M := by
  intro k
  induction k with
  | zero => intro v4 M; exact gx_none
  | succ k ih =>
    intro v4 M
    rw [f_X12_turnOf_L98]
    refine gx_iload dX12_turnOf_98 rfl ?_
    refine gx_bipush (x := 8) (by decide) dX12_turnOf_100 ?_
    refine gx_icmp_ge (tgt := 174) dX12_turnOf_102 (by decide) ?_ ?_
    · refine gx_aload_n dX12_turnOf_174 rfl ?_
      refine gx_getI fl_X12_298 sh74 rfl dX12_turnOf_175 ?_
      refine gx_if_ne (tgt := 187) dX12_turnOf_178 (by decide) ?_ ?_
      · refine gx_aload_n dX12_turnOf_187 rfl ?_
        refine gx_getR fl_X12_7 sh74 rfl dX12_turnOf_188 ?_
        refine gx_bipush (x := 6) (by decide) dX12_turnOf_191 ?_
        refine gx_iload_n dX12_turnOf_193 rfl ?_
        refine gx_iadd dX12_turnOf_194 ?_
        refine gx_aload_n dX12_turnOf_195 rfl ?_
        refine gx_getI fl_X12_304 sh74 rfl dX12_turnOf_196 ?_
        refine gx_if_ne (tgt := 206) dX12_turnOf_199 (by decide) ?_ ?_
        · refine gx_iload_n dX12_turnOf_206 rfl ?_
          refine gx_aload_n dX12_turnOf_207 rfl ?_
          refine gx_getI fl_X12_304 sh74 rfl dX12_turnOf_208 ?_
          refine gx_iconst (x := 1) (by decide) dX12_turnOf_211 ?_
          refine gx_isub dX12_turnOf_212 ?_
          refine gx_cS_it (av := [.inl v3, .inl ((M 74 48) - 1)]) (st := [.inl (6 + v1), .inr (some 75)]) ml_X12_265 (by omega) (c_X12_beside (d - 1) (by omega) v3 ((M 74 48) - 1) M) rfl rfl (Nat.le_of_ble_eq_true rfl) dX12_turnOf_213 ?_
          refine gx_mk (lv' := [some (.inr (some 74)), some (.inl v1), none, none, none, none]) [true, true, false, false, false, false] rfl ?_
          exact w_X12_turnOf_J216 d hd n M v1 (f_X12_beside v3 ((M 74 48) - 1)) (6 + v1)
        refine gx_iload_n dX12_turnOf_202 rfl ?_
        refine gx_goto (tgt := 216) dX12_turnOf_203 (by decide) ?_
        refine gx_mk (lv' := [some (.inr (some 74)), some (.inl v1), none, none, none, none]) [true, true, false, false, false, false] rfl ?_
        exact w_X12_turnOf_J216 d hd n M v1 v3 (6 + v1)
      refine gx_aload_n dX12_turnOf_181 rfl ?_
      refine gx_iload_n dX12_turnOf_182 rfl ?_
      refine gx_cV_vm (av := [.inl v1]) (st := []) ml_X12_324 (by omega) sh74 (c_X12_isAtFault (d - 1) (by omega) v1 M) rfl rfl (Nat.le_of_ble_eq_true rfl) dX12_turnOf_183 (fun M101 => ?_)
      exact gx_vret rfl rfl dX12_turnOf_186
    refine gx_aload_n dX12_turnOf_105 rfl ?_
    refine gx_iload dX12_turnOf_106 rfl ?_
    refine gx_cV_ip (av := [.inl v4]) (st := []) ml_X12_122 (by omega) sh74 (c_X12_hasLine (d - 1) (by omega) v4 M) rfl rfl (Nat.le_of_ble_eq_true rfl) dX12_turnOf_108 (fun x102 => ?_)
    refine gx_if_ne (tgt := 117) dX12_turnOf_111 (by decide) ?_ ?_
    · refine gx_aload_n dX12_turnOf_117 rfl ?_
      refine gx_iload_n dX12_turnOf_118 rfl ?_
      refine gx_iload dX12_turnOf_119 rfl ?_
      refine gx_iload_n dX12_turnOf_121 rfl ?_
      refine gx_iconst (x := 0) (by decide) dX12_turnOf_122 ?_
      refine gx_cV_vm (av := [.inl v1, .inl v4, .inl v3, .inl 0]) (st := []) ml_X12_327 (by omega) sh74 (c_X12_asksScents (d - 1) (by omega) n v1 v4 v3 0 M) rfl rfl (Nat.le_of_ble_eq_true rfl) dX12_turnOf_123 (fun M103 => ?_)
      refine gx_iconst (x := 0) (by decide) dX12_turnOf_126 ?_
      refine gx_istore (lv' := [some (.inr (some 74)), some (.inl v1), none, some (.inl v3), some (.inl v4), some (.inl 0)]) dX12_turnOf_127 (by decide) rfl ?_
      refine gx_mk (lv' := [some (.inr (some 74)), some (.inl v1), none, some (.inl v3), some (.inl v4), some (.inl 0)]) [true, true, false, true, true, true] rfl ?_
      exact w_X12_turnOf_L129 d hd n (f_X12_turnOf_L98 n v1 v3 k) v1 v3 v4 ih n 0 M103
    refine gx_goto (tgt := 168) dX12_turnOf_114 (by decide) ?_
    refine gx_iinc (y := v4 + 1) (lv' := [some (.inr (some 74)), some (.inl v1), none, some (.inl v3), some (.inl (v4 + 1)), none]) dX12_turnOf_168 rfl rfl (by decide) rfl ?_
    refine gx_goto (tgt := 98) dX12_turnOf_171 (by decide) ?_
    refine gx_mk (lv' := [some (.inr (some 74)), some (.inl v1), none, some (.inl v3), some (.inl (v4 + 1)), none]) [true, true, false, true, true, false] rfl ?_
    exact ih (v4 + 1) M
def f_X12_turnOf (n : Nat) (v1 : Int32) (M : HMem) : Option HMem :=
  hb1 (f_X12_feels n v1 M) (fun M101 =>
  hb2 (f_X12_holdsAny n 120 M101) (fun x102 M103 =>
  if x102 = 0 then
    (hb2 (f_X12_byLaw n 114 10 M103) (fun x104 M105 =>
    hb1 (some (hset M105 75 31 (((25173 * (M105 75 31)) + 13849) - ((25173 * (M105 75 31)) + 13849) / 65536 * 65536))) (fun M106 =>
    if x104 ≤ ((M106 75 31) - (M106 75 31) / 10 * 10) then
      (if hib (6 + v1) 32 then
      f_X12_turnOf_L98 n v1 ((hset M106 74 46 0) 75 (Int32.toNatClampNeg (6 + v1))) n 0 (hset M106 74 46 0)
      else none)
    else
      (hb1 (f_X12_isAtFault v1 M106) (fun M107 =>
      some M107)))))
  else
    (if hib (24 + v1) 32 then
    some (hset M103 75 (Int32.toNatClampNeg (24 + v1)) 2)
    else none)))
set_option maxRecDepth 20000 in
theorem w_X12_turnOf (d : Nat) (hd : 6 ≤ d) (n : Nat) (v1 : Int32) (M : HMem) : GX iX12_turnOf d eV (f_X12_turnOf n v1 M) 0 [some (.inr (some 74)), some (.inl v1), none, none, none, none] [] M := by
  rw [f_X12_turnOf]
  refine gx_aload_n dX12_turnOf_0 rfl ?_
  refine gx_iload_n dX12_turnOf_1 rfl ?_
  refine gx_cV_vm (av := [.inl v1]) (st := []) ml_X12_292 (by omega) sh74 (c_X12_feels (d - 1) (by omega) n v1 M) rfl rfl (Nat.le_of_ble_eq_true rfl) dX12_turnOf_2 (fun M101 => ?_)
  refine gx_aload_n dX12_turnOf_5 rfl ?_
  refine gx_bipush (x := 120) (by decide) dX12_turnOf_6 ?_
  refine gx_cV_im (av := [.inl 120]) (st := []) ml_X12_320 (by omega) sh74 (c_X12_holdsAny (d - 1) (by omega) n 120 M101) rfl rfl (Nat.le_of_ble_eq_true rfl) dX12_turnOf_8 (fun x102 M103 => ?_)
  refine gx_if_eq (tgt := 25) dX12_turnOf_11 (by decide) ?_ ?_
  · refine gx_aload_n dX12_turnOf_25 rfl ?_
    refine gx_bipush (x := 114) (by decide) dX12_turnOf_26 ?_
    refine gx_bipush (x := 10) (by decide) dX12_turnOf_28 ?_
    refine gx_cV_im (av := [.inl 114, .inl 10]) (st := []) ml_X12_311 (by omega) sh74 (c_X12_byLaw (d - 1) (by omega) n 114 10 M103) rfl rfl (Nat.le_of_ble_eq_true rfl) dX12_turnOf_30 (fun x104 M105 => ?_)
    refine gx_istore_n (lv' := [some (.inr (some 74)), some (.inl v1), some (.inl x104), none, none, none]) dX12_turnOf_33 (by decide) rfl ?_
    refine gx_aload_n dX12_turnOf_34 rfl ?_
    refine gx_getR fl_X12_7 sh74 rfl dX12_turnOf_35 ?_
    refine gx_bipush (x := 31) (by decide) dX12_turnOf_38 ?_
    refine gx_sipush (x := 25173) (by decide) dX12_turnOf_40 ?_
    refine gx_aload_n dX12_turnOf_43 rfl ?_
    refine gx_getR fl_X12_7 sh74 rfl dX12_turnOf_44 ?_
    refine gx_bipush (x := 31) (by decide) dX12_turnOf_47 ?_
    refine gx_ialoadL (j := 31) sh75 (by decide) (by decide) dX12_turnOf_49 ?_
    refine gx_imul dX12_turnOf_50 ?_
    refine gx_sipush (x := 13849) (by decide) dX12_turnOf_51 ?_
    refine gx_iadd dX12_turnOf_54 ?_
    refine gx_ldcw (x := 65536) mw1595 dX12_turnOf_55 ?_
    refine gx_iremL (by decide) dX12_turnOf_58 ?_
    refine gx_iastoreL (j := 31) sh75 (by decide) (by decide) dX12_turnOf_59 ?_
    refine gx_aload_n dX12_turnOf_60 rfl ?_
    refine gx_getR fl_X12_7 sh74 rfl dX12_turnOf_61 ?_
    refine gx_bipush (x := 31) (by decide) dX12_turnOf_64 ?_
    refine gx_nm (fun M106 => ?_)
    refine gx_ialoadL (j := 31) sh75 (by decide) (by decide) dX12_turnOf_66 ?_
    refine gx_bipush (x := 10) (by decide) dX12_turnOf_67 ?_
    refine gx_iremL (by decide) dX12_turnOf_69 ?_
    refine gx_iload_n dX12_turnOf_70 rfl ?_
    refine gx_icmp_ge (tgt := 80) dX12_turnOf_71 (by decide) ?_ ?_
    · refine gx_aload_n dX12_turnOf_80 rfl ?_
      refine gx_iconst (x := 0) (by decide) dX12_turnOf_81 ?_
      refine gx_putI fl_X12_298 fp_X12_46 sh74 rfl dX12_turnOf_82 ?_
      refine gx_aload_n dX12_turnOf_85 rfl ?_
      refine gx_getR fl_X12_7 sh74 rfl dX12_turnOf_86 ?_
      refine gx_bipush (x := 6) (by decide) dX12_turnOf_89 ?_
      refine gx_iload_n dX12_turnOf_91 rfl ?_
      refine gx_iadd dX12_turnOf_92 ?_
      refine gx_iaload sh75 dX12_turnOf_93 ?_
      refine gx_istore_n (lv' := [some (.inr (some 74)), some (.inl v1), some (.inl x104), some (.inl ((hset M106 74 46 0) 75 (Int32.toNatClampNeg (6 + v1)))), none, none]) dX12_turnOf_94 (by decide) rfl ?_
      refine gx_iconst (x := 0) (by decide) dX12_turnOf_95 ?_
      refine gx_istore (lv' := [some (.inr (some 74)), some (.inl v1), some (.inl x104), some (.inl ((hset M106 74 46 0) 75 (Int32.toNatClampNeg (6 + v1)))), some (.inl 0), none]) dX12_turnOf_96 (by decide) rfl ?_
      refine gx_mk (lv' := [some (.inr (some 74)), some (.inl v1), none, some (.inl ((hset M106 74 46 0) 75 (Int32.toNatClampNeg (6 + v1)))), some (.inl 0), none]) [true, true, false, true, true, false] rfl ?_
      exact w_X12_turnOf_L98 d hd n v1 ((hset M106 74 46 0) 75 (Int32.toNatClampNeg (6 + v1))) n 0 (hset M106 74 46 0)
    refine gx_aload_n dX12_turnOf_74 rfl ?_
    refine gx_iload_n dX12_turnOf_75 rfl ?_
    refine gx_cV_vm (av := [.inl v1]) (st := []) ml_X12_324 (by omega) sh74 (c_X12_isAtFault (d - 1) (by omega) v1 M106) rfl rfl (Nat.le_of_ble_eq_true rfl) dX12_turnOf_76 (fun M107 => ?_)
    exact gx_vret rfl rfl dX12_turnOf_79
  refine gx_aload_n dX12_turnOf_14 rfl ?_
  refine gx_getR fl_X12_7 sh74 rfl dX12_turnOf_15 ?_
  refine gx_bipush (x := 24) (by decide) dX12_turnOf_18 ?_
  refine gx_iload_n dX12_turnOf_20 rfl ?_
  refine gx_iadd dX12_turnOf_21 ?_
  refine gx_iconst (x := 2) (by decide) dX12_turnOf_22 ?_
  refine gx_iastore sh75 dX12_turnOf_23 ?_
  exact gx_vret rfl rfl dX12_turnOf_24
theorem c_X12_turnOf (d : Nat) (hd : 6 ≤ d) (n : Nat) (v1 : Int32) (M : HMem) : MX iX12_turnOf d [.inr (some 74), .inl v1] M eV (f_X12_turnOf n v1 M) := mx_of (by decide +kernel) (Nat.le_of_ble_eq_true rfl) rfl (w_X12_turnOf d hd n v1 M)

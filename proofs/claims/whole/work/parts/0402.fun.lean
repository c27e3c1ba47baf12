-- X8_move
def f_X8_move (o0 : Nat) (v1 : Int32) (v2 : Int32) (v3 : Int32) (v4 : Int32) (M : HMem) : Option HMem :=
  if (f_X11_isWithin v1 5) = 0 then
    (some M)
  else
    (if hib v1 6 then
    if hib v1 6 then
    if hib v1 6 then
    some (hset (hset (hset M (o0 + 1) (Int32.toNatClampNeg v1) v2) (o0 + 2) (Int32.toNatClampNeg v1) v3) (o0 + 4) (Int32.toNatClampNeg v1) v4)
    else none
    else none
    else none)
set_option maxRecDepth 20000 in
theorem w_X8_move (d : Nat) (hd : 1 ≤ d) (o0 : Nat) (h0 : isPk o0) (v1 : Int32) (v2 : Int32) (v3 : Int32) (v4 : Int32) (M : HMem) : GX iX8_move d eV (f_X8_move o0 v1 v2 v3 v4 M) 0 [some (.inr (some o0)), some (.inl v1), some (.inl v2), some (.inl v3), some (.inl v4)] [] M := by
  rw [f_X8_move]
  refine gx_iload_n dX8_move_0 rfl ?_
  refine gx_iconst (x := 5) (by decide) dX8_move_1 ?_
  refine gx_cS_it (av := [.inl v1, .inl 5]) (st := []) ml_X8_43 (by omega) (c_X11_isWithin (d - 1) (by omega) v1 5 M) rfl rfl (Nat.le_of_ble_eq_true rfl) dX8_move_2 ?_
  refine gx_if_eq (tgt := 30) dX8_move_5 (by decide) ?_ ?_
  · exact gx_vret rfl rfl dX8_move_30
  refine gx_aload_n dX8_move_8 rfl ?_
  refine gx_getR fl_X8_9 (shP h0) rfl dX8_move_9 ?_
  refine gx_iload_n dX8_move_12 rfl ?_
  refine gx_iload_n dX8_move_13 rfl ?_
  refine gx_iastore (shP1 h0) dX8_move_14 ?_
  refine gx_aload_n dX8_move_15 rfl ?_
  refine gx_getR fl_X8_15 (shP h0) rfl dX8_move_16 ?_
  refine gx_iload_n dX8_move_19 rfl ?_
  refine gx_iload_n dX8_move_20 rfl ?_
  refine gx_iastore (shP2 h0) dX8_move_21 ?_
  refine gx_aload_n dX8_move_22 rfl ?_
  refine gx_getR fl_X8_21 (shP h0) rfl dX8_move_23 ?_
  refine gx_iload_n dX8_move_26 rfl ?_
  refine gx_iload dX8_move_27 rfl ?_
  refine gx_iastore (shP4 h0) dX8_move_29 ?_
  exact gx_vret rfl rfl dX8_move_30
theorem c_X8_move (d : Nat) (hd : 1 ≤ d) (o0 : Nat) (h0 : isPk o0) (v1 : Int32) (v2 : Int32) (v3 : Int32) (v4 : Int32) (M : HMem) : MX iX8_move d [.inr (some o0), .inl v1, .inl v2, .inl v3, .inl v4] M eV (f_X8_move o0 v1 v2 v3 v4 M) := mx_of (by decide +kernel) (Nat.le_of_ble_eq_true rfl) rfl (w_X8_move d hd o0 h0 v1 v2 v3 v4 M)
-- X2_follow
def f_X2_follow_J67 (n : Nat) (o1 : Nat) (v2 : Int32) (o3 : Nat) (s0 : Int32) (M : HMem) : Option (Int32 × HMem) :=
  hb1 (f_X1_placeAt o3 (M 31 3) M) (fun x101 =>
  hb1 (f_X8_move o1 v2 x101 (M 31 3) s0 M) (fun M102 =>
  some (1, M102)))
set_option maxRecDepth 20000 in
theorem w_X2_follow_J67 (d : Nat) (hd : 4 ≤ d) (n : Nat) (M : HMem) (o1 : Nat) (h1 : isPk o1) (v2 : Int32) (o3 : Nat) (h3 : isCo o3) (s0 : Int32) : GX iX2_follow d eI (f_X2_follow_J67 n o1 v2 o3 s0 M) 67 [some (.inr (some 31)), some (.inr (some o1)), some (.inl v2), some (.inr (some o3)), none] [.inl s0] M := by
  rw [f_X2_follow_J67]
  refine gx_istore (lv' := [some (.inr (some 31)), some (.inr (some o1)), some (.inl v2), some (.inr (some o3)), some (.inl s0)]) dX2_follow_67 (by decide) rfl ?_
  refine gx_aload_n dX2_follow_69 rfl ?_
  refine gx_iload_n dX2_follow_70 rfl ?_
  refine gx_aload_n dX2_follow_71 rfl ?_
  refine gx_aload_n dX2_follow_72 rfl ?_
  refine gx_getI fl_X2_15 sh31 rfl dX2_follow_73 ?_
  refine gx_cV_ip (av := [.inl (M 31 3)]) (st := [.inl v2, .inr (some o1)]) ml_X2_98 (by omega) (shC h3) (c_X1_placeAt (d - 1) (by omega) o3 h3 (M 31 3) M) rfl rfl (Nat.le_of_ble_eq_true rfl) dX2_follow_76 (fun x101 => ?_)
  refine gx_aload_n dX2_follow_79 rfl ?_
  refine gx_getI fl_X2_15 sh31 rfl dX2_follow_80 ?_
  refine gx_iload dX2_follow_83 rfl ?_
  refine gx_cV_vm (av := [.inl v2, .inl x101, .inl (M 31 3), .inl s0]) (st := []) ml_X2_101 (by omega) (shP h1) (c_X8_move (d - 1) (by omega) o1 h1 v2 x101 (M 31 3) s0 M) rfl rfl (Nat.le_of_ble_eq_true rfl) dX2_follow_85 (fun M102 => ?_)
  refine gx_iconst (x := 1) (by decide) dX2_follow_88 ?_
  exact gx_zret rfl (by decide) rfl dX2_follow_89
def f_X2_follow_L7 (n : Nat) (o1 : Nat) (v2 : Int32) : Nat → Int32 → HMem → Option (Int32 × HMem)
  | 0, _, _ => none
  | k + 1, v3, M =>
    if 8 ≤ v3 then
      (hb1 (f_X0_laid (M 31 5) M) (fun r101 => match r101 with
        | none => (if (M 31 2) ≤ 0 then
            (some (0, M))
          else
            (some (0, M)))
        | some o102 => (if (M 31 2) ≤ 0 then
            (some (0, M))
          else
            (if (M 31 3) = (M o102 3) then
              (f_X2_follow_J67 n o1 v2 o102 1 M)
            else
              (f_X2_follow_J67 n o1 v2 o102 0 M)))))
    else
      (hb1 (f_X2_weigh n o1 v2 v3 M) (fun M103 =>
      f_X2_follow_L7 n o1 v2 k (v3 + 1) M103))
set_option maxRecDepth 20000 in
theorem w_X2_follow_L7 (d : Nat) (hd : 4 ≤ d) (n : Nat) (o1 : Nat) (h1 : isPk o1) (v2 : Int32) : ∀ (k : Nat) (v3 : Int32) (M : HMem), GX iX2_follow d eI (f_X2_follow_L7 n o1 v2 k v3 M) 7 [some (.inr (some 31)), some (.inr (some o1)), some (.inl v2), some (.inl v3), none] [] M := by
  intro k
  induction k with
  | zero => intro v3 M; exact gx_none
  | succ k ih =>
    intro v3 M
    rw [f_X2_follow_L7]
    refine gx_iload_n dX2_follow_7 rfl ?_
    refine gx_bipush (x := 8) (by decide) dX2_follow_8 ?_
    refine gx_icmp_ge (tgt := 26) dX2_follow_10 (by decide) ?_ ?_
    · refine gx_aload_n dX2_follow_26 rfl ?_
      refine gx_getR fl_X2_24 sh31 rfl dX2_follow_27 ?_
      refine gx_aload_n dX2_follow_30 rfl ?_
      refine gx_getI fl_X2_21 sh31 rfl dX2_follow_31 ?_
      refine gx_cV_rp (av := [.inl (M 31 5)]) (st := []) ml_X2_87 (by omega) sh3 (c_X0_laid (d - 1) (by omega) (M 31 5) M) rfl rfl (Nat.le_of_ble_eq_true rfl) dX2_follow_34 (fun r101 er101 => ?_)
      cases r101 with
      | none =>
        dsimp only
        refine gx_astore_nN (lv' := [some (.inr (some 31)), some (.inr (some o1)), some (.inl v2), some (.inr none), none]) dX2_follow_37 (by decide) rfl ?_
        refine gx_aload_n dX2_follow_38 rfl ?_
        refine gx_getI fl_X2_9 sh31 rfl dX2_follow_39 ?_
        refine gx_if_le (tgt := 49) dX2_follow_42 (by decide) ?_ ?_
        · refine gx_iconst (x := 0) (by decide) dX2_follow_49 ?_
          exact gx_zret rfl (by decide) rfl dX2_follow_50
        refine gx_aload_nN dX2_follow_45 rfl ?_
        refine gx_ifnonnullN dX2_follow_46 ?_
        refine gx_iconst (x := 0) (by decide) dX2_follow_49 ?_
        exact gx_zret rfl (by decide) rfl dX2_follow_50
      | some o102 =>
        have ho102 := co_X0_laid er101
        dsimp only
        refine gx_astore_n (lv' := [some (.inr (some 31)), some (.inr (some o1)), some (.inl v2), some (.inr (some o102)), none]) dX2_follow_37 (by decide) rfl ?_
        refine gx_aload_n dX2_follow_38 rfl ?_
        refine gx_getI fl_X2_9 sh31 rfl dX2_follow_39 ?_
        refine gx_if_le (tgt := 49) dX2_follow_42 (by decide) ?_ ?_
        · refine gx_iconst (x := 0) (by decide) dX2_follow_49 ?_
          exact gx_zret rfl (by decide) rfl dX2_follow_50
        refine gx_aload_n dX2_follow_45 rfl ?_
        refine gx_ifnonnullS (tgt := 51) dX2_follow_46 (by decide) ?_
        refine gx_aload_n dX2_follow_51 rfl ?_
        refine gx_getI fl_X2_15 sh31 rfl dX2_follow_52 ?_
        refine gx_aload_n dX2_follow_55 rfl ?_
        refine gx_getI fl_X2_93 (shC ho102) rfl dX2_follow_56 ?_
        refine gx_icmp_ne (tgt := 66) dX2_follow_59 (by decide) ?_ ?_
        · refine gx_iconst (x := 0) (by decide) dX2_follow_66 ?_
          refine gx_mk (lv' := [some (.inr (some 31)), some (.inr (some o1)), some (.inl v2), some (.inr (some o102)), none]) [true, true, true, true, false] rfl ?_
          exact w_X2_follow_J67 d hd n M o1 h1 v2 o102 ho102 0
        refine gx_iconst (x := 1) (by decide) dX2_follow_62 ?_
        refine gx_goto (tgt := 67) dX2_follow_63 (by decide) ?_
        refine gx_mk (lv' := [some (.inr (some 31)), some (.inr (some o1)), some (.inl v2), some (.inr (some o102)), none]) [true, true, true, true, false] rfl ?_
        exact w_X2_follow_J67 d hd n M o1 h1 v2 o102 ho102 1
    refine gx_aload_n dX2_follow_13 rfl ?_
    refine gx_aload_n dX2_follow_14 rfl ?_
    refine gx_iload_n dX2_follow_15 rfl ?_
    refine gx_iload_n dX2_follow_16 rfl ?_
    refine gx_cV_vm (av := [.inr (some o1), .inl v2, .inl v3]) (st := []) ml_X2_83 (by omega) sh31 (c_X2_weigh (d - 1) (by omega) n o1 h1 v2 v3 M) rfl rfl (Nat.le_of_ble_eq_true rfl) dX2_follow_17 (fun M103 => ?_)
    refine gx_iinc (y := v3 + 1) (lv' := [some (.inr (some 31)), some (.inr (some o1)), some (.inl v2), some (.inl (v3 + 1)), none]) dX2_follow_20 rfl rfl (by decide) rfl ?_
    refine gx_goto (tgt := 7) dX2_follow_23 (by decide) ?_
    refine gx_mk (lv' := [some (.inr (some 31)), some (.inr (some o1)), some (.inl v2), some (.inl (v3 + 1)), none]) [true, true, true, true, false] rfl ?_
    exact ih (v3 + 1) M103
def f_X2_follow (n : Nat) (o1 : Nat) (v2 : Int32) (M : HMem) : Option (Int32 × HMem) :=
  f_X2_follow_L7 n o1 v2 n 0 (hset M 31 2 0)
set_option maxRecDepth 20000 in
theorem w_X2_follow (d : Nat) (hd : 4 ≤ d) (n : Nat) (o1 : Nat) (h1 : isPk o1) (v2 : Int32) (M : HMem) : GX iX2_follow d eI (f_X2_follow n o1 v2 M) 0 [some (.inr (some 31)), some (.inr (some o1)), some (.inl v2), none, none] [] M := by
  rw [f_X2_follow]
  refine gx_aload_n dX2_follow_0 rfl ?_
  refine gx_iconst (x := 0) (by decide) dX2_follow_1 ?_
  refine gx_putI fl_X2_9 fp_X2_2 sh31 rfl dX2_follow_2 ?_
  refine gx_iconst (x := 0) (by decide) dX2_follow_5 ?_
  refine gx_istore_n (lv' := [some (.inr (some 31)), some (.inr (some o1)), some (.inl v2), some (.inl 0), none]) dX2_follow_6 (by decide) rfl ?_
  refine gx_mk (lv' := [some (.inr (some 31)), some (.inr (some o1)), some (.inl v2), some (.inl 0), none]) [true, true, true, true, false] rfl ?_
  exact w_X2_follow_L7 d hd n o1 h1 v2 n 0 (hset M 31 2 0)
theorem c_X2_follow (d : Nat) (hd : 4 ≤ d) (n : Nat) (o1 : Nat) (h1 : isPk o1) (v2 : Int32) (M : HMem) : MX iX2_follow d [.inr (some 31), .inr (some o1), .inl v2] M eI (f_X2_follow n o1 v2 M) := mx_of (by decide +kernel) (Nat.le_of_ble_eq_true rfl) rfl (w_X2_follow d hd n o1 h1 v2 M)
-- X8_addFault
def f_X8_addFault (o0 : Nat) (v1 : Int32) (M : HMem) : Option HMem :=
  if (f_X11_isWithin v1 5) = 0 then
    (some M)
  else
    (if hib v1 6 then
    if hib v1 6 then
    hb1 (some (hset M (o0 + 3) (Int32.toNatClampNeg v1) ((M (o0 + 3) (Int32.toNatClampNeg v1)) + 1))) (fun M101 =>
    if hib v1 6 then
    if (M101 (o0 + 3) (Int32.toNatClampNeg v1)) < 9 then
      (some M101)
    else
      (if hib v1 6 then
      some (hset M101 (o0 + 4) (Int32.toNatClampNeg v1) 2)
      else none)
    else none)
    else none
    else none)
set_option maxRecDepth 20000 in
theorem w_X8_addFault (d : Nat) (hd : 1 ≤ d) (o0 : Nat) (h0 : isPk o0) (v1 : Int32) (M : HMem) : GX iX8_addFault d eV (f_X8_addFault o0 v1 M) 0 [some (.inr (some o0)), some (.inl v1)] [] M := by
  rw [f_X8_addFault]
  refine gx_iload_n dX8_addFault_0 rfl ?_
  refine gx_iconst (x := 5) (by decide) dX8_addFault_1 ?_
  refine gx_cS_it (av := [.inl v1, .inl 5]) (st := []) ml_X8_43 (by omega) (c_X11_isWithin (d - 1) (by omega) v1 5 M) rfl rfl (Nat.le_of_ble_eq_true rfl) dX8_addFault_2 ?_
  refine gx_if_eq (tgt := 36) dX8_addFault_5 (by decide) ?_ ?_
  · exact gx_vret rfl rfl dX8_addFault_36
  refine gx_aload_n dX8_addFault_8 rfl ?_
  refine gx_getR fl_X8_18 (shP h0) rfl dX8_addFault_9 ?_
  refine gx_iload_n dX8_addFault_12 rfl ?_
  refine gx_dup2 dX8_addFault_13 ?_
  refine gx_iaload (shP3 h0) dX8_addFault_14 ?_
  refine gx_iconst (x := 1) (by decide) dX8_addFault_15 ?_
  refine gx_iadd dX8_addFault_16 ?_
  refine gx_iastore (shP3 h0) dX8_addFault_17 ?_
  refine gx_aload_n dX8_addFault_18 rfl ?_
  refine gx_getR fl_X8_18 (shP h0) rfl dX8_addFault_19 ?_
  refine gx_iload_n dX8_addFault_22 rfl ?_
  refine gx_nm (fun M101 => ?_)
  refine gx_iaload (shP3 h0) dX8_addFault_23 ?_
  refine gx_bipush (x := 9) (by decide) dX8_addFault_24 ?_
  refine gx_icmp_lt (tgt := 36) dX8_addFault_26 (by decide) ?_ ?_
  · exact gx_vret rfl rfl dX8_addFault_36
  refine gx_aload_n dX8_addFault_29 rfl ?_
  refine gx_getR fl_X8_21 (shP h0) rfl dX8_addFault_30 ?_
  refine gx_iload_n dX8_addFault_33 rfl ?_
  refine gx_iconst (x := 2) (by decide) dX8_addFault_34 ?_
  refine gx_iastore (shP4 h0) dX8_addFault_35 ?_
  exact gx_vret rfl rfl dX8_addFault_36
theorem c_X8_addFault (d : Nat) (hd : 1 ≤ d) (o0 : Nat) (h0 : isPk o0) (v1 : Int32) (M : HMem) : MX iX8_addFault d [.inr (some o0), .inl v1] M eV (f_X8_addFault o0 v1 M) := mx_of (by decide +kernel) (Nat.le_of_ble_eq_true rfl) rfl (w_X8_addFault d hd o0 h0 v1 M)
-- X2_takeTurn
def f_X2_takeTurn (n : Nat) (o1 : Nat) (v2 : Int32) (M : HMem) : Option HMem :=
  hb1 (f_X5_put 23 0 v2 M) (fun M101 =>
  hb1 (f_X8_faultsOf o1 v2 M101) (fun x102 =>
  hb1 (f_X5_put 23 5 x102 M101) (fun M103 =>
  hb1 (f_X5_put 23 7 ((M103 o1 4) - (M103 o1 4) / 100 * 100) M103) (fun M104 =>
  hb1 (f_X8_placeOfHound o1 v2 M104) (fun x105 =>
  hb1 (f_X8_houndsAt n o1 x105 M104) (fun x106 =>
  hb1 (f_X5_put 23 6 x106 M104) (fun M107 =>
  hb1 (f_X5_put 23 1 0 M107) (fun M108 =>
  hb1 (f_X5_put 23 2 0 M108) (fun M109 =>
  hb1 (f_X5_put 23 3 0 M109) (fun M110 =>
  hb1 (f_X5_put 23 4 0 M110) (fun M111 =>
  hb2 (f_X5_givesUp n 23 M111) (fun x112 M113 =>
  if x112 = 0 then
    (hb2 (f_X5_worth n 23 114 10 M113) (fun x114 M115 =>
    hb2 (f_X8_draw o1 M115) (fun x116 M117 =>
    if x116 < x114 then
      (hb1 (f_X8_addFault o1 v2 M117) (fun M118 =>
      some M118))
    else
      (hb2 (f_X2_follow n o1 v2 M117) (fun x119 M120 =>
      if x119 = 0 then
        (hb1 (f_X8_addFault o1 v2 M120) (fun M121 =>
        some M121))
      else
        (some M120))))))
  else
    (hb1 (f_X8_lose o1 v2 M113) (fun M122 =>
    some M122))))))))))))))
set_option maxRecDepth 20000 in
theorem w_X2_takeTurn (d : Nat) (hd : 5 ≤ d) (n : Nat) (o1 : Nat) (h1 : isPk o1) (v2 : Int32) (M : HMem) : GX iX2_takeTurn d eV (f_X2_takeTurn n o1 v2 M) 0 [some (.inr (some 31)), some (.inr (some o1)), some (.inl v2), none] [] M := by
  rw [f_X2_takeTurn]
  refine gx_aload_n dX2_takeTurn_0 rfl ?_
  refine gx_getR fl_X2_28 sh31 rfl dX2_takeTurn_1 ?_
  refine gx_iconst (x := 0) (by decide) dX2_takeTurn_4 ?_
  refine gx_iload_n dX2_takeTurn_5 rfl ?_
  refine gx_cV_vm (av := [.inl 0, .inl v2]) (st := []) ml_X2_47 (by omega) sh23 (c_X5_put (d - 1) (by omega) 23 (Or.inr rfl) 0 v2 M) rfl rfl (Nat.le_of_ble_eq_true rfl) dX2_takeTurn_6 (fun M101 => ?_)
  refine gx_aload_n dX2_takeTurn_9 rfl ?_
  refine gx_getR fl_X2_28 sh31 rfl dX2_takeTurn_10 ?_
  refine gx_iconst (x := 5) (by decide) dX2_takeTurn_13 ?_
  refine gx_aload_n dX2_takeTurn_14 rfl ?_
  refine gx_iload_n dX2_takeTurn_15 rfl ?_
  refine gx_cV_ip (av := [.inl v2]) (st := [.inl 5, .inr (some 23)]) ml_X2_51 (by omega) (shP h1) (c_X8_faultsOf (d - 1) (by omega) o1 h1 v2 M101) rfl rfl (Nat.le_of_ble_eq_true rfl) dX2_takeTurn_16 (fun x102 => ?_)
  refine gx_cV_vm (av := [.inl 5, .inl x102]) (st := []) ml_X2_47 (by omega) sh23 (c_X5_put (d - 1) (by omega) 23 (Or.inr rfl) 5 x102 M101) rfl rfl (Nat.le_of_ble_eq_true rfl) dX2_takeTurn_19 (fun M103 => ?_)
  refine gx_aload_n dX2_takeTurn_22 rfl ?_
  refine gx_getR fl_X2_28 sh31 rfl dX2_takeTurn_23 ?_
  refine gx_bipush (x := 7) (by decide) dX2_takeTurn_26 ?_
  refine gx_aload_n dX2_takeTurn_28 rfl ?_
  refine gx_getI fl_X2_42 (shP h1) rfl dX2_takeTurn_29 ?_
  refine gx_bipush (x := 100) (by decide) dX2_takeTurn_32 ?_
  refine gx_iremL (by decide) dX2_takeTurn_34 ?_
  refine gx_cV_vm (av := [.inl 7, .inl ((M103 o1 4) - (M103 o1 4) / 100 * 100)]) (st := []) ml_X2_47 (by omega) sh23 (c_X5_put (d - 1) (by omega) 23 (Or.inr rfl) 7 ((M103 o1 4) - (M103 o1 4) / 100 * 100) M103) rfl rfl (Nat.le_of_ble_eq_true rfl) dX2_takeTurn_35 (fun M104 => ?_)
  refine gx_aload_n dX2_takeTurn_38 rfl ?_
  refine gx_getR fl_X2_28 sh31 rfl dX2_takeTurn_39 ?_
  refine gx_bipush (x := 6) (by decide) dX2_takeTurn_42 ?_
  refine gx_aload_n dX2_takeTurn_44 rfl ?_
  refine gx_aload_n dX2_takeTurn_45 rfl ?_
  refine gx_iload_n dX2_takeTurn_46 rfl ?_
  refine gx_cV_ip (av := [.inl v2]) (st := [.inr (some o1), .inl 6, .inr (some 23)]) ml_X2_54 (by omega) (shP h1) (c_X8_placeOfHound (d - 1) (by omega) o1 h1 v2 M104) rfl rfl (Nat.le_of_ble_eq_true rfl) dX2_takeTurn_47 (fun x105 => ?_)
  refine gx_cV_ip (av := [.inl x105]) (st := [.inl 6, .inr (some 23)]) ml_X2_57 (by omega) (shP h1) (c_X8_houndsAt (d - 1) (by omega) n o1 h1 x105 M104) rfl rfl (Nat.le_of_ble_eq_true rfl) dX2_takeTurn_50 (fun x106 => ?_)
  refine gx_cV_vm (av := [.inl 6, .inl x106]) (st := []) ml_X2_47 (by omega) sh23 (c_X5_put (d - 1) (by omega) 23 (Or.inr rfl) 6 x106 M104) rfl rfl (Nat.le_of_ble_eq_true rfl) dX2_takeTurn_53 (fun M107 => ?_)
  refine gx_aload_n dX2_takeTurn_56 rfl ?_
  refine gx_getR fl_X2_28 sh31 rfl dX2_takeTurn_57 ?_
  refine gx_iconst (x := 1) (by decide) dX2_takeTurn_60 ?_
  refine gx_iconst (x := 0) (by decide) dX2_takeTurn_61 ?_
  refine gx_cV_vm (av := [.inl 1, .inl 0]) (st := []) ml_X2_47 (by omega) sh23 (c_X5_put (d - 1) (by omega) 23 (Or.inr rfl) 1 0 M107) rfl rfl (Nat.le_of_ble_eq_true rfl) dX2_takeTurn_62 (fun M108 => ?_)
  refine gx_aload_n dX2_takeTurn_65 rfl ?_
  refine gx_getR fl_X2_28 sh31 rfl dX2_takeTurn_66 ?_
  refine gx_iconst (x := 2) (by decide) dX2_takeTurn_69 ?_
  refine gx_iconst (x := 0) (by decide) dX2_takeTurn_70 ?_
  refine gx_cV_vm (av := [.inl 2, .inl 0]) (st := []) ml_X2_47 (by omega) sh23 (c_X5_put (d - 1) (by omega) 23 (Or.inr rfl) 2 0 M108) rfl rfl (Nat.le_of_ble_eq_true rfl) dX2_takeTurn_71 (fun M109 => ?_)
  refine gx_aload_n dX2_takeTurn_74 rfl ?_
  refine gx_getR fl_X2_28 sh31 rfl dX2_takeTurn_75 ?_
  refine gx_iconst (x := 3) (by decide) dX2_takeTurn_78 ?_
  refine gx_iconst (x := 0) (by decide) dX2_takeTurn_79 ?_
  refine gx_cV_vm (av := [.inl 3, .inl 0]) (st := []) ml_X2_47 (by omega) sh23 (c_X5_put (d - 1) (by omega) 23 (Or.inr rfl) 3 0 M109) rfl rfl (Nat.le_of_ble_eq_true rfl) dX2_takeTurn_80 (fun M110 => ?_)
  refine gx_aload_n dX2_takeTurn_83 rfl ?_
  refine gx_getR fl_X2_28 sh31 rfl dX2_takeTurn_84 ?_
  refine gx_iconst (x := 4) (by decide) dX2_takeTurn_87 ?_
  refine gx_iconst (x := 0) (by decide) dX2_takeTurn_88 ?_
  refine gx_cV_vm (av := [.inl 4, .inl 0]) (st := []) ml_X2_47 (by omega) sh23 (c_X5_put (d - 1) (by omega) 23 (Or.inr rfl) 4 0 M110) rfl rfl (Nat.le_of_ble_eq_true rfl) dX2_takeTurn_89 (fun M111 => ?_)
  refine gx_aload_n dX2_takeTurn_92 rfl ?_
  refine gx_getR fl_X2_28 sh31 rfl dX2_takeTurn_93 ?_
  refine gx_cV_im (av := []) (st := []) ml_X2_60 (by omega) sh23 (c_X5_givesUp (d - 1) (by omega) n 23 (Or.inr rfl) M111) rfl rfl (Nat.le_of_ble_eq_true rfl) dX2_takeTurn_96 (fun x112 M113 => ?_)
  refine gx_if_eq (tgt := 108) dX2_takeTurn_99 (by decide) ?_ ?_
  · refine gx_aload_n dX2_takeTurn_108 rfl ?_
    refine gx_getR fl_X2_28 sh31 rfl dX2_takeTurn_109 ?_
    refine gx_bipush (x := 114) (by decide) dX2_takeTurn_112 ?_
    refine gx_bipush (x := 10) (by decide) dX2_takeTurn_114 ?_
    refine gx_cV_im (av := [.inl 114, .inl 10]) (st := []) ml_X2_68 (by omega) sh23 (c_X5_worth (d - 1) (by omega) n 23 (Or.inr rfl) 114 10 M113) rfl rfl (Nat.le_of_ble_eq_true rfl) dX2_takeTurn_116 (fun x114 M115 => ?_)
    refine gx_istore_n (lv' := [some (.inr (some 31)), some (.inr (some o1)), some (.inl v2), some (.inl x114)]) dX2_takeTurn_119 (by decide) rfl ?_
    refine gx_aload_n dX2_takeTurn_120 rfl ?_
    refine gx_cV_im (av := []) (st := []) ml_X2_72 (by omega) (shP h1) (c_X8_draw (d - 1) (by omega) o1 h1 M115) rfl rfl (Nat.le_of_ble_eq_true rfl) dX2_takeTurn_121 (fun x116 M117 => ?_)
    refine gx_iload_n dX2_takeTurn_124 rfl ?_
    refine gx_icmp_lt (tgt := 137) dX2_takeTurn_125 (by decide) ?_ ?_
    · refine gx_aload_n dX2_takeTurn_137 rfl ?_
      refine gx_iload_n dX2_takeTurn_138 rfl ?_
      refine gx_cV_vm (av := [.inl v2]) (st := []) ml_X2_80 (by omega) (shP h1) (c_X8_addFault (d - 1) (by omega) o1 h1 v2 M117) rfl rfl (Nat.le_of_ble_eq_true rfl) dX2_takeTurn_139 (fun M118 => ?_)
      exact gx_vret rfl rfl dX2_takeTurn_142
    refine gx_aload_n dX2_takeTurn_128 rfl ?_
    refine gx_aload_n dX2_takeTurn_129 rfl ?_
    refine gx_iload_n dX2_takeTurn_130 rfl ?_
    refine gx_cV_im (av := [.inr (some o1), .inl v2]) (st := []) ml_X2_76 (by omega) sh31 (c_X2_follow (d - 1) (by omega) n o1 h1 v2 M117) rfl rfl (Nat.le_of_ble_eq_true rfl) dX2_takeTurn_131 (fun x119 M120 => ?_)
    refine gx_if_ne (tgt := 142) dX2_takeTurn_134 (by decide) ?_ ?_
    · exact gx_vret rfl rfl dX2_takeTurn_142
    refine gx_aload_n dX2_takeTurn_137 rfl ?_
    refine gx_iload_n dX2_takeTurn_138 rfl ?_
    refine gx_cV_vm (av := [.inl v2]) (st := []) ml_X2_80 (by omega) (shP h1) (c_X8_addFault (d - 1) (by omega) o1 h1 v2 M120) rfl rfl (Nat.le_of_ble_eq_true rfl) dX2_takeTurn_139 (fun M121 => ?_)
    exact gx_vret rfl rfl dX2_takeTurn_142
  refine gx_aload_n dX2_takeTurn_102 rfl ?_
  refine gx_iload_n dX2_takeTurn_103 rfl ?_
  refine gx_cV_vm (av := [.inl v2]) (st := []) ml_X2_64 (by omega) (shP h1) (c_X8_lose (d - 1) (by omega) o1 h1 v2 M113) rfl rfl (Nat.le_of_ble_eq_true rfl) dX2_takeTurn_104 (fun M122 => ?_)
  exact gx_vret rfl rfl dX2_takeTurn_107
theorem c_X2_takeTurn (d : Nat) (hd : 5 ≤ d) (n : Nat) (o1 : Nat) (h1 : isPk o1) (v2 : Int32) (M : HMem) : MX iX2_takeTurn d [.inr (some 31), .inr (some o1), .inl v2] M eV (f_X2_takeTurn n o1 v2 M) := mx_of (by decide +kernel) (Nat.le_of_ble_eq_true rfl) rfl (w_X2_takeTurn d hd n o1 h1 v2 M)
-- X2_passMoment
def f_X2_passMoment_L2 (n : Nat) (o1 : Nat) : Nat → Int32 → HMem → Option HMem
  | 0, _, _ => none
  | k + 1, v2, M =>
    if 6 ≤ v2 then
      (some (hset M o1 4 ((M o1 4) + 1)))
    else
      (hb1 (f_X8_stateOf o1 v2 M) (fun x101 =>
      if x101 = 0 then
        (hb1 (f_X2_takeTurn n o1 v2 M) (fun M102 =>
        f_X2_passMoment_L2 n o1 k (v2 + 1) M102))
      else
        (f_X2_passMoment_L2 n o1 k (v2 + 1) M)))
set_option maxRecDepth 20000 in
theorem w_X2_passMoment_L2 (d : Nat) (hd : 6 ≤ d) (n : Nat) (o1 : Nat) (h1 : isPk o1) : ∀ (k : Nat) (v2 : Int32) (M : HMem), GX iX2_passMoment d eV (f_X2_passMoment_L2 n o1 k v2 M) 2 [some (.inr (some 31)), some (.inr (some o1)), some (.inl v2)] [] M := by
  intro k
  induction k with
  | zero => intro v2 M; exact gx_none
  | succ k ih =>
    intro v2 M
    rw [f_X2_passMoment_L2]
    refine gx_iload_n dX2_passMoment_2 rfl ?_
    refine gx_bipush (x := 6) (by decide) dX2_passMoment_3 ?_
    refine gx_icmp_ge (tgt := 28) dX2_passMoment_5 (by decide) ?_ ?_
    · refine gx_aload_n dX2_passMoment_28 rfl ?_
      refine gx_dup dX2_passMoment_29 ?_
      refine gx_getI fl_X2_42 (shP h1) rfl dX2_passMoment_30 ?_
      refine gx_iconst (x := 1) (by decide) dX2_passMoment_33 ?_
      refine gx_iadd dX2_passMoment_34 ?_
      refine gx_putI fl_X2_42 fp_X8_4 (shP h1) rfl dX2_passMoment_35 ?_
      exact gx_vret rfl rfl dX2_passMoment_38
    refine gx_aload_n dX2_passMoment_8 rfl ?_
    refine gx_iload_n dX2_passMoment_9 rfl ?_
    refine gx_cV_ip (av := [.inl v2]) (st := []) ml_X2_32 (by omega) (shP h1) (c_X8_stateOf (d - 1) (by omega) o1 h1 v2 M) rfl rfl (Nat.le_of_ble_eq_true rfl) dX2_passMoment_10 (fun x101 => ?_)
    refine gx_if_ne (tgt := 22) dX2_passMoment_13 (by decide) ?_ ?_
    · refine gx_iinc (y := v2 + 1) (lv' := [some (.inr (some 31)), some (.inr (some o1)), some (.inl (v2 + 1))]) dX2_passMoment_22 rfl rfl (by decide) rfl ?_
      refine gx_goto (tgt := 2) dX2_passMoment_25 (by decide) ?_
      refine gx_mk (lv' := [some (.inr (some 31)), some (.inr (some o1)), some (.inl (v2 + 1))]) [true, true, true] rfl ?_
      exact ih (v2 + 1) M
    refine gx_aload_n dX2_passMoment_16 rfl ?_
    refine gx_aload_n dX2_passMoment_17 rfl ?_
    refine gx_iload_n dX2_passMoment_18 rfl ?_
    refine gx_cV_vm (av := [.inr (some o1), .inl v2]) (st := []) ml_X2_38 (by omega) sh31 (c_X2_takeTurn (d - 1) (by omega) n o1 h1 v2 M) rfl rfl (Nat.le_of_ble_eq_true rfl) dX2_passMoment_19 (fun M102 => ?_)
    refine gx_iinc (y := v2 + 1) (lv' := [some (.inr (some 31)), some (.inr (some o1)), some (.inl (v2 + 1))]) dX2_passMoment_22 rfl rfl (by decide) rfl ?_
    refine gx_goto (tgt := 2) dX2_passMoment_25 (by decide) ?_
    refine gx_mk (lv' := [some (.inr (some 31)), some (.inr (some o1)), some (.inl (v2 + 1))]) [true, true, true] rfl ?_
    exact ih (v2 + 1) M102
def f_X2_passMoment (n : Nat) (o1 : Nat) (M : HMem) : Option HMem :=
  f_X2_passMoment_L2 n o1 n 0 M
set_option maxRecDepth 20000 in
theorem w_X2_passMoment (d : Nat) (hd : 6 ≤ d) (n : Nat) (o1 : Nat) (h1 : isPk o1) (M : HMem) : GX iX2_passMoment d eV (f_X2_passMoment n o1 M) 0 [some (.inr (some 31)), some (.inr (some o1)), none] [] M := by
  rw [f_X2_passMoment]
  refine gx_iconst (x := 0) (by decide) dX2_passMoment_0 ?_
  refine gx_istore_n (lv' := [some (.inr (some 31)), some (.inr (some o1)), some (.inl 0)]) dX2_passMoment_1 (by decide) rfl ?_
  refine gx_mk (lv' := [some (.inr (some 31)), some (.inr (some o1)), some (.inl 0)]) [true, true, true] rfl ?_
  exact w_X2_passMoment_L2 d hd n o1 h1 n 0 M
theorem c_X2_passMoment (d : Nat) (hd : 6 ≤ d) (n : Nat) (o1 : Nat) (h1 : isPk o1) (M : HMem) : MX iX2_passMoment d [.inr (some 31), .inr (some o1)] M eV (f_X2_passMoment n o1 M) := mx_of (by decide +kernel) (Nat.le_of_ble_eq_true rfl) rfl (w_X2_passMoment d hd n o1 h1 M)
-- J7_fill_53178
def f_J7_fill_53178_L5 (n : Nat) (k0 l0 : Nat) (v1 : Int32) (v3 : Int32) : Nat → Int32 → HMem → Option HMem
  | 0, _, _ => none
  | k + 1, v2, M =>
    if v3 ≤ v2 then
      (some M)
    else
      (if hib v2 l0 then
      f_J7_fill_53178_L5 n k0 l0 v1 v3 k (v2 + 1) (hset M k0 (Int32.toNatClampNeg v2) v1)
      else none)
set_option maxRecDepth 20000 in
theorem w_J7_fill_53178_L5 (d : Nat) (hd : 0 ≤ d) (n : Nat) (k0 l0 : Nat) (e0 : hshp[k0]? = some (.inr (.inl (0, l0)))) (v1 : Int32) (v3 : Int32) : ∀ (k : Nat) (v2 : Int32) (M : HMem), GX iJ7_fill_53178 d eV (f_J7_fill_53178_L5 n k0 l0 v1 v3 k v2 M) 5 [some (.inr (some k0)), some (.inl v1), some (.inl v2), some (.inl v3)] [] M := by
  intro k
  induction k with
  | zero => intro v2 M; exact gx_none
  | succ k ih =>
    intro v2 M
    rw [f_J7_fill_53178_L5]
    refine gx_iload_n dJ7_fill_53178_5 rfl ?_
    refine gx_iload_n dJ7_fill_53178_6 rfl ?_
    refine gx_icmp_ge (tgt := 20) dJ7_fill_53178_7 (by decide) ?_ ?_
    · exact gx_vret rfl rfl dJ7_fill_53178_20
    refine gx_aload_n dJ7_fill_53178_10 rfl ?_
    refine gx_iload_n dJ7_fill_53178_11 rfl ?_
    refine gx_iload_n dJ7_fill_53178_12 rfl ?_
    refine gx_iastore e0 dJ7_fill_53178_13 ?_
    refine gx_iinc (y := v2 + 1) (lv' := [some (.inr (some k0)), some (.inl v1), some (.inl (v2 + 1)), some (.inl v3)]) dJ7_fill_53178_14 rfl rfl (by decide) rfl ?_
    refine gx_goto (tgt := 5) dJ7_fill_53178_17 (by decide) ?_
    refine gx_mk (lv' := [some (.inr (some k0)), some (.inl v1), some (.inl (v2 + 1)), some (.inl v3)]) [true, true, true, true] rfl ?_
    exact ih (v2 + 1) (hset M k0 (Int32.toNatClampNeg v2) v1)
def f_J7_fill_53178 (n : Nat) (k0 l0 : Nat) (v1 : Int32) (M : HMem) : Option HMem :=
  f_J7_fill_53178_L5 n k0 l0 v1 (Int32.ofNat l0) n 0 M
set_option maxRecDepth 20000 in
theorem w_J7_fill_53178 (d : Nat) (hd : 0 ≤ d) (n : Nat) (k0 l0 : Nat) (e0 : hshp[k0]? = some (.inr (.inl (0, l0)))) (v1 : Int32) (M : HMem) : GX iJ7_fill_53178 d eV (f_J7_fill_53178 n k0 l0 v1 M) 0 [some (.inr (some k0)), some (.inl v1), none, none] [] M := by
  rw [f_J7_fill_53178]
  refine gx_iconst (x := 0) (by decide) dJ7_fill_53178_0 ?_
  refine gx_istore_n (lv' := [some (.inr (some k0)), some (.inl v1), some (.inl 0), none]) dJ7_fill_53178_1 (by decide) rfl ?_
  refine gx_aload_n dJ7_fill_53178_2 rfl ?_
  refine gx_alen (x := Int32.ofNat l0) e0 (by decide) rfl dJ7_fill_53178_3 ?_
  refine gx_istore_n (lv' := [some (.inr (some k0)), some (.inl v1), some (.inl 0), some (.inl (Int32.ofNat l0))]) dJ7_fill_53178_4 (by decide) rfl ?_
  refine gx_mk (lv' := [some (.inr (some k0)), some (.inl v1), some (.inl 0), some (.inl (Int32.ofNat l0))]) [true, true, true, true] rfl ?_
  exact w_J7_fill_53178_L5 d hd n k0 l0 e0 v1 (Int32.ofNat l0) n 0 M
theorem c_J7_fill_53178 (d : Nat) (hd : 0 ≤ d) (n : Nat) (k0 l0 : Nat) (e0 : hshp[k0]? = some (.inr (.inl (0, l0)))) (v1 : Int32) (M : HMem) : MX iJ7_fill_53178 d [.inr (some k0), .inl v1] M eV (f_J7_fill_53178 n k0 l0 v1 M) := mx_of (by decide +kernel) (Nat.le_of_ble_eq_true rfl) rfl (w_J7_fill_53178 d hd n k0 l0 e0 v1 M)
-- X3_clear
def f_X3_clear (n : Nat) (o0 : Nat) (M : HMem) : Option HMem :=
  hb1 (f_J7_fill_53178 n (o0 + 1) 192 0 M) (fun M101 =>
  hb1 (f_J7_fill_53178 n (o0 + 2) 192 0 M101) (fun M102 =>
  some (hset M102 o0 2 0)))
set_option maxRecDepth 20000 in
theorem w_X3_clear (d : Nat) (hd : 1 ≤ d) (n : Nat) (o0 : Nat) (h0 : isLd o0) (M : HMem) : GX iX3_clear d eV (f_X3_clear n o0 M) 0 [some (.inr (some o0))] [] M := by
  rw [f_X3_clear]
  refine gx_aload_n dX3_clear_0 rfl ?_
  refine gx_getR fl_X3_9 (shL h0) rfl dX3_clear_1 ?_
  refine gx_iconst (x := 0) (by decide) dX3_clear_4 ?_
  refine gx_cS_vm (av := [.inr (some (o0 + 1)), .inl 0]) (st := []) ml_X3_22 (by omega) (c_J7_fill_53178 (d - 1) (by omega) n (o0 + 1) 192 (shL1 h0) 0 M) rfl rfl (Nat.le_of_ble_eq_true rfl) dX3_clear_5 (fun M101 => ?_)
  refine gx_aload_n dX3_clear_8 rfl ?_
  refine gx_getR fl_X3_15 (shL h0) rfl dX3_clear_9 ?_
  refine gx_iconst (x := 0) (by decide) dX3_clear_12 ?_
  refine gx_cS_vm (av := [.inr (some (o0 + 2)), .inl 0]) (st := []) ml_X3_22 (by omega) (c_J7_fill_53178 (d - 1) (by omega) n (o0 + 2) 192 (shL2 h0) 0 M101) rfl rfl (Nat.le_of_ble_eq_true rfl) dX3_clear_13 (fun M102 => ?_)
  refine gx_aload_n dX3_clear_16 rfl ?_
  refine gx_iconst (x := 0) (by decide) dX3_clear_17 ?_
  refine gx_putI fl_X3_18 fp_X3_2 (shL h0) rfl dX3_clear_18 ?_
  exact gx_vret rfl rfl dX3_clear_21
theorem c_X3_clear (d : Nat) (hd : 1 ≤ d) (n : Nat) (o0 : Nat) (h0 : isLd o0) (M : HMem) : MX iX3_clear d [.inr (some o0)] M eV (f_X3_clear n o0 M) := mx_of (by decide +kernel) (Nat.le_of_ble_eq_true rfl) rfl (w_X3_clear d hd n o0 h0 M)
-- X3_copyFrom
def f_X3_copyFrom (o0 : Nat) (o1 : Nat) (M : HMem) : HMem :=
  hset (hcpy (hcpy M (o1 + 1) (o0 + 1) 0 0 192) (o1 + 2) (o0 + 2) 0 0 192) o0 2 ((hcpy (hcpy M (o1 + 1) (o0 + 1) 0 0 192) (o1 + 2) (o0 + 2) 0 0 192) o1 2)
set_option maxRecDepth 20000 in
theorem w_X3_copyFrom (d : Nat) (hd : 1 ≤ d) (o0 : Nat) (h0 : isLd o0) (o1 : Nat) (h1 : isLd o1) (M : HMem) : GX iX3_copyFrom d eV (some (f_X3_copyFrom o0 o1 M)) 0 [some (.inr (some o0)), some (.inr (some o1))] [] M := by
  rw [f_X3_copyFrom]
  refine gx_aload_n dX3_copyFrom_0 rfl ?_
  refine gx_getR fl_X3_9 (shL h1) rfl dX3_copyFrom_1 ?_
  refine gx_iconst (x := 0) (by decide) dX3_copyFrom_4 ?_
  refine gx_aload_n dX3_copyFrom_5 rfl ?_
  refine gx_getR fl_X3_9 (shL h0) rfl dX3_copyFrom_6 ?_
  refine gx_iconst (x := 0) (by decide) dX3_copyFrom_9 ?_
  refine gx_sipush (x := 192) (by decide) dX3_copyFrom_10 ?_
  refine gx_copyL (sp' := 0) (dp' := 0) (n' := 192) mw774 mw665 mw664 mw188 (shL1 h1) (shL1 h0) (by decide) (by decide) (by decide) (by decide) (by omega) (Nat.le_of_ble_eq_true rfl) dX3_copyFrom_13 ?_
  refine gx_aload_n dX3_copyFrom_16 rfl ?_
  refine gx_getR fl_X3_15 (shL h1) rfl dX3_copyFrom_17 ?_
  refine gx_iconst (x := 0) (by decide) dX3_copyFrom_20 ?_
  refine gx_aload_n dX3_copyFrom_21 rfl ?_
  refine gx_getR fl_X3_15 (shL h0) rfl dX3_copyFrom_22 ?_
  refine gx_iconst (x := 0) (by decide) dX3_copyFrom_25 ?_
  refine gx_sipush (x := 192) (by decide) dX3_copyFrom_26 ?_
  refine gx_copyL (sp' := 0) (dp' := 0) (n' := 192) mw774 mw665 mw664 mw188 (shL2 h1) (shL2 h0) (by decide) (by decide) (by decide) (by decide) (by omega) (Nat.le_of_ble_eq_true rfl) dX3_copyFrom_29 ?_
  refine gx_aload_n dX3_copyFrom_32 rfl ?_
  refine gx_aload_n dX3_copyFrom_33 rfl ?_
  refine gx_getI fl_X3_18 (shL h1) rfl dX3_copyFrom_34 ?_
  refine gx_putI fl_X3_18 fp_X3_2 (shL h0) rfl dX3_copyFrom_37 ?_
  exact gx_vret rfl rfl dX3_copyFrom_40
theorem c_X3_copyFrom (d : Nat) (hd : 1 ≤ d) (o0 : Nat) (h0 : isLd o0) (o1 : Nat) (h1 : isLd o1) (M : HMem) : MX iX3_copyFrom d [.inr (some o0), .inr (some o1)] M eV (some (f_X3_copyFrom o0 o1 M)) := mx_of (by decide +kernel) (Nat.le_of_ble_eq_true rfl) rfl (w_X3_copyFrom d hd o0 h0 o1 h1 M)
-- X3_cover
def f_X3_cover (o0 : Nat) (v1 : Int32) (v2 : Int32) (v3 : Int32) (M : HMem) : Option HMem :=
  if (f_X11_isPlace v1) = 0 then
    (some M)
  else
    (if hib v1 192 then
    if hib v1 192 then
    some (hset (hset M (o0 + 1) (Int32.toNatClampNeg v1) v2) (o0 + 2) (Int32.toNatClampNeg v1) v3)
    else none
    else none)
set_option maxRecDepth 20000 in
theorem w_X3_cover (d : Nat) (hd : 1 ≤ d) (o0 : Nat) (h0 : isLd o0) (v1 : Int32) (v2 : Int32) (v3 : Int32) (M : HMem) : GX iX3_cover d eV (f_X3_cover o0 v1 v2 v3 M) 0 [some (.inr (some o0)), some (.inl v1), some (.inl v2), some (.inl v3)] [] M := by
  rw [f_X3_cover]
  refine gx_iload_n dX3_cover_0 rfl ?_
  refine gx_cS_it (av := [.inl v1]) (st := []) ml_X3_34 (by omega) (c_X11_isPlace (d - 1) (by omega) v1 M) rfl rfl (Nat.le_of_ble_eq_true rfl) dX3_cover_1 ?_
  refine gx_if_eq (tgt := 21) dX3_cover_4 (by decide) ?_ ?_
  · exact gx_vret rfl rfl dX3_cover_21
  refine gx_aload_n dX3_cover_7 rfl ?_
  refine gx_getR fl_X3_9 (shL h0) rfl dX3_cover_8 ?_
  refine gx_iload_n dX3_cover_11 rfl ?_
  refine gx_iload_n dX3_cover_12 rfl ?_
  refine gx_iastore (shL1 h0) dX3_cover_13 ?_
  refine gx_aload_n dX3_cover_14 rfl ?_
  refine gx_getR fl_X3_15 (shL h0) rfl dX3_cover_15 ?_
  refine gx_iload_n dX3_cover_18 rfl ?_
  refine gx_iload_n dX3_cover_19 rfl ?_
  refine gx_iastore (shL2 h0) dX3_cover_20 ?_
  exact gx_vret rfl rfl dX3_cover_21
theorem c_X3_cover (d : Nat) (hd : 1 ≤ d) (o0 : Nat) (h0 : isLd o0) (v1 : Int32) (v2 : Int32) (v3 : Int32) (M : HMem) : MX iX3_cover d [.inr (some o0), .inl v1, .inl v2, .inl v3] M eV (f_X3_cover o0 v1 v2 v3 M) := mx_of (by decide +kernel) (Nat.le_of_ble_eq_true rfl) rfl (w_X3_cover d hd o0 h0 v1 v2 v3 M)
-- X3_penceAt
def f_X3_penceAt (o0 : Nat) (v1 : Int32) (M : HMem) : Option Int32 :=
  if (f_X11_isPlace v1) = 0 then
    (some 0)
  else
    (if hib v1 192 then
    some (M (o0 + 2) (Int32.toNatClampNeg v1))
    else none)
set_option maxRecDepth 20000 in
theorem w_X3_penceAt (d : Nat) (hd : 1 ≤ d) (o0 : Nat) (h0 : isLd o0) (v1 : Int32) (M : HMem) : GX iX3_penceAt d (eP M) (f_X3_penceAt o0 v1 M) 0 [some (.inr (some o0)), some (.inl v1)] [] M := by
  rw [f_X3_penceAt]
  refine gx_iload_n dX3_penceAt_0 rfl ?_
  refine gx_cS_it (av := [.inl v1]) (st := []) ml_X3_34 (by omega) (c_X11_isPlace (d - 1) (by omega) v1 M) rfl rfl (Nat.le_of_ble_eq_true rfl) dX3_penceAt_1 ?_
  refine gx_if_eq (tgt := 16) dX3_penceAt_4 (by decide) ?_ ?_
  · refine gx_iconst (x := 0) (by decide) dX3_penceAt_16 ?_
    exact gx_iret rfl rfl dX3_penceAt_17
  refine gx_aload_n dX3_penceAt_7 rfl ?_
  refine gx_getR fl_X3_15 (shL h0) rfl dX3_penceAt_8 ?_
  refine gx_iload_n dX3_penceAt_11 rfl ?_
  refine gx_iaload (shL2 h0) dX3_penceAt_12 ?_
  refine gx_goto (tgt := 17) dX3_penceAt_13 (by decide) ?_
  exact gx_iret rfl rfl dX3_penceAt_17
theorem c_X3_penceAt (d : Nat) (hd : 1 ≤ d) (o0 : Nat) (h0 : isLd o0) (v1 : Int32) (M : HMem) : MX iX3_penceAt d [.inr (some o0), .inl v1] M (eP M) (f_X3_penceAt o0 v1 M) := mx_of (by decide +kernel) (Nat.le_of_ble_eq_true rfl) rfl (w_X3_penceAt d hd o0 h0 v1 M)
-- X10_sign
def f_X10_sign  (M : HMem) : Option Int32 :=
  if (M 1 4) = 0 then
    (if (M 1 2) ≤ (M 1 3) then
      (some (-1))
    else
      (if 260 ≤ (M 1 3) then
        (some (-1))
      else
        (if hib (M 1 3) 260 then
        some (M 2 (Int32.toNatClampNeg (M 1 3)))
        else none)))
  else
    (some (-1))
set_option maxRecDepth 20000 in
theorem w_X10_sign (d : Nat) (hd : 0 ≤ d)  (M : HMem) : GX iX10_sign d (eP M) (f_X10_sign  M) 0 [some (.inr (some 1))] [] M := by
  rw [f_X10_sign]
  refine gx_aload_n dX10_sign_0 rfl ?_
  refine gx_getI fl_X10_25 sh1 rfl dX10_sign_1 ?_
  refine gx_if_ne (tgt := 42) dX10_sign_4 (by decide) ?_ ?_
  · refine gx_iconst (x := (-1)) (by decide) dX10_sign_42 ?_
    exact gx_iret rfl rfl dX10_sign_43
  refine gx_aload_n dX10_sign_7 rfl ?_
  refine gx_getI fl_X10_22 sh1 rfl dX10_sign_8 ?_
  refine gx_aload_n dX10_sign_11 rfl ?_
  refine gx_getI fl_X10_19 sh1 rfl dX10_sign_12 ?_
  refine gx_icmp_ge (tgt := 42) dX10_sign_15 (by decide) ?_ ?_
  · refine gx_iconst (x := (-1)) (by decide) dX10_sign_42 ?_
    exact gx_iret rfl rfl dX10_sign_43
  refine gx_aload_n dX10_sign_18 rfl ?_
  refine gx_getI fl_X10_22 sh1 rfl dX10_sign_19 ?_
  refine gx_aload_n dX10_sign_22 rfl ?_
  refine gx_getR fl_X10_9 sh1 rfl dX10_sign_23 ?_
  refine gx_alen (x := 260) sh2 (by decide) (by decide) dX10_sign_26 ?_
  refine gx_icmp_ge (tgt := 42) dX10_sign_27 (by decide) ?_ ?_
  · refine gx_iconst (x := (-1)) (by decide) dX10_sign_42 ?_
    exact gx_iret rfl rfl dX10_sign_43
  refine gx_aload_n dX10_sign_30 rfl ?_
  refine gx_getR fl_X10_9 sh1 rfl dX10_sign_31 ?_
  refine gx_aload_n dX10_sign_34 rfl ?_
  refine gx_getI fl_X10_22 sh1 rfl dX10_sign_35 ?_
  refine gx_iaload sh2 dX10_sign_38 ?_
  refine gx_goto (tgt := 43) dX10_sign_39 (by decide) ?_
  exact gx_iret rfl rfl dX10_sign_43
theorem c_X10_sign (d : Nat) (hd : 0 ≤ d)  (M : HMem) : MX iX10_sign d [.inr (some 1)] M (eP M) (f_X10_sign  M) := mx_of (by decide +kernel) (Nat.le_of_ble_eq_true rfl) rfl (w_X10_sign d hd  M)
-- X4_kindOf
def f_X4_kindOf (v0 : Int32) : Int32 :=
  if v0 = 126 then
    (1)
  else
    (if v0 < 97 then
      (0)
    else
      (if 104 < v0 then
        (0)
      else
        (((2 + v0) - 97))))
set_option maxRecDepth 20000 in
theorem w_X4_kindOf (d : Nat) (hd : 0 ≤ d) (v0 : Int32) (M : HMem) : GX iX4_kindOf d (eP M) (some (f_X4_kindOf v0)) 0 [some (.inl v0)] [] M := by
  rw [f_X4_kindOf]
  refine gx_iload_n dX4_kindOf_0 rfl ?_
  refine gx_bipush (x := 126) (by decide) dX4_kindOf_1 ?_
  refine gxt_icmp_ne (tgt := 8) dX4_kindOf_3 (by decide) ?_ ?_
  · refine gx_iload_n dX4_kindOf_8 rfl ?_
    refine gx_bipush (x := 97) (by decide) dX4_kindOf_9 ?_
    refine gxt_icmp_lt (tgt := 29) dX4_kindOf_11 (by decide) ?_ ?_
    · refine gx_iconst (x := 0) (by decide) dX4_kindOf_29 ?_
      exact gx_iret rfl rfl dX4_kindOf_30
    refine gx_iload_n dX4_kindOf_14 rfl ?_
    refine gx_bipush (x := 104) (by decide) dX4_kindOf_15 ?_
    refine gxt_icmp_gt (tgt := 29) dX4_kindOf_17 (by decide) ?_ ?_
    · refine gx_iconst (x := 0) (by decide) dX4_kindOf_29 ?_
      exact gx_iret rfl rfl dX4_kindOf_30
    refine gx_iconst (x := 2) (by decide) dX4_kindOf_20 ?_
    refine gx_iload_n dX4_kindOf_21 rfl ?_
    refine gx_iadd dX4_kindOf_22 ?_
    refine gx_bipush (x := 97) (by decide) dX4_kindOf_23 ?_
    refine gx_isub dX4_kindOf_25 ?_
    refine gx_goto (tgt := 30) dX4_kindOf_26 (by decide) ?_
    exact gx_iret rfl rfl dX4_kindOf_30
  refine gx_iconst (x := 1) (by decide) dX4_kindOf_6 ?_
  exact gx_iret rfl rfl dX4_kindOf_7
theorem c_X4_kindOf (d : Nat) (hd : 0 ≤ d) (v0 : Int32) (M : HMem) : MX iX4_kindOf d [.inl v0] M (eP M) (some (f_X4_kindOf v0)) := mx_of (by decide +kernel) (Nat.le_of_ble_eq_true rfl) rfl (w_X4_kindOf d hd v0 M)
-- X10_failHere
def f_X10_failHere (v1 : Int32) (M : HMem) : HMem :=
  if (M 1 4) = 0 then
    (hset (hset M 1 4 v1) 1 5 ((hset M 1 4 v1) 1 3))
  else
    (M)
set_option maxRecDepth 20000 in
theorem w_X10_failHere (d : Nat) (hd : 0 ≤ d) (v1 : Int32) (M : HMem) : GX iX10_failHere d eV (some (f_X10_failHere v1 M)) 0 [some (.inr (some 1)), some (.inl v1)] [] M := by
  rw [f_X10_failHere]
  refine gx_aload_n dX10_failHere_0 rfl ?_
  refine gx_getI fl_X10_25 sh1 rfl dX10_failHere_1 ?_
  refine gxt_if_ne (tgt := 20) dX10_failHere_4 (by decide) ?_ ?_
  · exact gx_vret rfl rfl dX10_failHere_20
  refine gx_aload_n dX10_failHere_7 rfl ?_
  refine gx_iload_n dX10_failHere_8 rfl ?_
  refine gx_putI fl_X10_25 fp_X10_4 sh1 rfl dX10_failHere_9 ?_
  refine gx_aload_n dX10_failHere_12 rfl ?_
  refine gx_aload_n dX10_failHere_13 rfl ?_
  refine gx_getI fl_X10_22 sh1 rfl dX10_failHere_14 ?_
  refine gx_putI fl_X10_28 fp_X10_5 sh1 rfl dX10_failHere_17 ?_
  exact gx_vret rfl rfl dX10_failHere_20
theorem c_X10_failHere (d : Nat) (hd : 0 ≤ d) (v1 : Int32) (M : HMem) : MX iX10_failHere d [.inr (some 1), .inl v1] M eV (some (f_X10_failHere v1 M)) := mx_of (by decide +kernel) (Nat.le_of_ble_eq_true rfl) rfl (w_X10_failHere d hd v1 M)
-- X10_pass
def f_X10_pass  (M : HMem) : HMem :=
  if (M 1 2) ≤ (M 1 3) then
    (M)
  else
    (hset M 1 3 ((M 1 3) + 1))
set_option maxRecDepth 20000 in
theorem w_X10_pass (d : Nat) (hd : 0 ≤ d)  (M : HMem) : GX iX10_pass d eV (some (f_X10_pass  M)) 0 [some (.inr (some 1))] [] M := by
  rw [f_X10_pass]
  refine gx_aload_n dX10_pass_0 rfl ?_
  refine gx_getI fl_X10_22 sh1 rfl dX10_pass_1 ?_
  refine gx_aload_n dX10_pass_4 rfl ?_
  refine gx_getI fl_X10_19 sh1 rfl dX10_pass_5 ?_
  refine gxt_icmp_ge (tgt := 21) dX10_pass_8 (by decide) ?_ ?_
  · exact gx_vret rfl rfl dX10_pass_21
  refine gx_aload_n dX10_pass_11 rfl ?_
  refine gx_dup dX10_pass_12 ?_
  refine gx_getI fl_X10_22 sh1 rfl dX10_pass_13 ?_
  refine gx_iconst (x := 1) (by decide) dX10_pass_16 ?_
  refine gx_iadd dX10_pass_17 ?_
  refine gx_putI fl_X10_22 fp_X10_3 sh1 rfl dX10_pass_18 ?_
  exact gx_vret rfl rfl dX10_pass_21
theorem c_X10_pass (d : Nat) (hd : 0 ≤ d)  (M : HMem) : MX iX10_pass d [.inr (some 1)] M eV (some (f_X10_pass  M)) := mx_of (by decide +kernel) (Nat.le_of_ble_eq_true rfl) rfl (w_X10_pass d hd  M)
-- X10_isDigit
def f_X10_isDigit (v0 : Int32) : Int32 :=
  if v0 < 48 then
    (0)
  else
    (if 57 < v0 then
      (0)
    else
      (1))
set_option maxRecDepth 20000 in
theorem w_X10_isDigit (d : Nat) (hd : 0 ≤ d) (v0 : Int32) (M : HMem) : GX iX10_isDigit d (eP M) (some (f_X10_isDigit v0)) 0 [some (.inl v0)] [] M := by
  rw [f_X10_isDigit]
  refine gx_iload_n dX10_isDigit_0 rfl ?_
  refine gx_bipush (x := 48) (by decide) dX10_isDigit_1 ?_
  refine gxt_icmp_lt (tgt := 16) dX10_isDigit_3 (by decide) ?_ ?_
  · refine gx_iconst (x := 0) (by decide) dX10_isDigit_16 ?_
    exact gx_zret rfl (by decide) rfl dX10_isDigit_17
  refine gx_iload_n dX10_isDigit_6 rfl ?_
  refine gx_bipush (x := 57) (by decide) dX10_isDigit_7 ?_
  refine gxt_icmp_gt (tgt := 16) dX10_isDigit_9 (by decide) ?_ ?_
  · refine gx_iconst (x := 0) (by decide) dX10_isDigit_16 ?_
    exact gx_zret rfl (by decide) rfl dX10_isDigit_17
  refine gx_iconst (x := 1) (by decide) dX10_isDigit_12 ?_
  refine gx_goto (tgt := 17) dX10_isDigit_13 (by decide) ?_
  exact gx_zret rfl (by decide) rfl dX10_isDigit_17
theorem c_X10_isDigit (d : Nat) (hd : 0 ≤ d) (v0 : Int32) (M : HMem) : MX iX10_isDigit d [.inl v0] M (eP M) (some (f_X10_isDigit v0)) := mx_of (by decide +kernel) (Nat.le_of_ble_eq_true rfl) rfl (w_X10_isDigit d hd v0 M)
-- X10_number
def f_X10_number_J59 (n : Nat) (v2 : Int32) (M : HMem) : Option (Int32 × HMem) :=
  hb1 (f_X10_sign  M) (fun x101 =>
  if (f_X10_isDigit x101) = 0 then
    (some (v2, M))
  else
    (some (v2, f_X10_failHere 2 M)))
set_option maxRecDepth 20000 in
theorem w_X10_number_J59 (d : Nat) (hd : 1 ≤ d) (n : Nat) (M : HMem) (v2 : Int32) : GX iX10_number d eI (f_X10_number_J59 n v2 M) 59 [some (.inr (some 1)), none, some (.inl v2), none] [] M := by
  rw [f_X10_number_J59]
  refine gx_aload_n dX10_number_59 rfl ?_
  refine gx_cV_ip (av := []) (st := []) ml_X10_35 (by omega) sh1 (c_X10_sign (d - 1) (by omega)  M) rfl rfl (Nat.le_of_ble_eq_true rfl) dX10_number_60 (fun x101 => ?_)
  refine gx_cS_it (av := [.inl x101]) (st := []) ml_X10_46 (by omega) (c_X10_isDigit (d - 1) (by omega) x101 M) rfl rfl (Nat.le_of_ble_eq_true rfl) dX10_number_63 ?_
  refine gx_if_eq (tgt := 74) dX10_number_66 (by decide) ?_ ?_
  · refine gx_iload_n dX10_number_74 rfl ?_
    exact gx_iret rfl rfl dX10_number_75
  refine gx_aload_n dX10_number_69 rfl ?_
  refine gx_iconst (x := 2) (by decide) dX10_number_70 ?_
  refine gx_cV_vt (av := [.inl 2]) (st := []) ml_X10_42 (by omega) sh1 (c_X10_failHere (d - 1) (by omega) 2 M) rfl rfl (Nat.le_of_ble_eq_true rfl) dX10_number_71 ?_
  refine gx_iload_n dX10_number_74 rfl ?_
  exact gx_iret rfl rfl dX10_number_75
def f_X10_number_L21 (n : Nat) (v1 : Int32) : Nat → Int32 → Int32 → HMem → Option (Int32 × HMem)
  | 0, _, _, _ => none
  | k + 1, v2, v3, M =>
    if v1 ≤ v3 then
      (f_X10_number_J59 n v2 M)
    else
      (hb1 (f_X10_sign  M) (fun x101 =>
      if (f_X10_isDigit x101) = 0 then
        (f_X10_number_J59 n v2 M)
      else
        (hb1 (f_X10_sign  M) (fun x102 =>
        f_X10_number_L21 n v1 k (((10 * v2) + x102) - 48) (v3 + 1) (f_X10_pass  M)))))
set_option maxRecDepth 20000 in
theorem w_X10_number_L21 (d : Nat) (hd : 1 ≤ d) (n : Nat) (v1 : Int32) : ∀ (k : Nat) (v2 : Int32) (v3 : Int32) (M : HMem), GX iX10_number d eI (f_X10_number_L21 n v1 k v2 v3 M) 21 [some (.inr (some 1)), some (.inl v1), some (.inl v2), some (.inl v3)] [] M := by
  intro k
  induction k with
  | zero => intro v2 v3 M; exact gx_none
  | succ k ih =>
    intro v2 v3 M
    rw [f_X10_number_L21]
    refine gx_iload_n dX10_number_21 rfl ?_
    refine gx_iload_n dX10_number_22 rfl ?_
    refine gx_icmp_ge (tgt := 59) dX10_number_23 (by decide) ?_ ?_
    · refine gx_mk (lv' := [some (.inr (some 1)), none, some (.inl v2), none]) [true, false, true, false] rfl ?_
      exact w_X10_number_J59 d hd n M v2
    refine gx_aload_n dX10_number_26 rfl ?_
    refine gx_cV_ip (av := []) (st := []) ml_X10_35 (by omega) sh1 (c_X10_sign (d - 1) (by omega)  M) rfl rfl (Nat.le_of_ble_eq_true rfl) dX10_number_27 (fun x101 => ?_)
    refine gx_cS_it (av := [.inl x101]) (st := []) ml_X10_46 (by omega) (c_X10_isDigit (d - 1) (by omega) x101 M) rfl rfl (Nat.le_of_ble_eq_true rfl) dX10_number_30 ?_
    refine gx_if_eq (tgt := 59) dX10_number_33 (by decide) ?_ ?_
    · refine gx_mk (lv' := [some (.inr (some 1)), none, some (.inl v2), none]) [true, false, true, false] rfl ?_
      exact w_X10_number_J59 d hd n M v2
    refine gx_bipush (x := 10) (by decide) dX10_number_36 ?_
    refine gx_iload_n dX10_number_38 rfl ?_
    refine gx_imul dX10_number_39 ?_
    refine gx_aload_n dX10_number_40 rfl ?_
    refine gx_cV_ip (av := []) (st := [.inl (10 * v2)]) ml_X10_35 (by omega) sh1 (c_X10_sign (d - 1) (by omega)  M) rfl rfl (Nat.le_of_ble_eq_true rfl) dX10_number_41 (fun x102 => ?_)
    refine gx_iadd dX10_number_44 ?_
    refine gx_bipush (x := 48) (by decide) dX10_number_45 ?_
    refine gx_isub dX10_number_47 ?_
    refine gx_istore_n (lv' := [some (.inr (some 1)), some (.inl v1), some (.inl (((10 * v2) + x102) - 48)), some (.inl v3)]) dX10_number_48 (by decide) rfl ?_
    refine gx_aload_n dX10_number_49 rfl ?_
    refine gx_cV_vt (av := []) (st := []) ml_X10_39 (by omega) sh1 (c_X10_pass (d - 1) (by omega)  M) rfl rfl (Nat.le_of_ble_eq_true rfl) dX10_number_50 ?_
    refine gx_iinc (y := v3 + 1) (lv' := [some (.inr (some 1)), some (.inl v1), some (.inl (((10 * v2) + x102) - 48)), some (.inl (v3 + 1))]) dX10_number_53 rfl rfl (by decide) rfl ?_
    refine gx_goto (tgt := 21) dX10_number_56 (by decide) ?_
    refine gx_mk (lv' := [some (.inr (some 1)), some (.inl v1), some (.inl (((10 * v2) + x102) - 48)), some (.inl (v3 + 1))]) [true, true, true, true] rfl ?_
    exact ih (((10 * v2) + x102) - 48) (v3 + 1) (f_X10_pass  M)
def f_X10_number (n : Nat) (v1 : Int32) (M : HMem) : Option (Int32 × HMem) :=
  hb1 (f_X10_sign  M) (fun x101 =>
  if (f_X10_isDigit x101) = 0 then
    (some (0, f_X10_failHere 1 M))
  else
    (f_X10_number_L21 n v1 n 0 0 M))
set_option maxRecDepth 20000 in
theorem w_X10_number (d : Nat) (hd : 1 ≤ d) (n : Nat) (v1 : Int32) (M : HMem) : GX iX10_number d eI (f_X10_number n v1 M) 0 [some (.inr (some 1)), some (.inl v1), none, none] [] M := by
  rw [f_X10_number]
  refine gx_aload_n dX10_number_0 rfl ?_
  refine gx_cV_ip (av := []) (st := []) ml_X10_35 (by omega) sh1 (c_X10_sign (d - 1) (by omega)  M) rfl rfl (Nat.le_of_ble_eq_true rfl) dX10_number_1 (fun x101 => ?_)
  refine gx_cS_it (av := [.inl x101]) (st := []) ml_X10_46 (by omega) (c_X10_isDigit (d - 1) (by omega) x101 M) rfl rfl (Nat.le_of_ble_eq_true rfl) dX10_number_4 ?_
  refine gx_if_ne (tgt := 17) dX10_number_7 (by decide) ?_ ?_
  · refine gx_iconst (x := 0) (by decide) dX10_number_17 ?_
    refine gx_istore_n (lv' := [some (.inr (some 1)), some (.inl v1), some (.inl 0), none]) dX10_number_18 (by decide) rfl ?_
    refine gx_iconst (x := 0) (by decide) dX10_number_19 ?_
    refine gx_istore_n (lv' := [some (.inr (some 1)), some (.inl v1), some (.inl 0), some (.inl 0)]) dX10_number_20 (by decide) rfl ?_
    refine gx_mk (lv' := [some (.inr (some 1)), some (.inl v1), some (.inl 0), some (.inl 0)]) [true, true, true, true] rfl ?_
    exact w_X10_number_L21 d hd n v1 n 0 0 M
  refine gx_aload_n dX10_number_10 rfl ?_
  refine gx_iconst (x := 1) (by decide) dX10_number_11 ?_
  refine gx_cV_vt (av := [.inl 1]) (st := []) ml_X10_42 (by omega) sh1 (c_X10_failHere (d - 1) (by omega) 1 M) rfl rfl (Nat.le_of_ble_eq_true rfl) dX10_number_12 ?_
  refine gx_iconst (x := 0) (by decide) dX10_number_15 ?_
  exact gx_iret rfl rfl dX10_number_16
theorem c_X10_number (d : Nat) (hd : 1 ≤ d) (n : Nat) (v1 : Int32) (M : HMem) : MX iX10_number d [.inr (some 1), .inl v1] M eI (f_X10_number n v1 M) := mx_of (by decide +kernel) (Nat.le_of_ble_eq_true rfl) rfl (w_X10_number d hd n v1 M)
-- X10_failAt
def f_X10_failAt (v1 : Int32) (v2 : Int32) (M : HMem) : HMem :=
  if (M 1 4) = 0 then
    (hset (hset M 1 4 v1) 1 5 v2)
  else
    (M)
set_option maxRecDepth 20000 in
theorem w_X10_failAt (d : Nat) (hd : 0 ≤ d) (v1 : Int32) (v2 : Int32) (M : HMem) : GX iX10_failAt d eV (some (f_X10_failAt v1 v2 M)) 0 [some (.inr (some 1)), some (.inl v1), some (.inl v2)] [] M := by
  rw [f_X10_failAt]
  refine gx_aload_n dX10_failAt_0 rfl ?_
  refine gx_getI fl_X10_25 sh1 rfl dX10_failAt_1 ?_
  refine gxt_if_ne (tgt := 17) dX10_failAt_4 (by decide) ?_ ?_
  · exact gx_vret rfl rfl dX10_failAt_17
  refine gx_aload_n dX10_failAt_7 rfl ?_
  refine gx_iload_n dX10_failAt_8 rfl ?_
  refine gx_putI fl_X10_25 fp_X10_4 sh1 rfl dX10_failAt_9 ?_
  refine gx_aload_n dX10_failAt_12 rfl ?_
  refine gx_iload_n dX10_failAt_13 rfl ?_
  refine gx_putI fl_X10_28 fp_X10_5 sh1 rfl dX10_failAt_14 ?_
  exact gx_vret rfl rfl dX10_failAt_17
theorem c_X10_failAt (d : Nat) (hd : 0 ≤ d) (v1 : Int32) (v2 : Int32) (M : HMem) : MX iX10_failAt d [.inr (some 1), .inl v1, .inl v2] M eV (some (f_X10_failAt v1 v2 M)) := mx_of (by decide +kernel) (Nat.le_of_ble_eq_true rfl) rfl (w_X10_failAt d hd v1 v2 M)
-- X4_readBounded
def f_X4_readBounded (n : Nat) (v1 : Int32) (v2 : Int32) (M : HMem) : Option (Int32 × HMem) :=
  hb2 (f_X10_number n 2 M) (fun x101 M102 =>
  if x101 < v1 then
    (some (x101, f_X10_failAt 3 (M 1 3) M102))
  else
    (if x101 ≤ v2 then
      (some (x101, M102))
    else
      (some (x101, f_X10_failAt 3 (M 1 3) M102))))
set_option maxRecDepth 20000 in
theorem w_X4_readBounded (d : Nat) (hd : 2 ≤ d) (n : Nat) (v1 : Int32) (v2 : Int32) (M : HMem) : GX iX4_readBounded d eI (f_X4_readBounded n v1 v2 M) 0 [some (.inr (some 10)), some (.inl v1), some (.inl v2), none, none] [] M := by
  rw [f_X4_readBounded]
  refine gx_aload_n dX4_readBounded_0 rfl ?_
  refine gx_getR fl_X4_18 sh10 rfl dX4_readBounded_1 ?_
  refine gx_getI fl_X4_77 sh1 rfl dX4_readBounded_4 ?_
  refine gx_istore_n (lv' := [some (.inr (some 10)), some (.inl v1), some (.inl v2), some (.inl (M 1 3)), none]) dX4_readBounded_7 (by decide) rfl ?_
  refine gx_aload_n dX4_readBounded_8 rfl ?_
  refine gx_getR fl_X4_18 sh10 rfl dX4_readBounded_9 ?_
  refine gx_iconst (x := 2) (by decide) dX4_readBounded_12 ?_
  refine gx_cV_im (av := [.inl 2]) (st := []) ml_X4_80 (by omega) sh1 (c_X10_number (d - 1) (by omega) n 2 M) rfl rfl (Nat.le_of_ble_eq_true rfl) dX4_readBounded_13 (fun x101 M102 => ?_)
  refine gx_istore (lv' := [some (.inr (some 10)), some (.inl v1), some (.inl v2), some (.inl (M 1 3)), some (.inl x101)]) dX4_readBounded_16 (by decide) rfl ?_
  refine gx_iload dX4_readBounded_18 rfl ?_
  refine gx_iload_n dX4_readBounded_20 rfl ?_
  refine gx_icmp_lt (tgt := 30) dX4_readBounded_21 (by decide) ?_ ?_
  · refine gx_aload_n dX4_readBounded_30 rfl ?_
    refine gx_getR fl_X4_18 sh10 rfl dX4_readBounded_31 ?_
    refine gx_iconst (x := 3) (by decide) dX4_readBounded_34 ?_
    refine gx_iload_n dX4_readBounded_35 rfl ?_
    refine gx_cV_vt (av := [.inl 3, .inl (M 1 3)]) (st := []) ml_X4_83 (by omega) sh1 (c_X10_failAt (d - 1) (by omega) 3 (M 1 3) M102) rfl rfl (Nat.le_of_ble_eq_true rfl) dX4_readBounded_36 ?_
    refine gx_iload dX4_readBounded_39 rfl ?_
    exact gx_iret rfl rfl dX4_readBounded_41
  refine gx_iload dX4_readBounded_24 rfl ?_
  refine gx_iload_n dX4_readBounded_26 rfl ?_
  refine gx_icmp_le (tgt := 39) dX4_readBounded_27 (by decide) ?_ ?_
  · refine gx_iload dX4_readBounded_39 rfl ?_
    exact gx_iret rfl rfl dX4_readBounded_41
  refine gx_aload_n dX4_readBounded_30 rfl ?_
  refine gx_getR fl_X4_18 sh10 rfl dX4_readBounded_31 ?_
  refine gx_iconst (x := 3) (by decide) dX4_readBounded_34 ?_
  refine gx_iload_n dX4_readBounded_35 rfl ?_
  refine gx_cV_vt (av := [.inl 3, .inl (M 1 3)]) (st := []) ml_X4_83 (by omega) sh1 (c_X10_failAt (d - 1) (by omega) 3 (M 1 3) M102) rfl rfl (Nat.le_of_ble_eq_true rfl) dX4_readBounded_36 ?_
  refine gx_iload dX4_readBounded_39 rfl ?_
  exact gx_iret rfl rfl dX4_readBounded_41
theorem c_X4_readBounded (d : Nat) (hd : 2 ≤ d) (n : Nat) (v1 : Int32) (v2 : Int32) (M : HMem) : MX iX4_readBounded d [.inr (some 10), .inl v1, .inl v2] M eI (f_X4_readBounded n v1 v2 M) := mx_of (by decide +kernel) (Nat.le_of_ble_eq_true rfl) rfl (w_X4_readBounded d hd n v1 v2 M)
-- X10_expect
def f_X10_expect (v1 : Int32) (M : HMem) : Option HMem :=
  hb1 (f_X10_sign  M) (fun x101 =>
  if x101 = v1 then
    (some (f_X10_pass  M))
  else
    (some (f_X10_failHere 1 M)))
set_option maxRecDepth 20000 in
theorem w_X10_expect (d : Nat) (hd : 1 ≤ d) (v1 : Int32) (M : HMem) : GX iX10_expect d eV (f_X10_expect v1 M) 0 [some (.inr (some 1)), some (.inl v1)] [] M := by
  rw [f_X10_expect]
  refine gx_aload_n dX10_expect_0 rfl ?_
  refine gx_cV_ip (av := []) (st := []) ml_X10_35 (by omega) sh1 (c_X10_sign (d - 1) (by omega)  M) rfl rfl (Nat.le_of_ble_eq_true rfl) dX10_expect_1 (fun x101 => ?_)
  refine gx_iload_n dX10_expect_4 rfl ?_
  refine gx_icmp_ne (tgt := 15) dX10_expect_5 (by decide) ?_ ?_
  · refine gx_aload_n dX10_expect_15 rfl ?_
    refine gx_iconst (x := 1) (by decide) dX10_expect_16 ?_
    refine gx_cV_vt (av := [.inl 1]) (st := []) ml_X10_42 (by omega) sh1 (c_X10_failHere (d - 1) (by omega) 1 M) rfl rfl (Nat.le_of_ble_eq_true rfl) dX10_expect_17 ?_
    exact gx_vret rfl rfl dX10_expect_20
  refine gx_aload_n dX10_expect_8 rfl ?_
  refine gx_cV_vt (av := []) (st := []) ml_X10_39 (by omega) sh1 (c_X10_pass (d - 1) (by omega)  M) rfl rfl (Nat.le_of_ble_eq_true rfl) dX10_expect_9 ?_
  refine gx_goto (tgt := 20) dX10_expect_12 (by decide) ?_
  exact gx_vret rfl rfl dX10_expect_20
theorem c_X10_expect (d : Nat) (hd : 1 ≤ d) (v1 : Int32) (M : HMem) : MX iX10_expect d [.inr (some 1), .inl v1] M eV (f_X10_expect v1 M) := mx_of (by decide +kernel) (Nat.le_of_ble_eq_true rfl) rfl (w_X10_expect d hd v1 M)
-- X4_readCharge
def f_X4_readCharge (n : Nat)  (M : HMem) : Option (Int32 × HMem) :=
  hb1 (f_X10_expect 61 M) (fun M101 =>
  hb2 (f_X10_number n 2 M101) (fun x102 M103 =>
  some (x102, M103)))
set_option maxRecDepth 20000 in
theorem w_X4_readCharge (d : Nat) (hd : 2 ≤ d) (n : Nat)  (M : HMem) : GX iX4_readCharge d eI (f_X4_readCharge n  M) 0 [some (.inr (some 10))] [] M := by
  rw [f_X4_readCharge]
  refine gx_aload_n dX4_readCharge_0 rfl ?_
  refine gx_getR fl_X4_18 sh10 rfl dX4_readCharge_1 ?_
  refine gx_bipush (x := 61) (by decide) dX4_readCharge_4 ?_
  refine gx_cV_vm (av := [.inl 61]) (st := []) ml_X4_34 (by omega) sh1 (c_X10_expect (d - 1) (by omega) 61 M) rfl rfl (Nat.le_of_ble_eq_true rfl) dX4_readCharge_6 (fun M101 => ?_)
  refine gx_aload_n dX4_readCharge_9 rfl ?_
  refine gx_getR fl_X4_18 sh10 rfl dX4_readCharge_10 ?_
  refine gx_iconst (x := 2) (by decide) dX4_readCharge_13 ?_
  refine gx_cV_im (av := [.inl 2]) (st := []) ml_X4_80 (by omega) sh1 (c_X10_number (d - 1) (by omega) n 2 M101) rfl rfl (Nat.le_of_ble_eq_true rfl) dX4_readCharge_14 (fun x102 M103 => ?_)
  exact gx_iret rfl rfl dX4_readCharge_17
theorem c_X4_readCharge (d : Nat) (hd : 2 ≤ d) (n : Nat)  (M : HMem) : MX iX4_readCharge d [.inr (some 10)] M eI (f_X4_readCharge n  M) := mx_of (by decide +kernel) (Nat.le_of_ble_eq_true rfl) rfl (w_X4_readCharge d hd n  M)
-- X10_isSound
def f_X10_isSound  (M : HMem) : Int32 :=
  if (M 1 4) = 0 then
    (1)
  else
    (0)
set_option maxRecDepth 20000 in
theorem w_X10_isSound (d : Nat) (hd : 0 ≤ d)  (M : HMem) : GX iX10_isSound d (eP M) (some (f_X10_isSound  M)) 0 [some (.inr (some 1))] [] M := by
  rw [f_X10_isSound]
  refine gx_aload_n dX10_isSound_0 rfl ?_
  refine gx_getI fl_X10_25 sh1 rfl dX10_isSound_1 ?_
  refine gxt_if_ne (tgt := 11) dX10_isSound_4 (by decide) ?_ ?_
  · refine gx_iconst (x := 0) (by decide) dX10_isSound_11 ?_
    exact gx_zret rfl (by decide) rfl dX10_isSound_12
  refine gx_iconst (x := 1) (by decide) dX10_isSound_7 ?_
  refine gx_goto (tgt := 12) dX10_isSound_8 (by decide) ?_
  exact gx_zret rfl (by decide) rfl dX10_isSound_12
theorem c_X10_isSound (d : Nat) (hd : 0 ≤ d)  (M : HMem) : MX iX10_isSound d [.inr (some 1)] M (eP M) (some (f_X10_isSound  M)) := mx_of (by decide +kernel) (Nat.le_of_ble_eq_true rfl) rfl (w_X10_isSound d hd  M)
-- X4_readPlaces
def f_X4_readPlaces_L104 (n : Nat) (r94 : Int32 → HMem → Option HMem) (v1 : Int32) (v2 : Int32) (v3 : Int32) (v4 : Int32) (v5 : Int32) (v6 : Int32) (v7 : Int32) : Nat → Int32 → HMem → Option HMem
  | 0, _, _ => none
  | k + 1, v8, M =>
    if v4 ≤ v8 then
      (r94 (v7 + 1) M)
    else
      (hb1 (f_X3_cover 11 (f_X11_placeOf (v2 + v8) (v3 + v7)) v1 v6 M) (fun M101 =>
      f_X4_readPlaces_L104 n r94 v1 v2 v3 v4 v5 v6 v7 k (v8 + 1) M101))
set_option maxRecDepth 20000 in
theorem w_X4_readPlaces_L104 (d : Nat) (hd : 3 ≤ d) (n : Nat) (r94 : Int32 → HMem → Option HMem) (v1 : Int32) (v2 : Int32) (v3 : Int32) (v4 : Int32) (v5 : Int32) (v6 : Int32) (v7 : Int32) (hr94 : ∀ (v7 : Int32) (M : HMem), GX iX4_readPlaces d eV (r94 v7 M) 94 [some (.inr (some 10)), some (.inl v1), some (.inl v2), some (.inl v3), some (.inl v4), some (.inl v5), some (.inl v6), some (.inl v7), none] [] M) : ∀ (k : Nat) (v8 : Int32) (M : HMem), GX iX4_readPlaces d eV (f_X4_readPlaces_L104 n r94 v1 v2 v3 v4 v5 v6 v7 k v8 M) 104 [some (.inr (some 10)), some (.inl v1), some (.inl v2), some (.inl v3), some (.inl v4), some (.inl v5), some (.inl v6), some (.inl v7), some (.inl v8)] [] M := by
  intro k
  induction k with
  | zero => intro v8 M; exact gx_none
  | succ k ih =>
    intro v8 M
    rw [f_X4_readPlaces_L104]
    refine gx_iload dX4_readPlaces_104 rfl ?_
    refine gx_iload dX4_readPlaces_106 rfl ?_
    refine gx_icmp_ge (tgt := 138) dX4_readPlaces_108 (by decide) ?_ ?_
    · refine gx_iinc (y := v7 + 1) (lv' := [some (.inr (some 10)), some (.inl v1), some (.inl v2), some (.inl v3), some (.inl v4), some (.inl v5), some (.inl v6), some (.inl (v7 + 1)), some (.inl v8)]) dX4_readPlaces_138 rfl rfl (by decide) rfl ?_
      refine gx_goto (tgt := 94) dX4_readPlaces_141 (by decide) ?_
      refine gx_mk (lv' := [some (.inr (some 10)), some (.inl v1), some (.inl v2), some (.inl v3), some (.inl v4), some (.inl v5), some (.inl v6), some (.inl (v7 + 1)), none]) [true, true, true, true, true, true, true, true, false] rfl ?_
      exact hr94 (v7 + 1) M
    refine gx_aload_n dX4_readPlaces_111 rfl ?_
    refine gx_getR fl_X4_12 sh10 rfl dX4_readPlaces_112 ?_
    refine gx_iload_n dX4_readPlaces_115 rfl ?_
    refine gx_iload dX4_readPlaces_116 rfl ?_
    refine gx_iadd dX4_readPlaces_118 ?_
    refine gx_iload_n dX4_readPlaces_119 rfl ?_
    refine gx_iload dX4_readPlaces_120 rfl ?_
    refine gx_iadd dX4_readPlaces_122 ?_
    refine gx_cS_it (av := [.inl (v2 + v8), .inl (v3 + v7)]) (st := [.inr (some 11)]) ml_X4_70 (by omega) (c_X11_placeOf (d - 1) (by omega) (v2 + v8) (v3 + v7) M) rfl rfl (Nat.le_of_ble_eq_true rfl) dX4_readPlaces_123 ?_
    refine gx_iload_n dX4_readPlaces_126 rfl ?_
    refine gx_iload dX4_readPlaces_127 rfl ?_
    refine gx_cV_vm (av := [.inl (f_X11_placeOf (v2 + v8) (v3 + v7)), .inl v1, .inl v6]) (st := []) ml_X4_73 (by omega) sh11 (c_X3_cover (d - 1) (by omega) 11 (Or.inr rfl) (f_X11_placeOf (v2 + v8) (v3 + v7)) v1 v6 M) rfl rfl (Nat.le_of_ble_eq_true rfl) dX4_readPlaces_129 (fun M101 => ?_)
    refine gx_iinc (y := v8 + 1) (lv' := [some (.inr (some 10)), some (.inl v1), some (.inl v2), some (.inl v3), some (.inl v4), some (.inl v5), some (.inl v6), some (.inl v7), some (.inl (v8 + 1))]) dX4_readPlaces_132 rfl rfl (by decide) rfl ?_
    refine gx_goto (tgt := 104) dX4_readPlaces_135 (by decide) ?_
    refine gx_mk (lv' := [some (.inr (some 10)), some (.inl v1), some (.inl v2), some (.inl v3), some (.inl v4), some (.inl v5), some (.inl v6), some (.inl v7), some (.inl (v8 + 1))]) [true, true, true, true, true, true, true, true, true] rfl ?_
    exact ih (v8 + 1) M101
def f_X4_readPlaces_L94 (n : Nat) (v1 : Int32) (v2 : Int32) (v3 : Int32) (v4 : Int32) (v5 : Int32) (v6 : Int32) : Nat → Int32 → HMem → Option HMem
  | 0, _, _ => none
  | k + 1, v7, M =>
    if v5 ≤ v7 then
      (some M)
    else
      (f_X4_readPlaces_L104 n (f_X4_readPlaces_L94 n v1 v2 v3 v4 v5 v6 k) v1 v2 v3 v4 v5 v6 v7 n 0 M)
set_option maxRecDepth 20000 in
theorem w_X4_readPlaces_L94 (d : Nat) (hd : 3 ≤ d) (n : Nat) (v1 : Int32) (v2 : Int32) (v3 : Int32) (v4 : Int32) (v5 : Int32) (v6 : Int32) : ∀ (k : Nat) (v7 : Int32) (M : HMem), GX iX4_readPlaces d eV (f_X4_readPlaces_L94 n v1 v2 v3 v4 v5 v6 k v7 M) 94 [some (.inr (some 10)), some (.inl v1), some (.inl v2), some (.inl v3), some (.inl v4), some (.inl v5), some (.inl v6), some (.inl v7), none] [] M := by
  intro k
  induction k with
  | zero => intro v7 M; exact gx_none
  | succ k ih =>
    intro v7 M
    rw [f_X4_readPlaces_L94]
    refine gx_iload dX4_readPlaces_94 rfl ?_
    refine gx_iload dX4_readPlaces_96 rfl ?_
    refine gx_icmp_ge (tgt := 144) dX4_readPlaces_98 (by decide) ?_ ?_
    · exact gx_vret rfl rfl dX4_readPlaces_144
    refine gx_iconst (x := 0) (by decide) dX4_readPlaces_101 ?_
    refine gx_istore (lv' := [some (.inr (some 10)), some (.inl v1), some (.inl v2), some (.inl v3), some (.inl v4), some (.inl v5), some (.inl v6), some (.inl v7), some (.inl 0)]) dX4_readPlaces_102 (by decide) rfl ?_
    refine gx_mk (lv' := [some (.inr (some 10)), some (.inl v1), some (.inl v2), some (.inl v3), some (.inl v4), some (.inl v5), some (.inl v6), some (.inl v7), some (.inl 0)]) [true, true, true, true, true, true, true, true, true] rfl ?_
    exact w_X4_readPlaces_L104 d hd n (f_X4_readPlaces_L94 n v1 v2 v3 v4 v5 v6 k) v1 v2 v3 v4 v5 v6 v7 ih n 0 M
def f_X4_readPlaces (n : Nat) (v1 : Int32) (M : HMem) : Option HMem :=
  hb2 (f_X4_readBounded n 0 15 M) (fun x101 M102 =>
  hb1 (f_X10_expect 44 M102) (fun M103 =>
  hb2 (f_X4_readBounded n 0 11 M103) (fun x104 M105 =>
  hb1 (f_X10_expect 58 M105) (fun M106 =>
  hb2 (f_X4_readBounded n 1 (16 - x101) M106) (fun x107 M108 =>
  hb1 (f_X10_expect 120 M108) (fun M109 =>
  hb2 (f_X4_readBounded n 1 (12 - x104) M109) (fun x110 M111 =>
  if v1 = 1 then
    (if (f_X10_isSound  M111) = 0 then
      (some M111)
    else
      (f_X4_readPlaces_L94 n v1 x101 x104 x107 x110 0 n 0 M111))
  else
    (hb2 (f_X4_readCharge n  M111) (fun x112 M113 =>
    if (f_X10_isSound  M113) = 0 then
      (some M113)
    else
      (f_X4_readPlaces_L94 n v1 x101 x104 x107 x110 x112 n 0 M113))))))))))
set_option maxRecDepth 20000 in
theorem w_X4_readPlaces (d : Nat) (hd : 3 ≤ d) (n : Nat) (v1 : Int32) (M : HMem) : GX iX4_readPlaces d eV (f_X4_readPlaces n v1 M) 0 [some (.inr (some 10)), some (.inl v1), none, none, none, none, none, none, none] [] M := by
  rw [f_X4_readPlaces]
  refine gx_aload_n dX4_readPlaces_0 rfl ?_
  refine gx_iconst (x := 0) (by decide) dX4_readPlaces_1 ?_
  refine gx_bipush (x := 15) (by decide) dX4_readPlaces_2 ?_
  refine gx_cV_im (av := [.inl 0, .inl 15]) (st := []) ml_X4_59 (by omega) sh10 (c_X4_readBounded (d - 1) (by omega) n 0 15 M) rfl rfl (Nat.le_of_ble_eq_true rfl) dX4_readPlaces_4 (fun x101 M102 => ?_)
  refine gx_istore_n (lv' := [some (.inr (some 10)), some (.inl v1), some (.inl x101), none, none, none, none, none, none]) dX4_readPlaces_7 (by decide) rfl ?_
  refine gx_aload_n dX4_readPlaces_8 rfl ?_
  refine gx_getR fl_X4_18 sh10 rfl dX4_readPlaces_9 ?_
  refine gx_bipush (x := 44) (by decide) dX4_readPlaces_12 ?_
  refine gx_cV_vm (av := [.inl 44]) (st := []) ml_X4_34 (by omega) sh1 (c_X10_expect (d - 1) (by omega) 44 M102) rfl rfl (Nat.le_of_ble_eq_true rfl) dX4_readPlaces_14 (fun M103 => ?_)
  refine gx_aload_n dX4_readPlaces_17 rfl ?_
  refine gx_iconst (x := 0) (by decide) dX4_readPlaces_18 ?_
  refine gx_bipush (x := 11) (by decide) dX4_readPlaces_19 ?_
  refine gx_cV_im (av := [.inl 0, .inl 11]) (st := []) ml_X4_59 (by omega) sh10 (c_X4_readBounded (d - 1) (by omega) n 0 11 M103) rfl rfl (Nat.le_of_ble_eq_true rfl) dX4_readPlaces_21 (fun x104 M105 => ?_)
  refine gx_istore_n (lv' := [some (.inr (some 10)), some (.inl v1), some (.inl x101), some (.inl x104), none, none, none, none, none]) dX4_readPlaces_24 (by decide) rfl ?_
  refine gx_aload_n dX4_readPlaces_25 rfl ?_
  refine gx_getR fl_X4_18 sh10 rfl dX4_readPlaces_26 ?_
  refine gx_bipush (x := 58) (by decide) dX4_readPlaces_29 ?_
  refine gx_cV_vm (av := [.inl 58]) (st := []) ml_X4_34 (by omega) sh1 (c_X10_expect (d - 1) (by omega) 58 M105) rfl rfl (Nat.le_of_ble_eq_true rfl) dX4_readPlaces_31 (fun M106 => ?_)
  refine gx_aload_n dX4_readPlaces_34 rfl ?_
  refine gx_iconst (x := 1) (by decide) dX4_readPlaces_35 ?_
  refine gx_bipush (x := 16) (by decide) dX4_readPlaces_36 ?_
  refine gx_iload_n dX4_readPlaces_38 rfl ?_
  refine gx_isub dX4_readPlaces_39 ?_
  refine gx_cV_im (av := [.inl 1, .inl (16 - x101)]) (st := []) ml_X4_59 (by omega) sh10 (c_X4_readBounded (d - 1) (by omega) n 1 (16 - x101) M106) rfl rfl (Nat.le_of_ble_eq_true rfl) dX4_readPlaces_40 (fun x107 M108 => ?_)
  refine gx_istore (lv' := [some (.inr (some 10)), some (.inl v1), some (.inl x101), some (.inl x104), some (.inl x107), none, none, none, none]) dX4_readPlaces_43 (by decide) rfl ?_
  refine gx_aload_n dX4_readPlaces_45 rfl ?_
  refine gx_getR fl_X4_18 sh10 rfl dX4_readPlaces_46 ?_
  refine gx_bipush (x := 120) (by decide) dX4_readPlaces_49 ?_
  refine gx_cV_vm (av := [.inl 120]) (st := []) ml_X4_34 (by omega) sh1 (c_X10_expect (d - 1) (by omega) 120 M108) rfl rfl (Nat.le_of_ble_eq_true rfl) dX4_readPlaces_51 (fun M109 => ?_)
  refine gx_aload_n dX4_readPlaces_54 rfl ?_
  refine gx_iconst (x := 1) (by decide) dX4_readPlaces_55 ?_
  refine gx_bipush (x := 12) (by decide) dX4_readPlaces_56 ?_
  refine gx_iload_n dX4_readPlaces_58 rfl ?_
  refine gx_isub dX4_readPlaces_59 ?_
  refine gx_cV_im (av := [.inl 1, .inl (12 - x104)]) (st := []) ml_X4_59 (by omega) sh10 (c_X4_readBounded (d - 1) (by omega) n 1 (12 - x104) M109) rfl rfl (Nat.le_of_ble_eq_true rfl) dX4_readPlaces_60 (fun x110 M111 => ?_)
  refine gx_istore (lv' := [some (.inr (some 10)), some (.inl v1), some (.inl x101), some (.inl x104), some (.inl x107), some (.inl x110), none, none, none]) dX4_readPlaces_63 (by decide) rfl ?_
  refine gx_iload_n dX4_readPlaces_65 rfl ?_
  refine gx_iconst (x := 1) (by decide) dX4_readPlaces_66 ?_
  refine gx_icmp_ne (tgt := 74) dX4_readPlaces_67 (by decide) ?_ ?_
  · refine gx_aload_n dX4_readPlaces_74 rfl ?_
    refine gx_cV_im (av := []) (st := []) ml_X4_63 (by omega) sh10 (c_X4_readCharge (d - 1) (by omega) n  M111) rfl rfl (Nat.le_of_ble_eq_true rfl) dX4_readPlaces_75 (fun x112 M113 => ?_)
    refine gx_istore (lv' := [some (.inr (some 10)), some (.inl v1), some (.inl x101), some (.inl x104), some (.inl x107), some (.inl x110), some (.inl x112), none, none]) dX4_readPlaces_78 (by decide) rfl ?_
    refine gx_aload_n dX4_readPlaces_80 rfl ?_
    refine gx_getR fl_X4_18 sh10 rfl dX4_readPlaces_81 ?_
    refine gx_cV_it (av := []) (st := []) ml_X4_66 (by omega) sh1 (c_X10_isSound (d - 1) (by omega)  M113) rfl rfl (Nat.le_of_ble_eq_true rfl) dX4_readPlaces_84 ?_
    refine gx_if_ne (tgt := 91) dX4_readPlaces_87 (by decide) ?_ ?_
    · refine gx_iconst (x := 0) (by decide) dX4_readPlaces_91 ?_
      refine gx_istore (lv' := [some (.inr (some 10)), some (.inl v1), some (.inl x101), some (.inl x104), some (.inl x107), some (.inl x110), some (.inl x112), some (.inl 0), none]) dX4_readPlaces_92 (by decide) rfl ?_
      refine gx_mk (lv' := [some (.inr (some 10)), some (.inl v1), some (.inl x101), some (.inl x104), some (.inl x107), some (.inl x110), some (.inl x112), some (.inl 0), none]) [true, true, true, true, true, true, true, true, false] rfl ?_
      exact w_X4_readPlaces_L94 d hd n v1 x101 x104 x107 x110 x112 n 0 M113
    exact gx_vret rfl rfl dX4_readPlaces_90
  refine gx_iconst (x := 0) (by decide) dX4_readPlaces_70 ?_
  refine gx_goto (tgt := 78) dX4_readPlaces_71 (by decide) ?_
  refine gx_istore (lv' := [some (.inr (some 10)), some (.inl v1), some (.inl x101), some (.inl x104), some (.inl x107), some (.inl x110), some (.inl 0), none, none]) dX4_readPlaces_78 (by decide) rfl ?_
  refine gx_aload_n dX4_readPlaces_80 rfl ?_
  refine gx_getR fl_X4_18 sh10 rfl dX4_readPlaces_81 ?_
  refine gx_cV_it (av := []) (st := []) ml_X4_66 (by omega) sh1 (c_X10_isSound (d - 1) (by omega)  M111) rfl rfl (Nat.le_of_ble_eq_true rfl) dX4_readPlaces_84 ?_
  refine gx_if_ne (tgt := 91) dX4_readPlaces_87 (by decide) ?_ ?_
  · refine gx_iconst (x := 0) (by decide) dX4_readPlaces_91 ?_
    refine gx_istore (lv' := [some (.inr (some 10)), some (.inl v1), some (.inl x101), some (.inl x104), some (.inl x107), some (.inl x110), some (.inl 0), some (.inl 0), none]) dX4_readPlaces_92 (by decide) rfl ?_
    refine gx_mk (lv' := [some (.inr (some 10)), some (.inl v1), some (.inl x101), some (.inl x104), some (.inl x107), some (.inl x110), some (.inl 0), some (.inl 0), none]) [true, true, true, true, true, true, true, true, false] rfl ?_
    exact w_X4_readPlaces_L94 d hd n v1 x101 x104 x107 x110 0 n 0 M111
  exact gx_vret rfl rfl dX4_readPlaces_90
theorem c_X4_readPlaces (d : Nat) (hd : 3 ≤ d) (n : Nat) (v1 : Int32) (M : HMem) : MX iX4_readPlaces d [.inr (some 10), .inl v1] M eV (f_X4_readPlaces n v1 M) := mx_of (by decide +kernel) (Nat.le_of_ble_eq_true rfl) rfl (w_X4_readPlaces d hd n v1 M)
-- X4_readOne
def f_X4_readOne (n : Nat)  (M : HMem) : Option HMem :=
  hb1 (f_X10_sign  M) (fun x101 =>
  if (f_X4_kindOf x101) = 0 then
    (some (f_X10_failHere 1 M))
  else
    (if (M 11 2) < 12 then
      (hb1 (some (hset (f_X10_pass  M) 11 2 (((f_X10_pass  M) 11 2) + 1))) (fun M102 =>
      hb1 (f_X4_readPlaces n (f_X4_kindOf x101) M102) (fun M103 =>
      some M103)))
    else
      (some (f_X10_failHere 4 M))))
set_option maxRecDepth 20000 in
theorem w_X4_readOne (d : Nat) (hd : 4 ≤ d) (n : Nat)  (M : HMem) : GX iX4_readOne d eV (f_X4_readOne n  M) 0 [some (.inr (some 10)), none] [] M := by
  rw [f_X4_readOne]
  refine gx_aload_n dX4_readOne_0 rfl ?_
  refine gx_getR fl_X4_18 sh10 rfl dX4_readOne_1 ?_
  refine gx_cV_ip (av := []) (st := []) ml_X4_38 (by omega) sh1 (c_X10_sign (d - 1) (by omega)  M) rfl rfl (Nat.le_of_ble_eq_true rfl) dX4_readOne_4 (fun x101 => ?_)
  refine gx_cS_it (av := [.inl x101]) (st := []) ml_X4_42 (by omega) (c_X4_kindOf (d - 1) (by omega) x101 M) rfl rfl (Nat.le_of_ble_eq_true rfl) dX4_readOne_7 ?_
  refine gx_istore_n (lv' := [some (.inr (some 10)), some (.inl (f_X4_kindOf x101))]) dX4_readOne_10 (by decide) rfl ?_
  refine gx_iload_n dX4_readOne_11 rfl ?_
  refine gx_if_ne (tgt := 26) dX4_readOne_12 (by decide) ?_ ?_
  · refine gx_aload_n dX4_readOne_26 rfl ?_
    refine gx_getR fl_X4_12 sh10 rfl dX4_readOne_27 ?_
    refine gx_getI fl_X4_49 sh11 rfl dX4_readOne_30 ?_
    refine gx_bipush (x := 12) (by decide) dX4_readOne_33 ?_
    refine gx_icmp_lt (tgt := 49) dX4_readOne_35 (by decide) ?_ ?_
    · refine gx_aload_n dX4_readOne_49 rfl ?_
      refine gx_getR fl_X4_18 sh10 rfl dX4_readOne_50 ?_
      refine gx_cV_vt (av := []) (st := []) ml_X4_53 (by omega) sh1 (c_X10_pass (d - 1) (by omega)  M) rfl rfl (Nat.le_of_ble_eq_true rfl) dX4_readOne_53 ?_
      refine gx_aload_n dX4_readOne_56 rfl ?_
      refine gx_getR fl_X4_12 sh10 rfl dX4_readOne_57 ?_
      refine gx_dup dX4_readOne_60 ?_
      refine gx_getI fl_X4_49 sh11 rfl dX4_readOne_61 ?_
      refine gx_iconst (x := 1) (by decide) dX4_readOne_64 ?_
      refine gx_iadd dX4_readOne_65 ?_
      refine gx_putI fl_X4_49 fp_X3_2 sh11 rfl dX4_readOne_66 ?_
      refine gx_aload_n dX4_readOne_69 rfl ?_
      refine gx_iload_n dX4_readOne_70 rfl ?_
      refine gx_nm (fun M102 => ?_)
      refine gx_cV_vm (av := [.inl (f_X4_kindOf x101)]) (st := []) ml_X4_56 (by omega) sh10 (c_X4_readPlaces (d - 1) (by omega) n (f_X4_kindOf x101) M102) rfl rfl (Nat.le_of_ble_eq_true rfl) dX4_readOne_71 (fun M103 => ?_)
      exact gx_vret rfl rfl dX4_readOne_74
    refine gx_aload_n dX4_readOne_38 rfl ?_
    refine gx_getR fl_X4_18 sh10 rfl dX4_readOne_39 ?_
    refine gx_iconst (x := 4) (by decide) dX4_readOne_42 ?_
    refine gx_cV_vt (av := [.inl 4]) (st := []) ml_X4_46 (by omega) sh1 (c_X10_failHere (d - 1) (by omega) 4 M) rfl rfl (Nat.le_of_ble_eq_true rfl) dX4_readOne_43 ?_
    refine gx_goto (tgt := 74) dX4_readOne_46 (by decide) ?_
    exact gx_vret rfl rfl dX4_readOne_74
  refine gx_aload_n dX4_readOne_15 rfl ?_
  refine gx_getR fl_X4_18 sh10 rfl dX4_readOne_16 ?_
  refine gx_iconst (x := 1) (by decide) dX4_readOne_19 ?_
  refine gx_cV_vt (av := [.inl 1]) (st := []) ml_X4_46 (by omega) sh1 (c_X10_failHere (d - 1) (by omega) 1 M) rfl rfl (Nat.le_of_ble_eq_true rfl) dX4_readOne_20 ?_
  refine gx_goto (tgt := 74) dX4_readOne_23 (by decide) ?_
  exact gx_vret rfl rfl dX4_readOne_74
theorem c_X4_readOne (d : Nat) (hd : 4 ≤ d) (n : Nat)  (M : HMem) : MX iX4_readOne d [.inr (some 10)] M eV (f_X4_readOne n  M) := mx_of (by decide +kernel) (Nat.le_of_ble_eq_true rfl) rfl (w_X4_readOne d hd n  M)
-- X10_isAt
def f_X10_isAt (v1 : Int32) (M : HMem) : Option Int32 :=
  hb1 (f_X10_sign  M) (fun x101 =>
  if x101 = v1 then
    (some 1)
  else
    (some 0))
set_option maxRecDepth 20000 in
theorem w_X10_isAt (d : Nat) (hd : 1 ≤ d) (v1 : Int32) (M : HMem) : GX iX10_isAt d (eP M) (f_X10_isAt v1 M) 0 [some (.inr (some 1)), some (.inl v1)] [] M := by
  rw [f_X10_isAt]
  refine gx_aload_n dX10_isAt_0 rfl ?_
  refine gx_cV_ip (av := []) (st := []) ml_X10_35 (by omega) sh1 (c_X10_sign (d - 1) (by omega)  M) rfl rfl (Nat.le_of_ble_eq_true rfl) dX10_isAt_1 (fun x101 => ?_)
  refine gx_iload_n dX10_isAt_4 rfl ?_
  refine gx_icmp_ne (tgt := 12) dX10_isAt_5 (by decide) ?_ ?_
  · refine gx_iconst (x := 0) (by decide) dX10_isAt_12 ?_
    exact gx_zret rfl (by decide) rfl dX10_isAt_13
  refine gx_iconst (x := 1) (by decide) dX10_isAt_8 ?_
  refine gx_goto (tgt := 13) dX10_isAt_9 (by decide) ?_
  exact gx_zret rfl (by decide) rfl dX10_isAt_13
theorem c_X10_isAt (d : Nat) (hd : 1 ≤ d) (v1 : Int32) (M : HMem) : MX iX10_isAt d [.inr (some 1), .inl v1] M (eP M) (f_X10_isAt v1 M) := mx_of (by decide +kernel) (Nat.le_of_ble_eq_true rfl) rfl (w_X10_isAt d hd v1 M)
-- X4_read
def f_X4_read_L9 (n : Nat)  : Nat → Int32 → HMem → Option HMem
  | 0, _, _ => none
  | k + 1, v1, M =>
    if 12 < v1 then
      (some M)
    else
      (hb1 (f_X4_readOne n  M) (fun M101 =>
      hb1 (f_X10_isAt (-1) M101) (fun x102 =>
      if x102 = 0 then
        (hb1 (f_X10_expect 59 M101) (fun M103 =>
        f_X4_read_L9 n k (v1 + 1) M103))
      else
        (some M101))))
set_option maxRecDepth 20000 in
theorem w_X4_read_L9 (d : Nat) (hd : 5 ≤ d) (n : Nat)  : ∀ (k : Nat) (v1 : Int32) (M : HMem), GX iX4_read d eV (f_X4_read_L9 n k v1 M) 9 [some (.inr (some 10)), some (.inl v1)] [] M := by
  intro k
  induction k with
  | zero => intro v1 M; exact gx_none
  | succ k ih =>
    intro v1 M
    rw [f_X4_read_L9]
    refine gx_iload_n dX4_read_9 rfl ?_
    refine gx_bipush (x := 12) (by decide) dX4_read_10 ?_
    refine gx_icmp_gt (tgt := 46) dX4_read_12 (by decide) ?_ ?_
    · exact gx_vret rfl rfl dX4_read_46
    refine gx_aload_n dX4_read_15 rfl ?_
    refine gx_cV_vm (av := []) (st := []) ml_X4_25 (by omega) sh10 (c_X4_readOne (d - 1) (by omega) n  M) rfl rfl (Nat.le_of_ble_eq_true rfl) dX4_read_16 (fun M101 => ?_)
    refine gx_aload_n dX4_read_19 rfl ?_
    refine gx_getR fl_X4_18 sh10 rfl dX4_read_20 ?_
    refine gx_iconst (x := (-1)) (by decide) dX4_read_23 ?_
    refine gx_cV_ip (av := [.inl (-1)]) (st := []) ml_X4_30 (by omega) sh1 (c_X10_isAt (d - 1) (by omega) (-1) M101) rfl rfl (Nat.le_of_ble_eq_true rfl) dX4_read_24 (fun x102 => ?_)
    refine gx_if_eq (tgt := 31) dX4_read_27 (by decide) ?_ ?_
    · refine gx_aload_n dX4_read_31 rfl ?_
      refine gx_getR fl_X4_18 sh10 rfl dX4_read_32 ?_
      refine gx_bipush (x := 59) (by decide) dX4_read_35 ?_
      refine gx_cV_vm (av := [.inl 59]) (st := []) ml_X4_34 (by omega) sh1 (c_X10_expect (d - 1) (by omega) 59 M101) rfl rfl (Nat.le_of_ble_eq_true rfl) dX4_read_37 (fun M103 => ?_)
      refine gx_iinc (y := v1 + 1) (lv' := [some (.inr (some 10)), some (.inl (v1 + 1))]) dX4_read_40 rfl rfl (by decide) rfl ?_
      refine gx_goto (tgt := 9) dX4_read_43 (by decide) ?_
      refine gx_mk (lv' := [some (.inr (some 10)), some (.inl (v1 + 1))]) [true, true] rfl ?_
      exact ih (v1 + 1) M103
    exact gx_vret rfl rfl dX4_read_30
def f_X4_read (n : Nat)  (M : HMem) : Option HMem :=
  hb1 (f_X3_clear n 11 M) (fun M101 =>
  f_X4_read_L9 n n 0 M101)
set_option maxRecDepth 20000 in
theorem w_X4_read (d : Nat) (hd : 5 ≤ d) (n : Nat)  (M : HMem) : GX iX4_read d eV (f_X4_read n  M) 0 [some (.inr (some 10)), none] [] M := by
  rw [f_X4_read]
  refine gx_aload_n dX4_read_0 rfl ?_
  refine gx_getR fl_X4_12 sh10 rfl dX4_read_1 ?_
  refine gx_cV_vm (av := []) (st := []) ml_X4_22 (by omega) sh11 (c_X3_clear (d - 1) (by omega) n 11 (Or.inr rfl) M) rfl rfl (Nat.le_of_ble_eq_true rfl) dX4_read_4 (fun M101 => ?_)
  refine gx_iconst (x := 0) (by decide) dX4_read_7 ?_
  refine gx_istore_n (lv' := [some (.inr (some 10)), some (.inl 0)]) dX4_read_8 (by decide) rfl ?_
  refine gx_mk (lv' := [some (.inr (some 10)), some (.inl 0)]) [true, true] rfl ?_
  exact w_X4_read_L9 d hd n  n 0 M101
theorem c_X4_read (d : Nat) (hd : 5 ≤ d) (n : Nat)  (M : HMem) : MX iX4_read d [.inr (some 10)] M eV (f_X4_read n  M) := mx_of (by decide +kernel) (Nat.le_of_ble_eq_true rfl) rfl (w_X4_read d hd n  M)
-- X5_clear
def f_X5_clear (o0 : Nat) (M : HMem) : HMem :=
  hset (hset M o0 3 0) o0 6 0
set_option maxRecDepth 20000 in
theorem w_X5_clear (d : Nat) (hd : 0 ≤ d) (o0 : Nat) (h0 : isLw o0) (M : HMem) : GX iX5_clear d eV (some (f_X5_clear o0 M)) 0 [some (.inr (some o0))] [] M := by
  rw [f_X5_clear]
  refine gx_aload_n dX5_clear_0 rfl ?_
  refine gx_iconst (x := 0) (by decide) dX5_clear_1 ?_
  refine gx_putI fl_X5_21 fp_X5_3 (shW h0) rfl dX5_clear_2 ?_
  refine gx_aload_n dX5_clear_5 rfl ?_
  refine gx_iconst (x := 0) (by decide) dX5_clear_6 ?_
  refine gx_putI fl_X5_31 fp_X5_6 (shW h0) rfl dX5_clear_7 ?_
  exact gx_vret rfl rfl dX5_clear_10
theorem c_X5_clear (d : Nat) (hd : 0 ≤ d) (o0 : Nat) (h0 : isLw o0) (M : HMem) : MX iX5_clear d [.inr (some o0)] M eV (some (f_X5_clear o0 M)) := mx_of (by decide +kernel) (Nat.le_of_ble_eq_true rfl) rfl (w_X5_clear d hd o0 h0 M)
-- X5_copyFrom
def f_X5_copyFrom (o0 : Nat) (o1 : Nat) (M : HMem) : HMem :=
  hcpy (hcpy (hcpy (hcpy (hcpy (hset (hset M o0 3 (M o1 3)) o0 6 ((hset M o0 3 (M o1 3)) o1 6)) (o1 + 1) (o0 + 1) 0 0 16) (o1 + 2) (o0 + 2) 0 0 16) (o1 + 3) (o0 + 3) 0 0 16) (o1 + 4) (o0 + 4) 0 0 240) (o1 + 5) (o0 + 5) 0 0 240
set_option maxRecDepth 20000 in
theorem w_X5_copyFrom (d : Nat) (hd : 1 ≤ d) (o0 : Nat) (h0 : isLw o0) (o1 : Nat) (h1 : isLw o1) (M : HMem) : GX iX5_copyFrom d eV (some (f_X5_copyFrom o0 o1 M)) 0 [some (.inr (some o0)), some (.inr (some o1))] [] M := by
  rw [f_X5_copyFrom]
  refine gx_aload_n dX5_copyFrom_0 rfl ?_
  refine gx_aload_n dX5_copyFrom_1 rfl ?_
  refine gx_getI fl_X5_21 (shW h1) rfl dX5_copyFrom_2 ?_
  refine gx_putI fl_X5_21 fp_X5_3 (shW h0) rfl dX5_copyFrom_5 ?_
  refine gx_aload_n dX5_copyFrom_8 rfl ?_
  refine gx_aload_n dX5_copyFrom_9 rfl ?_
  refine gx_getI fl_X5_31 (shW h1) rfl dX5_copyFrom_10 ?_
  refine gx_putI fl_X5_31 fp_X5_6 (shW h0) rfl dX5_copyFrom_13 ?_
  refine gx_aload_n dX5_copyFrom_16 rfl ?_
  refine gx_getR fl_X5_11 (shW h1) rfl dX5_copyFrom_17 ?_
  refine gx_iconst (x := 0) (by decide) dX5_copyFrom_20 ?_
  refine gx_aload_n dX5_copyFrom_21 rfl ?_
  refine gx_getR fl_X5_11 (shW h0) rfl dX5_copyFrom_22 ?_
  refine gx_iconst (x := 0) (by decide) dX5_copyFrom_25 ?_
  refine gx_bipush (x := 16) (by decide) dX5_copyFrom_26 ?_
  refine gx_copyL (sp' := 0) (dp' := 0) (n' := 16) mw663 mw665 mw664 mw188 (shW1 h1) (shW1 h0) (by decide) (by decide) (by decide) (by decide) (by omega) (Nat.le_of_ble_eq_true rfl) dX5_copyFrom_28 ?_
  refine gx_aload_n dX5_copyFrom_31 rfl ?_
  refine gx_getR fl_X5_15 (shW h1) rfl dX5_copyFrom_32 ?_
  refine gx_iconst (x := 0) (by decide) dX5_copyFrom_35 ?_
  refine gx_aload_n dX5_copyFrom_36 rfl ?_
  refine gx_getR fl_X5_15 (shW h0) rfl dX5_copyFrom_37 ?_
  refine gx_iconst (x := 0) (by decide) dX5_copyFrom_40 ?_
  refine gx_bipush (x := 16) (by decide) dX5_copyFrom_41 ?_
  refine gx_copyL (sp' := 0) (dp' := 0) (n' := 16) mw663 mw665 mw664 mw188 (shW2 h1) (shW2 h0) (by decide) (by decide) (by decide) (by decide) (by omega) (Nat.le_of_ble_eq_true rfl) dX5_copyFrom_43 ?_
  refine gx_aload_n dX5_copyFrom_46 rfl ?_
  refine gx_getR fl_X5_18 (shW h1) rfl dX5_copyFrom_47 ?_
  refine gx_iconst (x := 0) (by decide) dX5_copyFrom_50 ?_
  refine gx_aload_n dX5_copyFrom_51 rfl ?_
  refine gx_getR fl_X5_18 (shW h0) rfl dX5_copyFrom_52 ?_
  refine gx_iconst (x := 0) (by decide) dX5_copyFrom_55 ?_
  refine gx_bipush (x := 16) (by decide) dX5_copyFrom_56 ?_
  refine gx_copyL (sp' := 0) (dp' := 0) (n' := 16) mw663 mw665 mw664 mw188 (shW3 h1) (shW3 h0) (by decide) (by decide) (by decide) (by decide) (by omega) (Nat.le_of_ble_eq_true rfl) dX5_copyFrom_58 ?_
  refine gx_aload_n dX5_copyFrom_61 rfl ?_
  refine gx_getR fl_X5_25 (shW h1) rfl dX5_copyFrom_62 ?_
  refine gx_iconst (x := 0) (by decide) dX5_copyFrom_65 ?_
  refine gx_aload_n dX5_copyFrom_66 rfl ?_
  refine gx_getR fl_X5_25 (shW h0) rfl dX5_copyFrom_67 ?_
  refine gx_iconst (x := 0) (by decide) dX5_copyFrom_70 ?_
  refine gx_sipush (x := 240) (by decide) dX5_copyFrom_71 ?_
  refine gx_copyL (sp' := 0) (dp' := 0) (n' := 240) mw663 mw665 mw664 mw188 (shW4 h1) (shW4 h0) (by decide) (by decide) (by decide) (by decide) (by omega) (Nat.le_of_ble_eq_true rfl) dX5_copyFrom_74 ?_
  refine gx_aload_n dX5_copyFrom_77 rfl ?_
  refine gx_getR fl_X5_28 (shW h1) rfl dX5_copyFrom_78 ?_
  refine gx_iconst (x := 0) (by decide) dX5_copyFrom_81 ?_
  refine gx_aload_n dX5_copyFrom_82 rfl ?_
  refine gx_getR fl_X5_28 (shW h0) rfl dX5_copyFrom_83 ?_
  refine gx_iconst (x := 0) (by decide) dX5_copyFrom_86 ?_
  refine gx_sipush (x := 240) (by decide) dX5_copyFrom_87 ?_
  refine gx_copyL (sp' := 0) (dp' := 0) (n' := 240) mw663 mw665 mw664 mw188 (shW5 h1) (shW5 h0) (by decide) (by decide) (by decide) (by decide) (by omega) (Nat.le_of_ble_eq_true rfl) dX5_copyFrom_90 ?_
  exact gx_vret rfl rfl dX5_copyFrom_93
theorem c_X5_copyFrom (d : Nat) (hd : 1 ≤ d) (o0 : Nat) (h0 : isLw o0) (o1 : Nat) (h1 : isLw o1) (M : HMem) : MX iX5_copyFrom d [.inr (some o0), .inr (some o1)] M eV (some (f_X5_copyFrom o0 o1 M)) := mx_of (by decide +kernel) (Nat.le_of_ble_eq_true rfl) rfl (w_X5_copyFrom d hd o0 h0 o1 h1 M)
-- X5_beginWorth
def f_X5_beginWorth (o0 : Nat) (v1 : Int32) (M : HMem) : Option HMem :=
  if 16 ≤ (M o0 3) then
    (some M)
  else
    (if hib (M o0 3) 16 then
    hb1 (some (hset M (o0 + 1) (Int32.toNatClampNeg (M o0 3)) v1)) (fun M101 =>
    if hib (M101 o0 3) 16 then
    some (hset M101 (o0 + 2) (Int32.toNatClampNeg (M101 o0 3)) (M101 o0 6))
    else none)
    else none)
set_option maxRecDepth 20000 in
theorem w_X5_beginWorth (d : Nat) (hd : 0 ≤ d) (o0 : Nat) (h0 : isLw o0) (v1 : Int32) (M : HMem) : GX iX5_beginWorth d eV (f_X5_beginWorth o0 v1 M) 0 [some (.inr (some o0)), some (.inl v1)] [] M := by
  rw [f_X5_beginWorth]
  refine gx_aload_n dX5_beginWorth_0 rfl ?_
  refine gx_getI fl_X5_21 (shW h0) rfl dX5_beginWorth_1 ?_
  refine gx_bipush (x := 16) (by decide) dX5_beginWorth_4 ?_
  refine gx_icmp_ge (tgt := 32) dX5_beginWorth_6 (by decide) ?_ ?_
  · exact gx_vret rfl rfl dX5_beginWorth_32
  refine gx_aload_n dX5_beginWorth_9 rfl ?_
  refine gx_getR fl_X5_11 (shW h0) rfl dX5_beginWorth_10 ?_
  refine gx_aload_n dX5_beginWorth_13 rfl ?_
  refine gx_getI fl_X5_21 (shW h0) rfl dX5_beginWorth_14 ?_
  refine gx_iload_n dX5_beginWorth_17 rfl ?_
  refine gx_iastore (shW1 h0) dX5_beginWorth_18 ?_
  refine gx_aload_n dX5_beginWorth_19 rfl ?_
  refine gx_getR fl_X5_15 (shW h0) rfl dX5_beginWorth_20 ?_
  refine gx_aload_n dX5_beginWorth_23 rfl ?_
  refine gx_nm (fun M101 => ?_)
  refine gx_getI fl_X5_21 (shW h0) rfl dX5_beginWorth_24 ?_
  refine gx_aload_n dX5_beginWorth_27 rfl ?_
  refine gx_getI fl_X5_31 (shW h0) rfl dX5_beginWorth_28 ?_
  refine gx_iastore (shW2 h0) dX5_beginWorth_31 ?_
  exact gx_vret rfl rfl dX5_beginWorth_32
theorem c_X5_beginWorth (d : Nat) (hd : 0 ≤ d) (o0 : Nat) (h0 : isLw o0) (v1 : Int32) (M : HMem) : MX iX5_beginWorth d [.inr (some o0), .inl v1] M eV (f_X5_beginWorth o0 v1 M) := mx_of (by decide +kernel) (Nat.le_of_ble_eq_true rfl) rfl (w_X5_beginWorth d hd o0 h0 v1 M)
-- X5_beginTest
def f_X5_beginTest (o0 : Nat) (M : HMem) : Option HMem :=
  if 16 ≤ (M o0 3) then
    (some M)
  else
    (if hib (M o0 3) 16 then
    some (hset M (o0 + 3) (Int32.toNatClampNeg (M o0 3)) (M o0 6))
    else none)
set_option maxRecDepth 20000 in
theorem w_X5_beginTest (d : Nat) (hd : 0 ≤ d) (o0 : Nat) (h0 : isLw o0) (M : HMem) : GX iX5_beginTest d eV (f_X5_beginTest o0 M) 0 [some (.inr (some o0))] [] M := by
  rw [f_X5_beginTest]
  refine gx_aload_n dX5_beginTest_0 rfl ?_
  refine gx_getI fl_X5_21 (shW h0) rfl dX5_beginTest_1 ?_
  refine gx_bipush (x := 16) (by decide) dX5_beginTest_4 ?_
  refine gx_icmp_ge (tgt := 22) dX5_beginTest_6 (by decide) ?_ ?_
  · exact gx_vret rfl rfl dX5_beginTest_22
  refine gx_aload_n dX5_beginTest_9 rfl ?_
  refine gx_getR fl_X5_18 (shW h0) rfl dX5_beginTest_10 ?_
  refine gx_aload_n dX5_beginTest_13 rfl ?_
  refine gx_getI fl_X5_21 (shW h0) rfl dX5_beginTest_14 ?_
  refine gx_aload_n dX5_beginTest_17 rfl ?_
  refine gx_getI fl_X5_31 (shW h0) rfl dX5_beginTest_18 ?_
  refine gx_iastore (shW3 h0) dX5_beginTest_21 ?_
  exact gx_vret rfl rfl dX5_beginTest_22
theorem c_X5_beginTest (d : Nat) (hd : 0 ≤ d) (o0 : Nat) (h0 : isLw o0) (M : HMem) : MX iX5_beginTest d [.inr (some o0)] M eV (f_X5_beginTest o0 M) := mx_of (by decide +kernel) (Nat.le_of_ble_eq_true rfl) rfl (w_X5_beginTest d hd o0 h0 M)
-- X5_endRule
def f_X5_endRule (o0 : Nat) (M : HMem) : HMem :=
  if 16 ≤ (M o0 3) then
    (M)
  else
    (hset M o0 3 ((M o0 3) + 1))
set_option maxRecDepth 20000 in
theorem w_X5_endRule (d : Nat) (hd : 0 ≤ d) (o0 : Nat) (h0 : isLw o0) (M : HMem) : GX iX5_endRule d eV (some (f_X5_endRule o0 M)) 0 [some (.inr (some o0))] [] M := by
  rw [f_X5_endRule]
  refine gx_aload_n dX5_endRule_0 rfl ?_
  refine gx_getI fl_X5_21 (shW h0) rfl dX5_endRule_1 ?_
  refine gx_bipush (x := 16) (by decide) dX5_endRule_4 ?_
  refine gxt_icmp_ge (tgt := 19) dX5_endRule_6 (by decide) ?_ ?_
  · exact gx_vret rfl rfl dX5_endRule_19
  refine gx_aload_n dX5_endRule_9 rfl ?_
  refine gx_dup dX5_endRule_10 ?_
  refine gx_getI fl_X5_21 (shW h0) rfl dX5_endRule_11 ?_
  refine gx_iconst (x := 1) (by decide) dX5_endRule_14 ?_
  refine gx_iadd dX5_endRule_15 ?_
  refine gx_putI fl_X5_21 fp_X5_3 (shW h0) rfl dX5_endRule_16 ?_
  exact gx_vret rfl rfl dX5_endRule_19
theorem c_X5_endRule (d : Nat) (hd : 0 ≤ d) (o0 : Nat) (h0 : isLw o0) (M : HMem) : MX iX5_endRule d [.inr (some o0)] M eV (some (f_X5_endRule o0 M)) := mx_of (by decide +kernel) (Nat.le_of_ble_eq_true rfl) rfl (w_X5_endRule d hd o0 h0 M)
-- X5_add
def f_X5_add (o0 : Nat) (v1 : Int32) (v2 : Int32) (M : HMem) : Option (Int32 × HMem) :=
  if (M o0 6) < 240 then
    (if hib (M o0 6) 240 then
    hb1 (some (hset M (o0 + 4) (Int32.toNatClampNeg (M o0 6)) v1)) (fun M101 =>
    if hib (M101 o0 6) 240 then
    hb1 (some (hset M101 (o0 + 5) (Int32.toNatClampNeg (M101 o0 6)) v2)) (fun M102 =>
    some (((hset M102 o0 6 ((M102 o0 6) + 1)) o0 6) - 1, hset M102 o0 6 ((M102 o0 6) + 1)))
    else none)
    else none)
  else
    (some ((-1), M))
set_option maxRecDepth 20000 in
theorem w_X5_add (d : Nat) (hd : 0 ≤ d) (o0 : Nat) (h0 : isLw o0) (v1 : Int32) (v2 : Int32) (M : HMem) : GX iX5_add d eI (f_X5_add o0 v1 v2 M) 0 [some (.inr (some o0)), some (.inl v1), some (.inl v2)] [] M := by
  rw [f_X5_add]
  refine gx_aload_n dX5_add_0 rfl ?_
  refine gx_getI fl_X5_31 (shW h0) rfl dX5_add_1 ?_
  refine gx_sipush (x := 240) (by decide) dX5_add_4 ?_
  refine gx_icmp_lt (tgt := 12) dX5_add_7 (by decide) ?_ ?_
  · refine gx_aload_n dX5_add_12 rfl ?_
    refine gx_getR fl_X5_25 (shW h0) rfl dX5_add_13 ?_
    refine gx_aload_n dX5_add_16 rfl ?_
    refine gx_getI fl_X5_31 (shW h0) rfl dX5_add_17 ?_
    refine gx_iload_n dX5_add_20 rfl ?_
    refine gx_iastore (shW4 h0) dX5_add_21 ?_
    refine gx_aload_n dX5_add_22 rfl ?_
    refine gx_getR fl_X5_28 (shW h0) rfl dX5_add_23 ?_
    refine gx_aload_n dX5_add_26 rfl ?_
    refine gx_nm (fun M101 => ?_)
    refine gx_getI fl_X5_31 (shW h0) rfl dX5_add_27 ?_
    refine gx_iload_n dX5_add_30 rfl ?_
    refine gx_iastore (shW5 h0) dX5_add_31 ?_
    refine gx_aload_n dX5_add_32 rfl ?_
    refine gx_dup dX5_add_33 ?_
    refine gx_nm (fun M102 => ?_)
    refine gx_getI fl_X5_31 (shW h0) rfl dX5_add_34 ?_
    refine gx_iconst (x := 1) (by decide) dX5_add_37 ?_
    refine gx_iadd dX5_add_38 ?_
    refine gx_putI fl_X5_31 fp_X5_6 (shW h0) rfl dX5_add_39 ?_
    refine gx_aload_n dX5_add_42 rfl ?_
    refine gx_getI fl_X5_31 (shW h0) rfl dX5_add_43 ?_
    refine gx_iconst (x := 1) (by decide) dX5_add_46 ?_
    refine gx_isub dX5_add_47 ?_
    exact gx_iret rfl rfl dX5_add_48
  refine gx_iconst (x := (-1)) (by decide) dX5_add_10 ?_
  exact gx_iret rfl rfl dX5_add_11
theorem c_X5_add (d : Nat) (hd : 0 ≤ d) (o0 : Nat) (h0 : isLw o0) (v1 : Int32) (v2 : Int32) (M : HMem) : MX iX5_add d [.inr (some o0), .inl v1, .inl v2] M eI (f_X5_add o0 v1 v2 M) := mx_of (by decide +kernel) (Nat.le_of_ble_eq_true rfl) rfl (w_X5_add d hd o0 h0 v1 v2 M)
-- X5_settle
def f_X5_settle_L4 (n : Nat) (o0 : Nat) : Nat → Int32 → Int32 → HMem → Option HMem
  | 0, _, _, _ => none
  | k + 1, v2, v3, M =>
    if 240 ≤ v3 then
      (some M)
    else
      (if v2 < 0 then
        (some M)
      else
        (if 240 ≤ v2 then
          (some M)
        else
          (if hib v2 240 then
          if hib v2 240 then
          f_X5_settle_L4 n o0 k (M (o0 + 5) (Int32.toNatClampNeg v2)) (v3 + 1) (hset M (o0 + 5) (Int32.toNatClampNeg v2) (M o0 6))
          else none
          else none)))
set_option maxRecDepth 20000 in
theorem w_X5_settle_L4 (d : Nat) (hd : 0 ≤ d) (n : Nat) (o0 : Nat) (h0 : isLw o0) : ∀ (k : Nat) (v2 : Int32) (v3 : Int32) (M : HMem), GX iX5_settle d eV (f_X5_settle_L4 n o0 k v2 v3 M) 4 [some (.inr (some o0)), none, some (.inl v2), some (.inl v3), none] [] M := by
  intro k
  induction k with
  | zero => intro v2 v3 M; exact gx_none
  | succ k ih =>
    intro v2 v3 M
    rw [f_X5_settle_L4]
    refine gx_iload_n dX5_settle_4 rfl ?_
    refine gx_sipush (x := 240) (by decide) dX5_settle_5 ?_
    refine gx_icmp_ge (tgt := 49) dX5_settle_8 (by decide) ?_ ?_
    · exact gx_vret rfl rfl dX5_settle_49
    refine gx_iload_n dX5_settle_11 rfl ?_
    refine gx_if_lt (tgt := 49) dX5_settle_12 (by decide) ?_ ?_
    · exact gx_vret rfl rfl dX5_settle_49
    refine gx_iload_n dX5_settle_15 rfl ?_
    refine gx_sipush (x := 240) (by decide) dX5_settle_16 ?_
    refine gx_icmp_ge (tgt := 49) dX5_settle_19 (by decide) ?_ ?_
    · exact gx_vret rfl rfl dX5_settle_49
    refine gx_aload_n dX5_settle_22 rfl ?_
    refine gx_getR fl_X5_28 (shW h0) rfl dX5_settle_23 ?_
    refine gx_iload_n dX5_settle_26 rfl ?_
    refine gx_iaload (shW5 h0) dX5_settle_27 ?_
    refine gx_istore (lv' := [some (.inr (some o0)), none, some (.inl v2), some (.inl v3), some (.inl (M (o0 + 5) (Int32.toNatClampNeg v2)))]) dX5_settle_28 (by decide) rfl ?_
    refine gx_aload_n dX5_settle_30 rfl ?_
    refine gx_getR fl_X5_28 (shW h0) rfl dX5_settle_31 ?_
    refine gx_iload_n dX5_settle_34 rfl ?_
    refine gx_aload_n dX5_settle_35 rfl ?_
    refine gx_getI fl_X5_31 (shW h0) rfl dX5_settle_36 ?_
    refine gx_iastore (shW5 h0) dX5_settle_39 ?_
    refine gx_iload dX5_settle_40 rfl ?_
    refine gx_istore_n (lv' := [some (.inr (some o0)), none, some (.inl (M (o0 + 5) (Int32.toNatClampNeg v2))), some (.inl v3), some (.inl (M (o0 + 5) (Int32.toNatClampNeg v2)))]) dX5_settle_42 (by decide) rfl ?_
    refine gx_iinc (y := v3 + 1) (lv' := [some (.inr (some o0)), none, some (.inl (M (o0 + 5) (Int32.toNatClampNeg v2))), some (.inl (v3 + 1)), some (.inl (M (o0 + 5) (Int32.toNatClampNeg v2)))]) dX5_settle_43 rfl rfl (by decide) rfl ?_
    refine gx_goto (tgt := 4) dX5_settle_46 (by decide) ?_
    refine gx_mk (lv' := [some (.inr (some o0)), none, some (.inl (M (o0 + 5) (Int32.toNatClampNeg v2))), some (.inl (v3 + 1)), none]) [true, false, true, true, false] rfl ?_
    exact ih (M (o0 + 5) (Int32.toNatClampNeg v2)) (v3 + 1) (hset M (o0 + 5) (Int32.toNatClampNeg v2) (M o0 6))
def f_X5_settle (n : Nat) (o0 : Nat) (v1 : Int32) (M : HMem) : Option HMem :=
  f_X5_settle_L4 n o0 n v1 0 M
set_option maxRecDepth 20000 in
theorem w_X5_settle (d : Nat) (hd : 0 ≤ d) (n : Nat) (o0 : Nat) (h0 : isLw o0) (v1 : Int32) (M : HMem) : GX iX5_settle d eV (f_X5_settle n o0 v1 M) 0 [some (.inr (some o0)), some (.inl v1), none, none, none] [] M := by
  rw [f_X5_settle]
  refine gx_iload_n dX5_settle_0 rfl ?_
  refine gx_istore_n (lv' := [some (.inr (some o0)), some (.inl v1), some (.inl v1), none, none]) dX5_settle_1 (by decide) rfl ?_
  refine gx_iconst (x := 0) (by decide) dX5_settle_2 ?_
  refine gx_istore_n (lv' := [some (.inr (some o0)), some (.inl v1), some (.inl v1), some (.inl 0), none]) dX5_settle_3 (by decide) rfl ?_
  refine gx_mk (lv' := [some (.inr (some o0)), none, some (.inl v1), some (.inl 0), none]) [true, false, true, true, false] rfl ?_
  exact w_X5_settle_L4 d hd n o0 h0 n v1 0 M
theorem c_X5_settle (d : Nat) (hd : 0 ≤ d) (n : Nat) (o0 : Nat) (h0 : isLw o0) (v1 : Int32) (M : HMem) : MX iX5_settle d [.inr (some o0), .inl v1] M eV (f_X5_settle n o0 v1 M) := mx_of (by decide +kernel) (Nat.le_of_ble_eq_true rfl) rfl (w_X5_settle d hd n o0 h0 v1 M)

-- X11_feed
def f_X11_feed (n : Nat) (v1 : Int32) (v2 : Int32) (v3 : Int32) (v4 : Int32) (v5 : Int32) (M : HMem) : Option (Int32 × HMem) :=
  if (f_X10_hasRoom 20 M) = 0 then
    (some ((-1), M))
  else
    (hb1 (f_X10_append n v1 M) (fun M101 =>
    hb1 (f_X10_append n v2 M101) (fun M102 =>
    hb1 (f_X10_append n v3 M102) (fun M103 =>
    hb1 (f_X10_append n v4 M103) (fun M104 =>
    hb1 (f_X10_append n v5 M104) (fun M105 =>
    some (M105 1 1, M105)))))))
set_option maxRecDepth 20000 in
theorem w_X11_feed (d : Nat) (hd : 1 ≤ d) (n : Nat) (v1 : Int32) (v2 : Int32) (v3 : Int32) (v4 : Int32) (v5 : Int32) (M : HMem) : GX iX11_feed d eI (f_X11_feed n v1 v2 v3 v4 v5 M) 0 [some (.inr (some 0)), some (.inl v1), some (.inl v2), some (.inl v3), some (.inl v4), some (.inl v5)] [] M := by
  rw [f_X11_feed]
  refine gx_aload_n dX11_feed_0 rfl ?_
  refine gx_getR fl_X11_10 sh0 rfl dX11_feed_1 ?_
  refine gx_bipush (x := 20) (by decide) dX11_feed_4 ?_
  refine gx_cV_it (av := [.inl 20]) (st := []) ml_X11_110 (by omega) sh1 (c_X10_hasRoom (d - 1) (by omega) 20 M) rfl rfl (Nat.le_of_ble_eq_true rfl) dX11_feed_6 ?_
  refine gx_if_ne (tgt := 14) dX11_feed_9 (by decide) ?_ ?_
  · refine gx_aload_n dX11_feed_14 rfl ?_
    refine gx_getR fl_X11_10 sh0 rfl dX11_feed_15 ?_
    refine gx_iload_n dX11_feed_18 rfl ?_
    refine gx_cV_vm (av := [.inl v1]) (st := []) ml_X11_114 (by omega) sh1 (c_X10_append (d - 1) (by omega) n v1 M) rfl rfl (Nat.le_of_ble_eq_true rfl) dX11_feed_19 (fun M101 => ?_)
    refine gx_aload_n dX11_feed_22 rfl ?_
    refine gx_getR fl_X11_10 sh0 rfl dX11_feed_23 ?_
    refine gx_iload_n dX11_feed_26 rfl ?_
    refine gx_cV_vm (av := [.inl v2]) (st := []) ml_X11_114 (by omega) sh1 (c_X10_append (d - 1) (by omega) n v2 M101) rfl rfl (Nat.le_of_ble_eq_true rfl) dX11_feed_27 (fun M102 => ?_)
    refine gx_aload_n dX11_feed_30 rfl ?_
    refine gx_getR fl_X11_10 sh0 rfl dX11_feed_31 ?_
    refine gx_iload_n dX11_feed_34 rfl ?_
    refine gx_cV_vm (av := [.inl v3]) (st := []) ml_X11_114 (by omega) sh1 (c_X10_append (d - 1) (by omega) n v3 M102) rfl rfl (Nat.le_of_ble_eq_true rfl) dX11_feed_35 (fun M103 => ?_)
    refine gx_aload_n dX11_feed_38 rfl ?_
    refine gx_getR fl_X11_10 sh0 rfl dX11_feed_39 ?_
    refine gx_iload dX11_feed_42 rfl ?_
    refine gx_cV_vm (av := [.inl v4]) (st := []) ml_X11_114 (by omega) sh1 (c_X10_append (d - 1) (by omega) n v4 M103) rfl rfl (Nat.le_of_ble_eq_true rfl) dX11_feed_44 (fun M104 => ?_)
    refine gx_aload_n dX11_feed_47 rfl ?_
    refine gx_getR fl_X11_10 sh0 rfl dX11_feed_48 ?_
    refine gx_iload dX11_feed_51 rfl ?_
    refine gx_cV_vm (av := [.inl v5]) (st := []) ml_X11_114 (by omega) sh1 (c_X10_append (d - 1) (by omega) n v5 M104) rfl rfl (Nat.le_of_ble_eq_true rfl) dX11_feed_53 (fun M105 => ?_)
    refine gx_aload_n dX11_feed_56 rfl ?_
    refine gx_getR fl_X11_10 sh0 rfl dX11_feed_57 ?_
    refine gx_getI fl_X11_118 sh1 rfl dX11_feed_60 ?_
    exact gx_iret rfl rfl dX11_feed_63
  refine gx_iconst (x := (-1)) (by decide) dX11_feed_12 ?_
  exact gx_iret rfl rfl dX11_feed_13
theorem c_X11_feed (d : Nat) (hd : 1 ≤ d) (n : Nat) (v1 : Int32) (v2 : Int32) (v3 : Int32) (v4 : Int32) (v5 : Int32) (M : HMem) : MX iX11_feed d [.inr (some 0), .inl v1, .inl v2, .inl v3, .inl v4, .inl v5] M eI (f_X11_feed n v1 v2 v3 v4 v5 M) := mx_of (by decide +kernel) (Nat.le_of_ble_eq_true rfl) rfl (w_X11_feed d hd n v1 v2 v3 v4 v5 M)
-- X11_law
def f_X11_law (n : Nat) (v1 : Int32) (M : HMem) : Option (Int32 × HMem) :=
  if (f_X10_canTell v1 240 M) = 0 then
    (some ((-1), M))
  else
    (hb1 (f_X6_read n  (f_X10_open v1 M)) (fun M101 =>
    if (f_X10_isSound  (f_X10_empty  M101)) = 0 then
      (some (f_X10_faultAnswer  (f_X10_empty  M101), f_X10_empty  M101))
    else
      (some ((f_X5_copyFrom 23 15 (f_X10_empty  M101)) 23 3, f_X5_copyFrom 23 15 (f_X10_empty  M101)))))
set_option maxRecDepth 20000 in
theorem w_X11_law (d : Nat) (hd : 73 ≤ d) (n : Nat) (v1 : Int32) (M : HMem) : GX iX11_law d eI (f_X11_law n v1 M) 0 [some (.inr (some 0)), some (.inl v1)] [] M := by
  rw [f_X11_law]
  refine gx_aload_n dX11_law_0 rfl ?_
  refine gx_getR fl_X11_10 sh0 rfl dX11_law_1 ?_
  refine gx_iload_n dX11_law_4 rfl ?_
  refine gx_sipush (x := 240) (by decide) dX11_law_5 ?_
  refine gx_cV_it (av := [.inl v1, .inl 240]) (st := []) ml_X11_121 (by omega) sh1 (c_X10_canTell (d - 1) (by omega) v1 240 M) rfl rfl (Nat.le_of_ble_eq_true rfl) dX11_law_8 ?_
  refine gx_if_ne (tgt := 16) dX11_law_11 (by decide) ?_ ?_
  · refine gx_aload_n dX11_law_16 rfl ?_
    refine gx_getR fl_X11_10 sh0 rfl dX11_law_17 ?_
    refine gx_iload_n dX11_law_20 rfl ?_
    refine gx_cV_vt (av := [.inl v1]) (st := []) ml_X11_124 (by omega) sh1 (c_X10_open (d - 1) (by omega) v1 M) rfl rfl (Nat.le_of_ble_eq_true rfl) dX11_law_21 ?_
    refine gx_aload_n dX11_law_24 rfl ?_
    refine gx_getR fl_X11_42 sh0 rfl dX11_law_25 ?_
    refine gx_cV_vm (av := []) (st := []) ml_X11_127 (by omega) sh14 (c_X6_read (d - 1) (by omega) n  (f_X10_open v1 M)) rfl rfl (Nat.le_of_ble_eq_true rfl) dX11_law_28 (fun M101 => ?_)
    refine gx_aload_n dX11_law_31 rfl ?_
    refine gx_getR fl_X11_10 sh0 rfl dX11_law_32 ?_
    refine gx_cV_vt (av := []) (st := []) ml_X11_130 (by omega) sh1 (c_X10_empty (d - 1) (by omega)  M101) rfl rfl (Nat.le_of_ble_eq_true rfl) dX11_law_35 ?_
    refine gx_aload_n dX11_law_38 rfl ?_
    refine gx_getR fl_X11_10 sh0 rfl dX11_law_39 ?_
    refine gx_cV_it (av := []) (st := []) ml_X11_133 (by omega) sh1 (c_X10_isSound (d - 1) (by omega)  (f_X10_empty  M101)) rfl rfl (Nat.le_of_ble_eq_true rfl) dX11_law_42 ?_
    refine gx_if_ne (tgt := 56) dX11_law_45 (by decide) ?_ ?_
    · refine gx_aload_n dX11_law_56 rfl ?_
      refine gx_getR fl_X11_49 sh0 rfl dX11_law_57 ?_
      refine gx_aload_n dX11_law_60 rfl ?_
      refine gx_getR fl_X11_42 sh0 rfl dX11_law_61 ?_
      refine gx_getR fl_X11_141 sh14 rfl dX11_law_64 ?_
      refine gx_cV_vt (av := [.inr (some 15)]) (st := []) ml_X11_144 (by omega) sh23 (c_X5_copyFrom (d - 1) (by omega) 23 (Or.inr rfl) 15 (Or.inl rfl) (f_X10_empty  M101)) rfl rfl (Nat.le_of_ble_eq_true rfl) dX11_law_67 ?_
      refine gx_aload_n dX11_law_70 rfl ?_
      refine gx_getR fl_X11_49 sh0 rfl dX11_law_71 ?_
      refine gx_getI fl_X11_148 sh23 rfl dX11_law_74 ?_
      exact gx_iret rfl rfl dX11_law_77
    refine gx_aload_n dX11_law_48 rfl ?_
    refine gx_getR fl_X11_10 sh0 rfl dX11_law_49 ?_
    refine gx_cV_it (av := []) (st := []) ml_X11_137 (by omega) sh1 (c_X10_faultAnswer (d - 1) (by omega)  (f_X10_empty  M101)) rfl rfl (Nat.le_of_ble_eq_true rfl) dX11_law_52 ?_
    exact gx_iret rfl rfl dX11_law_55
  refine gx_iconst (x := (-1)) (by decide) dX11_law_14 ?_
  exact gx_iret rfl rfl dX11_law_15
theorem c_X11_law (d : Nat) (hd : 73 ≤ d) (n : Nat) (v1 : Int32) (M : HMem) : MX iX11_law d [.inr (some 0), .inl v1] M eI (f_X11_law n v1 M) := mx_of (by decide +kernel) (Nat.le_of_ble_eq_true rfl) rfl (w_X11_law d hd n v1 M)
-- X11_line
def f_X11_line (n : Nat) (v1 : Int32) (v2 : Int32) (v3 : Int32) (v4 : Int32) (v5 : Int32) (M : HMem) : Option (Int32 × HMem) :=
  hb1 (f_X0_courseOf v1) (fun r101 => match r101 with
    | none => (some ((-1), M))
    | some o102 => (if (f_X11_isOnLand v2 v3) = 0 then
        (some ((-1), M))
      else
        (if (f_X11_isWithin v4 9999) = 0 then
          (some ((-1), M))
        else
          (if (f_X10_canTell v5 60 M) = 0 then
            (some ((-1), M))
          else
            (hb1 (f_X7_read n  (f_X10_open v5 M)) (fun M103 =>
            if (f_X10_isSound  (f_X10_empty  M103)) = 0 then
              (some (f_X10_faultAnswer  (f_X10_empty  M103), f_X10_empty  M103))
            else
              (hb1 (f_X1_lay n o102 (f_X11_placeOf v2 v3) v4 (f_X10_empty  M103)) (fun M104 =>
              some (M104 o102 4, M104)))))))))
set_option maxRecDepth 20000 in
theorem w_X11_line (d : Nat) (hd : 72 ≤ d) (n : Nat) (v1 : Int32) (v2 : Int32) (v3 : Int32) (v4 : Int32) (v5 : Int32) (M : HMem) : GX iX11_line d eI (f_X11_line n v1 v2 v3 v4 v5 M) 0 [some (.inr (some 0)), some (.inl v1), some (.inl v2), some (.inl v3), some (.inl v4), some (.inl v5), none] [] M := by
  rw [f_X11_line]
  refine gx_aload_n dX11_line_0 rfl ?_
  refine gx_getR fl_X11_19 sh0 rfl dX11_line_1 ?_
  refine gx_iload_n dX11_line_4 rfl ?_
  refine gx_cV_rp (av := [.inl v1]) (st := []) ml_X11_151 (by omega) sh3 (c_X0_courseOf (d - 1) (by omega) v1 M) rfl rfl (Nat.le_of_ble_eq_true rfl) dX11_line_5 (fun r101 er101 => ?_)
  cases r101 with
  | none =>
    dsimp only
    refine gx_astoreN (lv' := [some (.inr (some 0)), some (.inl v1), some (.inl v2), some (.inl v3), some (.inl v4), some (.inl v5), some (.inr none)]) dX11_line_8 (by decide) rfl ?_
    refine gx_aloadN dX11_line_10 rfl ?_
    refine gx_ifnullN (tgt := 48) dX11_line_12 (by decide) ?_
    refine gx_iconst (x := (-1)) (by decide) dX11_line_48 ?_
    exact gx_iret rfl rfl dX11_line_49
  | some o102 =>
    have ho102 := co_X0_courseOf er101
    dsimp only
    refine gx_astore (lv' := [some (.inr (some 0)), some (.inl v1), some (.inl v2), some (.inl v3), some (.inl v4), some (.inl v5), some (.inr (some o102))]) dX11_line_8 (by decide) rfl ?_
    refine gx_aload dX11_line_10 rfl ?_
    refine gx_ifnullS dX11_line_12 ?_
    refine gx_iload_n dX11_line_15 rfl ?_
    refine gx_iload_n dX11_line_16 rfl ?_
    refine gx_cS_it (av := [.inl v2, .inl v3]) (st := []) ml_X11_92 (by omega) (c_X11_isOnLand (d - 1) (by omega) v2 v3 M) rfl rfl (Nat.le_of_ble_eq_true rfl) dX11_line_17 ?_
    refine gx_if_eq (tgt := 48) dX11_line_20 (by decide) ?_ ?_
    · refine gx_iconst (x := (-1)) (by decide) dX11_line_48 ?_
      exact gx_iret rfl rfl dX11_line_49
    refine gx_iload dX11_line_23 rfl ?_
    refine gx_sipush (x := 9999) (by decide) dX11_line_25 ?_
    refine gx_cS_it (av := [.inl v4, .inl 9999]) (st := []) ml_X11_88 (by omega) (c_X11_isWithin (d - 1) (by omega) v4 9999 M) rfl rfl (Nat.le_of_ble_eq_true rfl) dX11_line_28 ?_
    refine gx_if_eq (tgt := 48) dX11_line_31 (by decide) ?_ ?_
    · refine gx_iconst (x := (-1)) (by decide) dX11_line_48 ?_
      exact gx_iret rfl rfl dX11_line_49
    refine gx_aload_n dX11_line_34 rfl ?_
    refine gx_getR fl_X11_10 sh0 rfl dX11_line_35 ?_
    refine gx_iload dX11_line_38 rfl ?_
    refine gx_bipush (x := 60) (by decide) dX11_line_40 ?_
    refine gx_cV_it (av := [.inl v5, .inl 60]) (st := []) ml_X11_121 (by omega) sh1 (c_X10_canTell (d - 1) (by omega) v5 60 M) rfl rfl (Nat.le_of_ble_eq_true rfl) dX11_line_42 ?_
    refine gx_if_ne (tgt := 50) dX11_line_45 (by decide) ?_ ?_
    · refine gx_aload_n dX11_line_50 rfl ?_
      refine gx_getR fl_X11_10 sh0 rfl dX11_line_51 ?_
      refine gx_iload dX11_line_54 rfl ?_
      refine gx_cV_vt (av := [.inl v5]) (st := []) ml_X11_124 (by omega) sh1 (c_X10_open (d - 1) (by omega) v5 M) rfl rfl (Nat.le_of_ble_eq_true rfl) dX11_line_56 ?_
      refine gx_aload_n dX11_line_59 rfl ?_
      refine gx_getR fl_X11_28 sh0 rfl dX11_line_60 ?_
      refine gx_cV_vm (av := []) (st := []) ml_X11_155 (by omega) sh8 (c_X7_read (d - 1) (by omega) n  (f_X10_open v5 M)) rfl rfl (Nat.le_of_ble_eq_true rfl) dX11_line_63 (fun M103 => ?_)
      refine gx_aload_n dX11_line_66 rfl ?_
      refine gx_getR fl_X11_10 sh0 rfl dX11_line_67 ?_
      refine gx_cV_vt (av := []) (st := []) ml_X11_130 (by omega) sh1 (c_X10_empty (d - 1) (by omega)  M103) rfl rfl (Nat.le_of_ble_eq_true rfl) dX11_line_70 ?_
      refine gx_aload_n dX11_line_73 rfl ?_
      refine gx_getR fl_X11_10 sh0 rfl dX11_line_74 ?_
      refine gx_cV_it (av := []) (st := []) ml_X11_133 (by omega) sh1 (c_X10_isSound (d - 1) (by omega)  (f_X10_empty  M103)) rfl rfl (Nat.le_of_ble_eq_true rfl) dX11_line_77 ?_
      refine gx_if_ne (tgt := 91) dX11_line_80 (by decide) ?_ ?_
      · refine gx_aload dX11_line_91 rfl ?_
        refine gx_iload_n dX11_line_93 rfl ?_
        refine gx_iload_n dX11_line_94 rfl ?_
        refine gx_cS_it (av := [.inl v2, .inl v3]) (st := [.inr (some o102)]) ml_X11_95 (by omega) (c_X11_placeOf (d - 1) (by omega) v2 v3 (f_X10_empty  M103)) rfl rfl (Nat.le_of_ble_eq_true rfl) dX11_line_95 ?_
        refine gx_iload dX11_line_98 rfl ?_
        refine gx_aload_n dX11_line_100 rfl ?_
        refine gx_getR fl_X11_28 sh0 rfl dX11_line_101 ?_
        refine gx_cV_vm (av := [.inl (f_X11_placeOf v2 v3), .inl v4, .inr (some 8)]) (st := []) ml_X11_156 (by omega) (shC ho102) (c_X1_lay (d - 1) (by omega) n o102 ho102 (f_X11_placeOf v2 v3) v4 (f_X10_empty  M103)) rfl rfl (Nat.le_of_ble_eq_true rfl) dX11_line_104 (fun M104 => ?_)
        refine gx_aload dX11_line_107 rfl ?_
        refine gx_getI fl_X11_162 (shC ho102) rfl dX11_line_109 ?_
        exact gx_iret rfl rfl dX11_line_112
      refine gx_aload_n dX11_line_83 rfl ?_
      refine gx_getR fl_X11_10 sh0 rfl dX11_line_84 ?_
      refine gx_cV_it (av := []) (st := []) ml_X11_137 (by omega) sh1 (c_X10_faultAnswer (d - 1) (by omega)  (f_X10_empty  M103)) rfl rfl (Nat.le_of_ble_eq_true rfl) dX11_line_87 ?_
      exact gx_iret rfl rfl dX11_line_90
    refine gx_iconst (x := (-1)) (by decide) dX11_line_48 ?_
    exact gx_iret rfl rfl dX11_line_49
theorem c_X11_line (d : Nat) (hd : 72 ≤ d) (n : Nat) (v1 : Int32) (v2 : Int32) (v3 : Int32) (v4 : Int32) (v5 : Int32) (M : HMem) : MX iX11_line d [.inr (some 0), .inl v1, .inl v2, .inl v3, .inl v4, .inl v5] M eI (f_X11_line n v1 v2 v3 v4 v5 M) := mx_of (by decide +kernel) (Nat.le_of_ble_eq_true rfl) rfl (w_X11_line d hd n v1 v2 v3 v4 v5 M)
-- X11_land
def f_X11_land (n : Nat) (v1 : Int32) (M : HMem) : Option (Int32 × HMem) :=
  if (f_X10_canTell v1 160 M) = 0 then
    (some ((-1), M))
  else
    (hb1 (f_X4_read n  (f_X10_open v1 M)) (fun M101 =>
    if (f_X10_isSound  (f_X10_empty  M101)) = 0 then
      (some (f_X10_faultAnswer  (f_X10_empty  M101), f_X10_empty  M101))
    else
      (some ((f_X3_copyFrom 5 11 (f_X10_empty  M101)) 5 2, f_X3_copyFrom 5 11 (f_X10_empty  M101)))))
set_option maxRecDepth 20000 in
theorem w_X11_land (d : Nat) (hd : 6 ≤ d) (n : Nat) (v1 : Int32) (M : HMem) : GX iX11_land d eI (f_X11_land n v1 M) 0 [some (.inr (some 0)), some (.inl v1)] [] M := by
  rw [f_X11_land]
  refine gx_aload_n dX11_land_0 rfl ?_
  refine gx_getR fl_X11_10 sh0 rfl dX11_land_1 ?_
  refine gx_iload_n dX11_land_4 rfl ?_
  refine gx_sipush (x := 160) (by decide) dX11_land_5 ?_
  refine gx_cV_it (av := [.inl v1, .inl 160]) (st := []) ml_X11_121 (by omega) sh1 (c_X10_canTell (d - 1) (by omega) v1 160 M) rfl rfl (Nat.le_of_ble_eq_true rfl) dX11_land_8 ?_
  refine gx_if_ne (tgt := 16) dX11_land_11 (by decide) ?_ ?_
  · refine gx_aload_n dX11_land_16 rfl ?_
    refine gx_getR fl_X11_10 sh0 rfl dX11_land_17 ?_
    refine gx_iload_n dX11_land_20 rfl ?_
    refine gx_cV_vt (av := [.inl v1]) (st := []) ml_X11_124 (by omega) sh1 (c_X10_open (d - 1) (by omega) v1 M) rfl rfl (Nat.le_of_ble_eq_true rfl) dX11_land_21 ?_
    refine gx_aload_n dX11_land_24 rfl ?_
    refine gx_getR fl_X11_35 sh0 rfl dX11_land_25 ?_
    refine gx_cV_vm (av := []) (st := []) ml_X11_165 (by omega) sh10 (c_X4_read (d - 1) (by omega) n  (f_X10_open v1 M)) rfl rfl (Nat.le_of_ble_eq_true rfl) dX11_land_28 (fun M101 => ?_)
    refine gx_aload_n dX11_land_31 rfl ?_
    refine gx_getR fl_X11_10 sh0 rfl dX11_land_32 ?_
    refine gx_cV_vt (av := []) (st := []) ml_X11_130 (by omega) sh1 (c_X10_empty (d - 1) (by omega)  M101) rfl rfl (Nat.le_of_ble_eq_true rfl) dX11_land_35 ?_
    refine gx_aload_n dX11_land_38 rfl ?_
    refine gx_getR fl_X11_10 sh0 rfl dX11_land_39 ?_
    refine gx_cV_it (av := []) (st := []) ml_X11_133 (by omega) sh1 (c_X10_isSound (d - 1) (by omega)  (f_X10_empty  M101)) rfl rfl (Nat.le_of_ble_eq_true rfl) dX11_land_42 ?_
    refine gx_if_ne (tgt := 56) dX11_land_45 (by decide) ?_ ?_
    · refine gx_aload_n dX11_land_56 rfl ?_
      refine gx_getR fl_X11_19 sh0 rfl dX11_land_57 ?_
      refine gx_getR fl_X11_166 sh3 rfl dX11_land_60 ?_
      refine gx_aload_n dX11_land_63 rfl ?_
      refine gx_getR fl_X11_35 sh0 rfl dX11_land_64 ?_
      refine gx_getR fl_X11_170 sh10 rfl dX11_land_67 ?_
      refine gx_cV_vt (av := [.inr (some 11)]) (st := []) ml_X11_172 (by omega) sh5 (c_X3_copyFrom (d - 1) (by omega) 5 (Or.inl rfl) 11 (Or.inr rfl) (f_X10_empty  M101)) rfl rfl (Nat.le_of_ble_eq_true rfl) dX11_land_70 ?_
      refine gx_aload_n dX11_land_73 rfl ?_
      refine gx_getR fl_X11_19 sh0 rfl dX11_land_74 ?_
      refine gx_getR fl_X11_166 sh3 rfl dX11_land_77 ?_
      refine gx_getI fl_X11_177 sh5 rfl dX11_land_80 ?_
      exact gx_iret rfl rfl dX11_land_83
    refine gx_aload_n dX11_land_48 rfl ?_
    refine gx_getR fl_X11_10 sh0 rfl dX11_land_49 ?_
    refine gx_cV_it (av := []) (st := []) ml_X11_137 (by omega) sh1 (c_X10_faultAnswer (d - 1) (by omega)  (f_X10_empty  M101)) rfl rfl (Nat.le_of_ble_eq_true rfl) dX11_land_52 ?_
    exact gx_iret rfl rfl dX11_land_55
  refine gx_iconst (x := (-1)) (by decide) dX11_land_14 ?_
  exact gx_iret rfl rfl dX11_land_15
theorem c_X11_land (d : Nat) (hd : 6 ≤ d) (n : Nat) (v1 : Int32) (M : HMem) : MX iX11_land d [.inr (some 0), .inl v1] M eI (f_X11_land n v1 M) := mx_of (by decide +kernel) (Nat.le_of_ble_eq_true rfl) rfl (w_X11_land d hd n v1 M)
-- J6_bitCount_0f7a4
def f_J6_bitCount_0f7a4 (v0 : Int32) : Int32 :=
  ((((((((v0 - ((((Int32.toUInt32 v0) >>> ((Int32.toUInt32 1) &&& Int32.toUInt32 31)).toInt32) &&& 1431655765)) &&& 858993459) + ((((Int32.toUInt32 (v0 - ((((Int32.toUInt32 v0) >>> ((Int32.toUInt32 1) &&& Int32.toUInt32 31)).toInt32) &&& 1431655765))) >>> ((Int32.toUInt32 2) &&& Int32.toUInt32 31)).toInt32) &&& 858993459)) + (((Int32.toUInt32 (((v0 - ((((Int32.toUInt32 v0) >>> ((Int32.toUInt32 1) &&& Int32.toUInt32 31)).toInt32) &&& 1431655765)) &&& 858993459) + ((((Int32.toUInt32 (v0 - ((((Int32.toUInt32 v0) >>> ((Int32.toUInt32 1) &&& Int32.toUInt32 31)).toInt32) &&& 1431655765))) >>> ((Int32.toUInt32 2) &&& Int32.toUInt32 31)).toInt32) &&& 858993459))) >>> ((Int32.toUInt32 4) &&& Int32.toUInt32 31)).toInt32)) &&& 252645135) + (((Int32.toUInt32 (((((v0 - ((((Int32.toUInt32 v0) >>> ((Int32.toUInt32 1) &&& Int32.toUInt32 31)).toInt32) &&& 1431655765)) &&& 858993459) + ((((Int32.toUInt32 (v0 - ((((Int32.toUInt32 v0) >>> ((Int32.toUInt32 1) &&& Int32.toUInt32 31)).toInt32) &&& 1431655765))) >>> ((Int32.toUInt32 2) &&& Int32.toUInt32 31)).toInt32) &&& 858993459)) + (((Int32.toUInt32 (((v0 - ((((Int32.toUInt32 v0) >>> ((Int32.toUInt32 1) &&& Int32.toUInt32 31)).toInt32) &&& 1431655765)) &&& 858993459) + ((((Int32.toUInt32 (v0 - ((((Int32.toUInt32 v0) >>> ((Int32.toUInt32 1) &&& Int32.toUInt32 31)).toInt32) &&& 1431655765))) >>> ((Int32.toUInt32 2) &&& Int32.toUInt32 31)).toInt32) &&& 858993459))) >>> ((Int32.toUInt32 4) &&& Int32.toUInt32 31)).toInt32)) &&& 252645135)) >>> ((Int32.toUInt32 8) &&& Int32.toUInt32 31)).toInt32)) + (((Int32.toUInt32 ((((((v0 - ((((Int32.toUInt32 v0) >>> ((Int32.toUInt32 1) &&& Int32.toUInt32 31)).toInt32) &&& 1431655765)) &&& 858993459) + ((((Int32.toUInt32 (v0 - ((((Int32.toUInt32 v0) >>> ((Int32.toUInt32 1) &&& Int32.toUInt32 31)).toInt32) &&& 1431655765))) >>> ((Int32.toUInt32 2) &&& Int32.toUInt32 31)).toInt32) &&& 858993459)) + (((Int32.toUInt32 (((v0 - ((((Int32.toUInt32 v0) >>> ((Int32.toUInt32 1) &&& Int32.toUInt32 31)).toInt32) &&& 1431655765)) &&& 858993459) + ((((Int32.toUInt32 (v0 - ((((Int32.toUInt32 v0) >>> ((Int32.toUInt32 1) &&& Int32.toUInt32 31)).toInt32) &&& 1431655765))) >>> ((Int32.toUInt32 2) &&& Int32.toUInt32 31)).toInt32) &&& 858993459))) >>> ((Int32.toUInt32 4) &&& Int32.toUInt32 31)).toInt32)) &&& 252645135) + (((Int32.toUInt32 (((((v0 - ((((Int32.toUInt32 v0) >>> ((Int32.toUInt32 1) &&& Int32.toUInt32 31)).toInt32) &&& 1431655765)) &&& 858993459) + ((((Int32.toUInt32 (v0 - ((((Int32.toUInt32 v0) >>> ((Int32.toUInt32 1) &&& Int32.toUInt32 31)).toInt32) &&& 1431655765))) >>> ((Int32.toUInt32 2) &&& Int32.toUInt32 31)).toInt32) &&& 858993459)) + (((Int32.toUInt32 (((v0 - ((((Int32.toUInt32 v0) >>> ((Int32.toUInt32 1) &&& Int32.toUInt32 31)).toInt32) &&& 1431655765)) &&& 858993459) + ((((Int32.toUInt32 (v0 - ((((Int32.toUInt32 v0) >>> ((Int32.toUInt32 1) &&& Int32.toUInt32 31)).toInt32) &&& 1431655765))) >>> ((Int32.toUInt32 2) &&& Int32.toUInt32 31)).toInt32) &&& 858993459))) >>> ((Int32.toUInt32 4) &&& Int32.toUInt32 31)).toInt32)) &&& 252645135)) >>> ((Int32.toUInt32 8) &&& Int32.toUInt32 31)).toInt32))) >>> ((Int32.toUInt32 16) &&& Int32.toUInt32 31)).toInt32)) &&& 63)
set_option maxRecDepth 20000 in
theorem w_J6_bitCount_0f7a4 (d : Nat) (hd : 0 ≤ d) (v0 : Int32) (M : HMem) : GX iJ6_bitCount_0f7a4 d (eP M) (some (f_J6_bitCount_0f7a4 v0)) 0 [some (.inl v0)] [] M := by
  rw [f_J6_bitCount_0f7a4]
  refine gx_iload_n dJ6_bitCount_0f7a4_0 rfl ?_
  refine gx_iload_n dJ6_bitCount_0f7a4_1 rfl ?_
  refine gx_iconst (x := 1) (by decide) dJ6_bitCount_0f7a4_2 ?_
  refine gx_iushr dJ6_bitCount_0f7a4_3 ?_
  refine gx_ldcw (x := 1431655765) mw899 dJ6_bitCount_0f7a4_4 ?_
  refine gx_iand dJ6_bitCount_0f7a4_7 ?_
  refine gx_isub dJ6_bitCount_0f7a4_8 ?_
  refine gx_istore_n (lv' := [some (.inl (v0 - ((((Int32.toUInt32 v0) >>> ((Int32.toUInt32 1) &&& Int32.toUInt32 31)).toInt32) &&& 1431655765)))]) dJ6_bitCount_0f7a4_9 (by decide) rfl ?_
  refine gx_iload_n dJ6_bitCount_0f7a4_10 rfl ?_
  refine gx_ldcw (x := 858993459) mw900 dJ6_bitCount_0f7a4_11 ?_
  refine gx_iand dJ6_bitCount_0f7a4_14 ?_
  refine gx_iload_n dJ6_bitCount_0f7a4_15 rfl ?_
  refine gx_iconst (x := 2) (by decide) dJ6_bitCount_0f7a4_16 ?_
  refine gx_iushr dJ6_bitCount_0f7a4_17 ?_
  refine gx_ldcw (x := 858993459) mw900 dJ6_bitCount_0f7a4_18 ?_
  refine gx_iand dJ6_bitCount_0f7a4_21 ?_
  refine gx_iadd dJ6_bitCount_0f7a4_22 ?_
  refine gx_istore_n (lv' := [some (.inl (((v0 - ((((Int32.toUInt32 v0) >>> ((Int32.toUInt32 1) &&& Int32.toUInt32 31)).toInt32) &&& 1431655765)) &&& 858993459) + ((((Int32.toUInt32 (v0 - ((((Int32.toUInt32 v0) >>> ((Int32.toUInt32 1) &&& Int32.toUInt32 31)).toInt32) &&& 1431655765))) >>> ((Int32.toUInt32 2) &&& Int32.toUInt32 31)).toInt32) &&& 858993459)))]) dJ6_bitCount_0f7a4_23 (by decide) rfl ?_
  refine gx_iload_n dJ6_bitCount_0f7a4_24 rfl ?_
  refine gx_iload_n dJ6_bitCount_0f7a4_25 rfl ?_
  refine gx_iconst (x := 4) (by decide) dJ6_bitCount_0f7a4_26 ?_
  refine gx_iushr dJ6_bitCount_0f7a4_27 ?_
  refine gx_iadd dJ6_bitCount_0f7a4_28 ?_
  refine gx_ldcw (x := 252645135) mw901 dJ6_bitCount_0f7a4_29 ?_
  refine gx_iand dJ6_bitCount_0f7a4_32 ?_
  refine gx_istore_n (lv' := [some (.inl (((((v0 - ((((Int32.toUInt32 v0) >>> ((Int32.toUInt32 1) &&& Int32.toUInt32 31)).toInt32) &&& 1431655765)) &&& 858993459) + ((((Int32.toUInt32 (v0 - ((((Int32.toUInt32 v0) >>> ((Int32.toUInt32 1) &&& Int32.toUInt32 31)).toInt32) &&& 1431655765))) >>> ((Int32.toUInt32 2) &&& Int32.toUInt32 31)).toInt32) &&& 858993459)) + (((Int32.toUInt32 (((v0 - ((((Int32.toUInt32 v0) >>> ((Int32.toUInt32 1) &&& Int32.toUInt32 31)).toInt32) &&& 1431655765)) &&& 858993459) + ((((Int32.toUInt32 (v0 - ((((Int32.toUInt32 v0) >>> ((Int32.toUInt32 1) &&& Int32.toUInt32 31)).toInt32) &&& 1431655765))) >>> ((Int32.toUInt32 2) &&& Int32.toUInt32 31)).toInt32) &&& 858993459))) >>> ((Int32.toUInt32 4) &&& Int32.toUInt32 31)).toInt32)) &&& 252645135))]) dJ6_bitCount_0f7a4_33 (by decide) rfl ?_
  refine gx_iload_n dJ6_bitCount_0f7a4_34 rfl ?_
  refine gx_iload_n dJ6_bitCount_0f7a4_35 rfl ?_
  refine gx_bipush (x := 8) (by decide) dJ6_bitCount_0f7a4_36 ?_
  refine gx_iushr dJ6_bitCount_0f7a4_38 ?_
  refine gx_iadd dJ6_bitCount_0f7a4_39 ?_
  refine gx_istore_n (lv' := [some (.inl ((((((v0 - ((((Int32.toUInt32 v0) >>> ((Int32.toUInt32 1) &&& Int32.toUInt32 31)).toInt32) &&& 1431655765)) &&& 858993459) + ((((Int32.toUInt32 (v0 - ((((Int32.toUInt32 v0) >>> ((Int32.toUInt32 1) &&& Int32.toUInt32 31)).toInt32) &&& 1431655765))) >>> ((Int32.toUInt32 2) &&& Int32.toUInt32 31)).toInt32) &&& 858993459)) + (((Int32.toUInt32 (((v0 - ((((Int32.toUInt32 v0) >>> ((Int32.toUInt32 1) &&& Int32.toUInt32 31)).toInt32) &&& 1431655765)) &&& 858993459) + ((((Int32.toUInt32 (v0 - ((((Int32.toUInt32 v0) >>> ((Int32.toUInt32 1) &&& Int32.toUInt32 31)).toInt32) &&& 1431655765))) >>> ((Int32.toUInt32 2) &&& Int32.toUInt32 31)).toInt32) &&& 858993459))) >>> ((Int32.toUInt32 4) &&& Int32.toUInt32 31)).toInt32)) &&& 252645135) + (((Int32.toUInt32 (((((v0 - ((((Int32.toUInt32 v0) >>> ((Int32.toUInt32 1) &&& Int32.toUInt32 31)).toInt32) &&& 1431655765)) &&& 858993459) + ((((Int32.toUInt32 (v0 - ((((Int32.toUInt32 v0) >>> ((Int32.toUInt32 1) &&& Int32.toUInt32 31)).toInt32) &&& 1431655765))) >>> ((Int32.toUInt32 2) &&& Int32.toUInt32 31)).toInt32) &&& 858993459)) + (((Int32.toUInt32 (((v0 - ((((Int32.toUInt32 v0) >>> ((Int32.toUInt32 1) &&& Int32.toUInt32 31)).toInt32) &&& 1431655765)) &&& 858993459) + ((((Int32.toUInt32 (v0 - ((((Int32.toUInt32 v0) >>> ((Int32.toUInt32 1) &&& Int32.toUInt32 31)).toInt32) &&& 1431655765))) >>> ((Int32.toUInt32 2) &&& Int32.toUInt32 31)).toInt32) &&& 858993459))) >>> ((Int32.toUInt32 4) &&& Int32.toUInt32 31)).toInt32)) &&& 252645135)) >>> ((Int32.toUInt32 8) &&& Int32.toUInt32 31)).toInt32)))]) dJ6_bitCount_0f7a4_40 (by decide) rfl ?_
  refine gx_iload_n dJ6_bitCount_0f7a4_41 rfl ?_
  refine gx_iload_n dJ6_bitCount_0f7a4_42 rfl ?_
  refine gx_bipush (x := 16) (by decide) dJ6_bitCount_0f7a4_43 ?_
  refine gx_iushr dJ6_bitCount_0f7a4_45 ?_
  refine gx_iadd dJ6_bitCount_0f7a4_46 ?_
  refine gx_istore_n (lv' := [some (.inl (((((((v0 - ((((Int32.toUInt32 v0) >>> ((Int32.toUInt32 1) &&& Int32.toUInt32 31)).toInt32) &&& 1431655765)) &&& 858993459) + ((((Int32.toUInt32 (v0 - ((((Int32.toUInt32 v0) >>> ((Int32.toUInt32 1) &&& Int32.toUInt32 31)).toInt32) &&& 1431655765))) >>> ((Int32.toUInt32 2) &&& Int32.toUInt32 31)).toInt32) &&& 858993459)) + (((Int32.toUInt32 (((v0 - ((((Int32.toUInt32 v0) >>> ((Int32.toUInt32 1) &&& Int32.toUInt32 31)).toInt32) &&& 1431655765)) &&& 858993459) + ((((Int32.toUInt32 (v0 - ((((Int32.toUInt32 v0) >>> ((Int32.toUInt32 1) &&& Int32.toUInt32 31)).toInt32) &&& 1431655765))) >>> ((Int32.toUInt32 2) &&& Int32.toUInt32 31)).toInt32) &&& 858993459))) >>> ((Int32.toUInt32 4) &&& Int32.toUInt32 31)).toInt32)) &&& 252645135) + (((Int32.toUInt32 (((((v0 - ((((Int32.toUInt32 v0) >>> ((Int32.toUInt32 1) &&& Int32.toUInt32 31)).toInt32) &&& 1431655765)) &&& 858993459) + ((((Int32.toUInt32 (v0 - ((((Int32.toUInt32 v0) >>> ((Int32.toUInt32 1) &&& Int32.toUInt32 31)).toInt32) &&& 1431655765))) >>> ((Int32.toUInt32 2) &&& Int32.toUInt32 31)).toInt32) &&& 858993459)) + (((Int32.toUInt32 (((v0 - ((((Int32.toUInt32 v0) >>> ((Int32.toUInt32 1) &&& Int32.toUInt32 31)).toInt32) &&& 1431655765)) &&& 858993459) + ((((Int32.toUInt32 (v0 - ((((Int32.toUInt32 v0) >>> ((Int32.toUInt32 1) &&& Int32.toUInt32 31)).toInt32) &&& 1431655765))) >>> ((Int32.toUInt32 2) &&& Int32.toUInt32 31)).toInt32) &&& 858993459))) >>> ((Int32.toUInt32 4) &&& Int32.toUInt32 31)).toInt32)) &&& 252645135)) >>> ((Int32.toUInt32 8) &&& Int32.toUInt32 31)).toInt32)) + (((Int32.toUInt32 ((((((v0 - ((((Int32.toUInt32 v0) >>> ((Int32.toUInt32 1) &&& Int32.toUInt32 31)).toInt32) &&& 1431655765)) &&& 858993459) + ((((Int32.toUInt32 (v0 - ((((Int32.toUInt32 v0) >>> ((Int32.toUInt32 1) &&& Int32.toUInt32 31)).toInt32) &&& 1431655765))) >>> ((Int32.toUInt32 2) &&& Int32.toUInt32 31)).toInt32) &&& 858993459)) + (((Int32.toUInt32 (((v0 - ((((Int32.toUInt32 v0) >>> ((Int32.toUInt32 1) &&& Int32.toUInt32 31)).toInt32) &&& 1431655765)) &&& 858993459) + ((((Int32.toUInt32 (v0 - ((((Int32.toUInt32 v0) >>> ((Int32.toUInt32 1) &&& Int32.toUInt32 31)).toInt32) &&& 1431655765))) >>> ((Int32.toUInt32 2) &&& Int32.toUInt32 31)).toInt32) &&& 858993459))) >>> ((Int32.toUInt32 4) &&& Int32.toUInt32 31)).toInt32)) &&& 252645135) + (((Int32.toUInt32 (((((v0 - ((((Int32.toUInt32 v0) >>> ((Int32.toUInt32 1) &&& Int32.toUInt32 31)).toInt32) &&& 1431655765)) &&& 858993459) + ((((Int32.toUInt32 (v0 - ((((Int32.toUInt32 v0) >>> ((Int32.toUInt32 1) &&& Int32.toUInt32 31)).toInt32) &&& 1431655765))) >>> ((Int32.toUInt32 2) &&& Int32.toUInt32 31)).toInt32) &&& 858993459)) + (((Int32.toUInt32 (((v0 - ((((Int32.toUInt32 v0) >>> ((Int32.toUInt32 1) &&& Int32.toUInt32 31)).toInt32) &&& 1431655765)) &&& 858993459) + ((((Int32.toUInt32 (v0 - ((((Int32.toUInt32 v0) >>> ((Int32.toUInt32 1) &&& Int32.toUInt32 31)).toInt32) &&& 1431655765))) >>> ((Int32.toUInt32 2) &&& Int32.toUInt32 31)).toInt32) &&& 858993459))) >>> ((Int32.toUInt32 4) &&& Int32.toUInt32 31)).toInt32)) &&& 252645135)) >>> ((Int32.toUInt32 8) &&& Int32.toUInt32 31)).toInt32))) >>> ((Int32.toUInt32 16) &&& Int32.toUInt32 31)).toInt32)))]) dJ6_bitCount_0f7a4_47 (by decide) rfl ?_
  refine gx_iload_n dJ6_bitCount_0f7a4_48 rfl ?_
  refine gx_bipush (x := 63) (by decide) dJ6_bitCount_0f7a4_49 ?_
  refine gx_iand dJ6_bitCount_0f7a4_51 ?_
  exact gx_iret rfl rfl dJ6_bitCount_0f7a4_52
theorem c_J6_bitCount_0f7a4 (d : Nat) (hd : 0 ≤ d) (v0 : Int32) (M : HMem) : MX iJ6_bitCount_0f7a4 d [.inl v0] M (eP M) (some (f_J6_bitCount_0f7a4 v0)) := mx_of (by decide +kernel) (Nat.le_of_ble_eq_true rfl) rfl (w_J6_bitCount_0f7a4 d hd v0 M)
-- X11_moments
def f_X11_moments_L15 (n : Nat) (v1 : Int32) : Nat → Int32 → HMem → Option (Int32 × HMem)
  | 0, _, _ => none
  | k + 1, v2, M =>
    if v1 ≤ v2 then
      (hb1 (f_X8_bitsOf n 35 0 M) (fun x101 =>
      some (f_J6_bitCount_0f7a4 x101, M)))
    else
      (if 9999 ≤ (M 35 4) then
        (hb1 (f_X8_bitsOf n 35 0 M) (fun x102 =>
        some (f_J6_bitCount_0f7a4 x102, M)))
      else
        (hb1 (f_X2_passMoment n 35 M) (fun M103 =>
        f_X11_moments_L15 n v1 k (v2 + 1) M103)))
set_option maxRecDepth 20000 in
theorem w_X11_moments_L15 (d : Nat) (hd : 7 ≤ d) (n : Nat) (v1 : Int32) : ∀ (k : Nat) (v2 : Int32) (M : HMem), GX iX11_moments d eI (f_X11_moments_L15 n v1 k v2 M) 15 [some (.inr (some 0)), some (.inl v1), some (.inl v2)] [] M := by
  intro k
  induction k with
  | zero => intro v2 M; exact gx_none
  | succ k ih =>
    intro v2 M
    rw [f_X11_moments_L15]
    refine gx_iload_n dX11_moments_15 rfl ?_
    refine gx_iload_n dX11_moments_16 rfl ?_
    refine gx_icmp_ge (tgt := 50) dX11_moments_17 (by decide) ?_ ?_
    · refine gx_aload_n dX11_moments_50 rfl ?_
      refine gx_getR fl_X11_74 sh0 rfl dX11_moments_51 ?_
      refine gx_iconst (x := 0) (by decide) dX11_moments_54 ?_
      refine gx_cV_ip (av := [.inl 0]) (st := []) ml_X11_182 (by omega) sh35 (c_X8_bitsOf (d - 1) (by omega) n 35 (Or.inl rfl) 0 M) rfl rfl (Nat.le_of_ble_eq_true rfl) dX11_moments_55 (fun x101 => ?_)
      refine gx_cS_it (av := [.inl x101]) (st := []) ml_X11_186 (by omega) (c_J6_bitCount_0f7a4 (d - 1) (by omega) x101 M) rfl rfl (Nat.le_of_ble_eq_true rfl) dX11_moments_58 ?_
      exact gx_iret rfl rfl dX11_moments_61
    refine gx_aload_n dX11_moments_20 rfl ?_
    refine gx_getR fl_X11_74 sh0 rfl dX11_moments_21 ?_
    refine gx_getI fl_X11_107 sh35 rfl dX11_moments_24 ?_
    refine gx_sipush (x := 9999) (by decide) dX11_moments_27 ?_
    refine gx_icmp_ge (tgt := 50) dX11_moments_30 (by decide) ?_ ?_
    · refine gx_aload_n dX11_moments_50 rfl ?_
      refine gx_getR fl_X11_74 sh0 rfl dX11_moments_51 ?_
      refine gx_iconst (x := 0) (by decide) dX11_moments_54 ?_
      refine gx_cV_ip (av := [.inl 0]) (st := []) ml_X11_182 (by omega) sh35 (c_X8_bitsOf (d - 1) (by omega) n 35 (Or.inl rfl) 0 M) rfl rfl (Nat.le_of_ble_eq_true rfl) dX11_moments_55 (fun x102 => ?_)
      refine gx_cS_it (av := [.inl x102]) (st := []) ml_X11_186 (by omega) (c_J6_bitCount_0f7a4 (d - 1) (by omega) x102 M) rfl rfl (Nat.le_of_ble_eq_true rfl) dX11_moments_58 ?_
      exact gx_iret rfl rfl dX11_moments_61
    refine gx_aload_n dX11_moments_33 rfl ?_
    refine gx_getR fl_X11_58 sh0 rfl dX11_moments_34 ?_
    refine gx_aload_n dX11_moments_37 rfl ?_
    refine gx_getR fl_X11_74 sh0 rfl dX11_moments_38 ?_
    refine gx_cV_vm (av := [.inr (some 35)]) (st := []) ml_X11_178 (by omega) sh31 (c_X2_passMoment (d - 1) (by omega) n 35 (Or.inl rfl) M) rfl rfl (Nat.le_of_ble_eq_true rfl) dX11_moments_41 (fun M103 => ?_)
    refine gx_iinc (y := v2 + 1) (lv' := [some (.inr (some 0)), some (.inl v1), some (.inl (v2 + 1))]) dX11_moments_44 rfl rfl (by decide) rfl ?_
    refine gx_goto (tgt := 15) dX11_moments_47 (by decide) ?_
    refine gx_mk (lv' := [some (.inr (some 0)), some (.inl v1), some (.inl (v2 + 1))]) [true, true, true] rfl ?_
    exact ih (v2 + 1) M103
def f_X11_moments (n : Nat) (v1 : Int32) (M : HMem) : Option (Int32 × HMem) :=
  if v1 < 1 then
    (some ((-1), M))
  else
    (if v1 ≤ 100 then
      (f_X11_moments_L15 n v1 n 0 M)
    else
      (some ((-1), M)))
set_option maxRecDepth 20000 in
theorem w_X11_moments (d : Nat) (hd : 7 ≤ d) (n : Nat) (v1 : Int32) (M : HMem) : GX iX11_moments d eI (f_X11_moments n v1 M) 0 [some (.inr (some 0)), some (.inl v1), none] [] M := by
  rw [f_X11_moments]
  refine gx_iload_n dX11_moments_0 rfl ?_
  refine gx_iconst (x := 1) (by decide) dX11_moments_1 ?_
  refine gx_icmp_lt (tgt := 11) dX11_moments_2 (by decide) ?_ ?_
  · refine gx_iconst (x := (-1)) (by decide) dX11_moments_11 ?_
    exact gx_iret rfl rfl dX11_moments_12
  refine gx_iload_n dX11_moments_5 rfl ?_
  refine gx_bipush (x := 100) (by decide) dX11_moments_6 ?_
  refine gx_icmp_le (tgt := 13) dX11_moments_8 (by decide) ?_ ?_
  · refine gx_iconst (x := 0) (by decide) dX11_moments_13 ?_
    refine gx_istore_n (lv' := [some (.inr (some 0)), some (.inl v1), some (.inl 0)]) dX11_moments_14 (by decide) rfl ?_
    refine gx_mk (lv' := [some (.inr (some 0)), some (.inl v1), some (.inl 0)]) [true, true, true] rfl ?_
    exact w_X11_moments_L15 d hd n v1 n 0 M
  refine gx_iconst (x := (-1)) (by decide) dX11_moments_11 ?_
  exact gx_iret rfl rfl dX11_moments_12
theorem c_X11_moments (d : Nat) (hd : 7 ≤ d) (n : Nat) (v1 : Int32) (M : HMem) : MX iX11_moments d [.inr (some 0), .inl v1] M eI (f_X11_moments n v1 M) := mx_of (by decide +kernel) (Nat.le_of_ble_eq_true rfl) rfl (w_X11_moments d hd n v1 M)
-- X11_isTriable
def f_X11_isTriable_J11 (v1 : Int32) (M : HMem) : Option Int32 :=
  if v1 < 10 then
    (some 0)
  else
    (if 40 ≤ v1 then
      (some 0)
    else
      (hb1 (f_X8_isTold 35 (v1 - v1 / 10 * 10) M) (fun x101 =>
      if x101 = 0 then
        (some 0)
      else
        (some 1))))
set_option maxRecDepth 20000 in
theorem w_X11_isTriable_J11 (d : Nat) (hd : 3 ≤ d) (M : HMem) (v1 : Int32) : GX iX11_isTriable d (eP M) (f_X11_isTriable_J11 v1 M) 11 [some (.inr (some 0)), some (.inl v1)] [] M := by
  rw [f_X11_isTriable_J11]
  refine gx_iload_n dX11_isTriable_11 rfl ?_
  refine gx_bipush (x := 10) (by decide) dX11_isTriable_12 ?_
  refine gx_icmp_lt (tgt := 41) dX11_isTriable_14 (by decide) ?_ ?_
  · refine gx_iconst (x := 0) (by decide) dX11_isTriable_41 ?_
    exact gx_zret rfl (by decide) rfl dX11_isTriable_42
  refine gx_iload_n dX11_isTriable_17 rfl ?_
  refine gx_bipush (x := 40) (by decide) dX11_isTriable_18 ?_
  refine gx_icmp_ge (tgt := 41) dX11_isTriable_20 (by decide) ?_ ?_
  · refine gx_iconst (x := 0) (by decide) dX11_isTriable_41 ?_
    exact gx_zret rfl (by decide) rfl dX11_isTriable_42
  refine gx_aload_n dX11_isTriable_23 rfl ?_
  refine gx_getR fl_X11_74 sh0 rfl dX11_isTriable_24 ?_
  refine gx_iload_n dX11_isTriable_27 rfl ?_
  refine gx_bipush (x := 10) (by decide) dX11_isTriable_28 ?_
  refine gx_iremL (by decide) dX11_isTriable_30 ?_
  refine gx_cV_ip (av := [.inl (v1 - v1 / 10 * 10)]) (st := []) ml_X11_205 (by omega) sh35 (c_X8_isTold (d - 1) (by omega) 35 (Or.inl rfl) (v1 - v1 / 10 * 10) M) rfl rfl (Nat.le_of_ble_eq_true rfl) dX11_isTriable_31 (fun x101 => ?_)
  refine gx_if_eq (tgt := 41) dX11_isTriable_34 (by decide) ?_ ?_
  · refine gx_iconst (x := 0) (by decide) dX11_isTriable_41 ?_
    exact gx_zret rfl (by decide) rfl dX11_isTriable_42
  refine gx_iconst (x := 1) (by decide) dX11_isTriable_37 ?_
  refine gx_goto (tgt := 42) dX11_isTriable_38 (by decide) ?_
  exact gx_zret rfl (by decide) rfl dX11_isTriable_42
def f_X11_isTriable (v1 : Int32) (M : HMem) : Option Int32 :=
  if v1 < 0 then
    (f_X11_isTriable_J11 v1 M)
  else
    (if 2 < v1 then
      (f_X11_isTriable_J11 v1 M)
    else
      (some 1))
set_option maxRecDepth 20000 in
theorem w_X11_isTriable (d : Nat) (hd : 3 ≤ d) (v1 : Int32) (M : HMem) : GX iX11_isTriable d (eP M) (f_X11_isTriable v1 M) 0 [some (.inr (some 0)), some (.inl v1)] [] M := by
  rw [f_X11_isTriable]
  refine gx_iload_n dX11_isTriable_0 rfl ?_
  refine gx_if_lt (tgt := 11) dX11_isTriable_1 (by decide) ?_ ?_
  · refine gx_mk (lv' := [some (.inr (some 0)), some (.inl v1)]) [true, true] rfl ?_
    exact w_X11_isTriable_J11 d hd M v1
  refine gx_iload_n dX11_isTriable_4 rfl ?_
  refine gx_iconst (x := 2) (by decide) dX11_isTriable_5 ?_
  refine gx_icmp_gt (tgt := 11) dX11_isTriable_6 (by decide) ?_ ?_
  · refine gx_mk (lv' := [some (.inr (some 0)), some (.inl v1)]) [true, true] rfl ?_
    exact w_X11_isTriable_J11 d hd M v1
  refine gx_iconst (x := 1) (by decide) dX11_isTriable_9 ?_
  exact gx_zret rfl (by decide) rfl dX11_isTriable_10
theorem c_X11_isTriable (d : Nat) (hd : 3 ≤ d) (v1 : Int32) (M : HMem) : MX iX11_isTriable d [.inr (some 0), .inl v1] M (eP M) (f_X11_isTriable v1 M) := mx_of (by decide +kernel) (Nat.le_of_ble_eq_true rfl) rfl (w_X11_isTriable d hd v1 M)
-- X11_tried
def f_X11_tried_J69 (n : Nat) (v2 : Int32) (M : HMem) : Option (Int32 × HMem) :=
  if 2 < v2 then
    (hb1 (some (v2 / 10)) (fun x101 =>
    if x101 = 1 then
      (hb1 (f_X8_placeOfHound 45 (v2 - v2 / 10 * 10) M) (fun x102 =>
      some (x102, M)))
    else if x101 = 2 then
      (hb1 (f_X8_timeOf 45 (v2 - v2 / 10 * 10) M) (fun x103 =>
      some (x103, M)))
    else (hb1 (f_X8_faultsOf 45 (v2 - v2 / 10 * 10) M) (fun x104 =>
    some (x104, M)))))
  else
    (hb1 (f_X8_bitsOf n 45 v2 M) (fun x105 =>
    some (x105, M)))
set_option maxRecDepth 20000 in
theorem w_X11_tried_J69 (d : Nat) (hd : 7 ≤ d) (n : Nat) (M : HMem) (v2 : Int32) : GX iX11_tried d eI (f_X11_tried_J69 n v2 M) 69 [some (.inr (some 0)), none, some (.inl v2), none] [] M := by
  rw [f_X11_tried_J69]
  refine gx_iload_n dX11_tried_69 rfl ?_
  refine gx_iconst (x := 2) (by decide) dX11_tried_70 ?_
  refine gx_icmp_gt (tgt := 83) dX11_tried_71 (by decide) ?_ ?_
  · refine gx_iload_n dX11_tried_83 rfl ?_
    refine gx_bipush (x := 10) (by decide) dX11_tried_84 ?_
    refine gx_iremL (by decide) dX11_tried_86 ?_
    refine gx_istore_n (lv' := [some (.inr (some 0)), none, some (.inl v2), some (.inl (v2 - v2 / 10 * 10))]) dX11_tried_87 (by decide) rfl ?_
    refine gx_iload_n dX11_tried_88 rfl ?_
    refine gx_bipush (x := 10) (by decide) dX11_tried_89 ?_
    refine gx_idivL (by decide) dX11_tried_91 ?_
    refine gx_ni (fun x101 => ?_)
    refine gx_swL (k := 1) (kI := 1) (off := 28) (tgt := 120) (by decide) dX11_tried_92 (by decide) (by decide) (by decide) ?_ (fun q92_1 => ?_)
    · refine gx_aload_n dX11_tried_120 rfl ?_
      refine gx_getR fl_X11_81 sh0 rfl dX11_tried_121 ?_
      refine gx_iload_n dX11_tried_124 rfl ?_
      refine gx_cV_ip (av := [.inl (v2 - v2 / 10 * 10)]) (st := []) ml_X11_196 (by omega) sh45 (c_X8_placeOfHound (d - 1) (by omega) 45 (Or.inr (Or.inr rfl)) (v2 - v2 / 10 * 10) M) rfl rfl (Nat.le_of_ble_eq_true rfl) dX11_tried_125 (fun x102 => ?_)
      exact gx_iret rfl rfl dX11_tried_128
    refine gx_swL (k := 2) (kI := 2) (off := 37) (tgt := 129) (by decide) dX11_tried_92 (by decide) (by decide) (by decide) ?_ (fun q92_2 => ?_)
    · refine gx_aload_n dX11_tried_129 rfl ?_
      refine gx_getR fl_X11_81 sh0 rfl dX11_tried_130 ?_
      refine gx_iload_n dX11_tried_133 rfl ?_
      refine gx_cV_ip (av := [.inl (v2 - v2 / 10 * 10)]) (st := []) ml_X11_199 (by omega) sh45 (c_X8_timeOf (d - 1) (by omega) 45 (Or.inr (Or.inr rfl)) (v2 - v2 / 10 * 10) M) rfl rfl (Nat.le_of_ble_eq_true rfl) dX11_tried_134 (fun x103 => ?_)
      exact gx_iret rfl rfl dX11_tried_137
    refine gx_swLd (tgt := 138) dX11_tried_92 (by decide) (by show Op.lookupswitch.offset [(1, 28), (2, 37)] 46 _ = 46; rw [lv_osw q92_1 (by decide), lv_osw q92_2 (by decide)]; rfl) (by decide) ?_
    refine gx_aload_n dX11_tried_138 rfl ?_
    refine gx_getR fl_X11_81 sh0 rfl dX11_tried_139 ?_
    refine gx_iload_n dX11_tried_142 rfl ?_
    refine gx_cV_ip (av := [.inl (v2 - v2 / 10 * 10)]) (st := []) ml_X11_202 (by omega) sh45 (c_X8_faultsOf (d - 1) (by omega) 45 (Or.inr (Or.inr rfl)) (v2 - v2 / 10 * 10) M) rfl rfl (Nat.le_of_ble_eq_true rfl) dX11_tried_143 (fun x104 => ?_)
    exact gx_iret rfl rfl dX11_tried_146
  refine gx_aload_n dX11_tried_74 rfl ?_
  refine gx_getR fl_X11_81 sh0 rfl dX11_tried_75 ?_
  refine gx_iload_n dX11_tried_78 rfl ?_
  refine gx_cV_ip (av := [.inl v2]) (st := []) ml_X11_182 (by omega) sh45 (c_X8_bitsOf (d - 1) (by omega) n 45 (Or.inr (Or.inr rfl)) v2 M) rfl rfl (Nat.le_of_ble_eq_true rfl) dX11_tried_79 (fun x105 => ?_)
  exact gx_iret rfl rfl dX11_tried_82
def f_X11_tried_L34 (n : Nat) (v1 : Int32) (v2 : Int32) : Nat → Int32 → HMem → Option (Int32 × HMem)
  | 0, _, _ => none
  | k + 1, v3, M =>
    if v1 ≤ v3 then
      (f_X11_tried_J69 n v2 M)
    else
      (if 9999 ≤ (M 45 4) then
        (f_X11_tried_J69 n v2 M)
      else
        (hb1 (f_X2_passMoment n 45 M) (fun M101 =>
        f_X11_tried_L34 n v1 v2 k (v3 + 1) M101)))
set_option maxRecDepth 20000 in
theorem w_X11_tried_L34 (d : Nat) (hd : 7 ≤ d) (n : Nat) (v1 : Int32) (v2 : Int32) : ∀ (k : Nat) (v3 : Int32) (M : HMem), GX iX11_tried d eI (f_X11_tried_L34 n v1 v2 k v3 M) 34 [some (.inr (some 0)), some (.inl v1), some (.inl v2), some (.inl v3)] [] M := by
  intro k
  induction k with
  | zero => intro v3 M; exact gx_none
  | succ k ih =>
    intro v3 M
    rw [f_X11_tried_L34]
    refine gx_iload_n dX11_tried_34 rfl ?_
    refine gx_iload_n dX11_tried_35 rfl ?_
    refine gx_icmp_ge (tgt := 69) dX11_tried_36 (by decide) ?_ ?_
    · refine gx_mk (lv' := [some (.inr (some 0)), none, some (.inl v2), none]) [true, false, true, false] rfl ?_
      exact w_X11_tried_J69 d hd n M v2
    refine gx_aload_n dX11_tried_39 rfl ?_
    refine gx_getR fl_X11_81 sh0 rfl dX11_tried_40 ?_
    refine gx_getI fl_X11_107 sh45 rfl dX11_tried_43 ?_
    refine gx_sipush (x := 9999) (by decide) dX11_tried_46 ?_
    refine gx_icmp_ge (tgt := 69) dX11_tried_49 (by decide) ?_ ?_
    · refine gx_mk (lv' := [some (.inr (some 0)), none, some (.inl v2), none]) [true, false, true, false] rfl ?_
      exact w_X11_tried_J69 d hd n M v2
    refine gx_aload_n dX11_tried_52 rfl ?_
    refine gx_getR fl_X11_58 sh0 rfl dX11_tried_53 ?_
    refine gx_aload_n dX11_tried_56 rfl ?_
    refine gx_getR fl_X11_81 sh0 rfl dX11_tried_57 ?_
    refine gx_cV_vm (av := [.inr (some 45)]) (st := []) ml_X11_178 (by omega) sh31 (c_X2_passMoment (d - 1) (by omega) n 45 (Or.inr (Or.inr rfl)) M) rfl rfl (Nat.le_of_ble_eq_true rfl) dX11_tried_60 (fun M101 => ?_)
    refine gx_iinc (y := v3 + 1) (lv' := [some (.inr (some 0)), some (.inl v1), some (.inl v2), some (.inl (v3 + 1))]) dX11_tried_63 rfl rfl (by decide) rfl ?_
    refine gx_goto (tgt := 34) dX11_tried_66 (by decide) ?_
    refine gx_mk (lv' := [some (.inr (some 0)), some (.inl v1), some (.inl v2), some (.inl (v3 + 1))]) [true, true, true, true] rfl ?_
    exact ih (v3 + 1) M101
def f_X11_tried (n : Nat) (v1 : Int32) (v2 : Int32) (M : HMem) : Option (Int32 × HMem) :=
  if v1 < 1 then
    (some ((-1), M))
  else
    (if 100 < v1 then
      (some ((-1), M))
    else
      (hb1 (f_X11_isTriable v2 M) (fun x101 =>
      if x101 = 0 then
        (some ((-1), M))
      else
        (f_X11_tried_L34 n v1 v2 n 0 (f_X8_copyFrom 45 35 M)))))
set_option maxRecDepth 20000 in
theorem w_X11_tried (d : Nat) (hd : 7 ≤ d) (n : Nat) (v1 : Int32) (v2 : Int32) (M : HMem) : GX iX11_tried d eI (f_X11_tried n v1 v2 M) 0 [some (.inr (some 0)), some (.inl v1), some (.inl v2), none] [] M := by
  rw [f_X11_tried]
  refine gx_iload_n dX11_tried_0 rfl ?_
  refine gx_iconst (x := 1) (by decide) dX11_tried_1 ?_
  refine gx_icmp_lt (tgt := 19) dX11_tried_2 (by decide) ?_ ?_
  · refine gx_iconst (x := (-1)) (by decide) dX11_tried_19 ?_
    exact gx_iret rfl rfl dX11_tried_20
  refine gx_iload_n dX11_tried_5 rfl ?_
  refine gx_bipush (x := 100) (by decide) dX11_tried_6 ?_
  refine gx_icmp_gt (tgt := 19) dX11_tried_8 (by decide) ?_ ?_
  · refine gx_iconst (x := (-1)) (by decide) dX11_tried_19 ?_
    exact gx_iret rfl rfl dX11_tried_20
  refine gx_aload_n dX11_tried_11 rfl ?_
  refine gx_iload_n dX11_tried_12 rfl ?_
  refine gx_cV_ip (av := [.inl v2]) (st := []) ml_X11_191 (by omega) sh0 (c_X11_isTriable (d - 1) (by omega) v2 M) rfl rfl (Nat.le_of_ble_eq_true rfl) dX11_tried_13 (fun x101 => ?_)
  refine gx_if_ne (tgt := 21) dX11_tried_16 (by decide) ?_ ?_
  · refine gx_aload_n dX11_tried_21 rfl ?_
    refine gx_getR fl_X11_81 sh0 rfl dX11_tried_22 ?_
    refine gx_aload_n dX11_tried_25 rfl ?_
    refine gx_getR fl_X11_74 sh0 rfl dX11_tried_26 ?_
    refine gx_cV_vt (av := [.inr (some 35)]) (st := []) ml_X11_194 (by omega) sh45 (c_X8_copyFrom (d - 1) (by omega) 45 (Or.inr (Or.inr rfl)) 35 (Or.inl rfl) M) rfl rfl (Nat.le_of_ble_eq_true rfl) dX11_tried_29 ?_
    refine gx_iconst (x := 0) (by decide) dX11_tried_32 ?_
    refine gx_istore_n (lv' := [some (.inr (some 0)), some (.inl v1), some (.inl v2), some (.inl 0)]) dX11_tried_33 (by decide) rfl ?_
    refine gx_mk (lv' := [some (.inr (some 0)), some (.inl v1), some (.inl v2), some (.inl 0)]) [true, true, true, true] rfl ?_
    exact w_X11_tried_L34 d hd n v1 v2 n 0 (f_X8_copyFrom 45 35 M)
  refine gx_iconst (x := (-1)) (by decide) dX11_tried_19 ?_
  exact gx_iret rfl rfl dX11_tried_20
theorem c_X11_tried (d : Nat) (hd : 7 ≤ d) (n : Nat) (v1 : Int32) (v2 : Int32) (M : HMem) : MX iX11_tried d [.inr (some 0), .inl v1, .inl v2] M eI (f_X11_tried n v1 v2 M) := mx_of (by decide +kernel) (Nat.le_of_ble_eq_true rfl) rfl (w_X11_tried d hd n v1 v2 M)
-- X11_houndIs
def f_X11_houndIs (v1 : Int32) (v2 : Int32) (M : HMem) : Option Int32 :=
  hb1 (f_X8_isTold 35 v1 M) (fun x101 =>
  if x101 = 0 then
    (some (-1))
  else
    (if v2 = 0 then
      (hb1 (f_X8_placeOfHound 35 v1 M) (fun x102 =>
      some x102))
    else if v2 = 1 then
      (hb1 (f_X8_timeOf 35 v1 M) (fun x103 =>
      some x103))
    else if v2 = 2 then
      (hb1 (f_X8_faultsOf 35 v1 M) (fun x104 =>
      some x104))
    else if v2 = 3 then
      (hb1 (f_X8_stateOf 35 v1 M) (fun x105 =>
      some x105))
    else (some (-1))))
set_option maxRecDepth 20000 in
theorem w_X11_houndIs (d : Nat) (hd : 3 ≤ d) (v1 : Int32) (v2 : Int32) (M : HMem) : GX iX11_houndIs d (eP M) (f_X11_houndIs v1 v2 M) 0 [some (.inr (some 0)), some (.inl v1), some (.inl v2)] [] M := by
  rw [f_X11_houndIs]
  refine gx_aload_n dX11_houndIs_0 rfl ?_
  refine gx_getR fl_X11_74 sh0 rfl dX11_houndIs_1 ?_
  refine gx_iload_n dX11_houndIs_4 rfl ?_
  refine gx_cV_ip (av := [.inl v1]) (st := []) ml_X11_205 (by omega) sh35 (c_X8_isTold (d - 1) (by omega) 35 (Or.inl rfl) v1 M) rfl rfl (Nat.le_of_ble_eq_true rfl) dX11_houndIs_5 (fun x101 => ?_)
  refine gx_if_ne (tgt := 13) dX11_houndIs_8 (by decide) ?_ ?_
  · refine gx_iload_n dX11_houndIs_13 rfl ?_
    refine gx_swT (k := 0) (kI := 0) (off := 30) (tgt := 44) (by decide) dX11_houndIs_14 (by decide) (by decide) rfl (by decide) ?_ (fun q14_0 => ?_)
    · refine gx_aload_n dX11_houndIs_44 rfl ?_
      refine gx_getR fl_X11_74 sh0 rfl dX11_houndIs_45 ?_
      refine gx_iload_n dX11_houndIs_48 rfl ?_
      refine gx_cV_ip (av := [.inl v1]) (st := []) ml_X11_196 (by omega) sh35 (c_X8_placeOfHound (d - 1) (by omega) 35 (Or.inl rfl) v1 M) rfl rfl (Nat.le_of_ble_eq_true rfl) dX11_houndIs_49 (fun x102 => ?_)
      exact gx_iret rfl rfl dX11_houndIs_52
    refine gx_swT (k := 1) (kI := 1) (off := 39) (tgt := 53) (by decide) dX11_houndIs_14 (by decide) (by decide) rfl (by decide) ?_ (fun q14_1 => ?_)
    · refine gx_aload_n dX11_houndIs_53 rfl ?_
      refine gx_getR fl_X11_74 sh0 rfl dX11_houndIs_54 ?_
      refine gx_iload_n dX11_houndIs_57 rfl ?_
      refine gx_cV_ip (av := [.inl v1]) (st := []) ml_X11_199 (by omega) sh35 (c_X8_timeOf (d - 1) (by omega) 35 (Or.inl rfl) v1 M) rfl rfl (Nat.le_of_ble_eq_true rfl) dX11_houndIs_58 (fun x103 => ?_)
      exact gx_iret rfl rfl dX11_houndIs_61
    refine gx_swT (k := 2) (kI := 2) (off := 48) (tgt := 62) (by decide) dX11_houndIs_14 (by decide) (by decide) rfl (by decide) ?_ (fun q14_2 => ?_)
    · refine gx_aload_n dX11_houndIs_62 rfl ?_
      refine gx_getR fl_X11_74 sh0 rfl dX11_houndIs_63 ?_
      refine gx_iload_n dX11_houndIs_66 rfl ?_
      refine gx_cV_ip (av := [.inl v1]) (st := []) ml_X11_202 (by omega) sh35 (c_X8_faultsOf (d - 1) (by omega) 35 (Or.inl rfl) v1 M) rfl rfl (Nat.le_of_ble_eq_true rfl) dX11_houndIs_67 (fun x104 => ?_)
      exact gx_iret rfl rfl dX11_houndIs_70
    refine gx_swT (k := 3) (kI := 3) (off := 57) (tgt := 71) (by decide) dX11_houndIs_14 (by decide) (by decide) rfl (by decide) ?_ (fun q14_3 => ?_)
    · refine gx_aload_n dX11_houndIs_71 rfl ?_
      refine gx_getR fl_X11_74 sh0 rfl dX11_houndIs_72 ?_
      refine gx_iload_n dX11_houndIs_75 rfl ?_
      refine gx_cV_ip (av := [.inl v1]) (st := []) ml_X11_208 (by omega) sh35 (c_X8_stateOf (d - 1) (by omega) 35 (Or.inl rfl) v1 M) rfl rfl (Nat.le_of_ble_eq_true rfl) dX11_houndIs_76 (fun x105 => ?_)
      exact gx_iret rfl rfl dX11_houndIs_79
    refine gx_swTd (tgt := 80) dX11_houndIs_14 (by have := lv_neT q14_0 (a := 0) (by decide); have := lv_neT q14_1 (a := 1) (by decide); have := lv_neT q14_2 (a := 2) (by decide); have := lv_neT q14_3 (a := 3) (by decide); omega) (by decide) ?_
    refine gx_iconst (x := (-1)) (by decide) dX11_houndIs_80 ?_
    exact gx_iret rfl rfl dX11_houndIs_81
  refine gx_iconst (x := (-1)) (by decide) dX11_houndIs_11 ?_
  exact gx_iret rfl rfl dX11_houndIs_12
theorem c_X11_houndIs (d : Nat) (hd : 3 ≤ d) (v1 : Int32) (v2 : Int32) (M : HMem) : MX iX11_houndIs d [.inr (some 0), .inl v1, .inl v2] M (eP M) (f_X11_houndIs v1 v2 M) := mx_of (by decide +kernel) (Nat.le_of_ble_eq_true rfl) rfl (w_X11_houndIs d hd v1 v2 M)
-- X11_where
def f_X11_where (v1 : Int32) (v2 : Int32) (M : HMem) : Option Int32 :=
  hb1 (f_X0_laid v1 M) (fun r101 => match r101 with
    | none => (some (-1))
    | some o102 => (if (f_X11_isWithin v2 20000) = 0 then
        (some (-1))
      else
        (hb1 (f_X1_placeAt o102 v2 M) (fun x103 =>
        some x103))))
set_option maxRecDepth 20000 in
theorem w_X11_where (d : Nat) (hd : 3 ≤ d) (v1 : Int32) (v2 : Int32) (M : HMem) : GX iX11_where d (eP M) (f_X11_where v1 v2 M) 0 [some (.inr (some 0)), some (.inl v1), some (.inl v2), none] [] M := by
  rw [f_X11_where]
  refine gx_aload_n dX11_where_0 rfl ?_
  refine gx_getR fl_X11_19 sh0 rfl dX11_where_1 ?_
  refine gx_iload_n dX11_where_4 rfl ?_
  refine gx_cV_rp (av := [.inl v1]) (st := []) ml_X11_211 (by omega) sh3 (c_X0_laid (d - 1) (by omega) v1 M) rfl rfl (Nat.le_of_ble_eq_true rfl) dX11_where_5 (fun r101 er101 => ?_)
  cases r101 with
  | none =>
    dsimp only
    refine gx_astore_nN (lv' := [some (.inr (some 0)), some (.inl v1), some (.inl v2), some (.inr none)]) dX11_where_8 (by decide) rfl ?_
    refine gx_aload_nN dX11_where_9 rfl ?_
    refine gx_ifnullN (tgt := 23) dX11_where_10 (by decide) ?_
    refine gx_iconst (x := (-1)) (by decide) dX11_where_23 ?_
    exact gx_iret rfl rfl dX11_where_24
  | some o102 =>
    have ho102 := co_X0_laid er101
    dsimp only
    refine gx_astore_n (lv' := [some (.inr (some 0)), some (.inl v1), some (.inl v2), some (.inr (some o102))]) dX11_where_8 (by decide) rfl ?_
    refine gx_aload_n dX11_where_9 rfl ?_
    refine gx_ifnullS dX11_where_10 ?_
    refine gx_iload_n dX11_where_13 rfl ?_
    refine gx_sipush (x := 20000) (by decide) dX11_where_14 ?_
    refine gx_cS_it (av := [.inl v2, .inl 20000]) (st := []) ml_X11_88 (by omega) (c_X11_isWithin (d - 1) (by omega) v2 20000 M) rfl rfl (Nat.le_of_ble_eq_true rfl) dX11_where_17 ?_
    refine gx_if_ne (tgt := 25) dX11_where_20 (by decide) ?_ ?_
    · refine gx_aload_n dX11_where_25 rfl ?_
      refine gx_iload_n dX11_where_26 rfl ?_
      refine gx_cV_ip (av := [.inl v2]) (st := []) ml_X11_214 (by omega) (shC ho102) (c_X1_placeAt (d - 1) (by omega) o102 ho102 v2 M) rfl rfl (Nat.le_of_ble_eq_true rfl) dX11_where_27 (fun x103 => ?_)
      exact gx_iret rfl rfl dX11_where_30
    refine gx_iconst (x := (-1)) (by decide) dX11_where_23 ?_
    exact gx_iret rfl rfl dX11_where_24
theorem c_X11_where (d : Nat) (hd : 3 ≤ d) (v1 : Int32) (v2 : Int32) (M : HMem) : MX iX11_where d [.inr (some 0), .inl v1, .inl v2] M (eP M) (f_X11_where v1 v2 M) := mx_of (by decide +kernel) (Nat.le_of_ble_eq_true rfl) rfl (w_X11_where d hd v1 v2 M)
-- X11_freshest
def f_X11_freshest (n : Nat) (v1 : Int32) (v2 : Int32) (v3 : Int32) (M : HMem) : Option Int32 :=
  if (f_X11_isOnLand v1 v2) = 0 then
    (some (-1))
  else
    (if v3 = 0 then
      (hb1 (f_X0_latestScent n (f_X11_placeOf v1 v2) (M 35 4) M) (fun x101 =>
      some x101))
    else if v3 = 1 then
      (hb1 (f_X0_latestCreature n (f_X11_placeOf v1 v2) (M 35 4) M) (fun x102 =>
      some x102))
    else if v3 = 2 then
      (hb1 (f_X0_scentsAt n (f_X11_placeOf v1 v2) (M 35 4) M) (fun x103 =>
      some x103))
    else (some (-1)))
set_option maxRecDepth 20000 in
theorem w_X11_freshest (d : Nat) (hd : 7 ≤ d) (n : Nat) (v1 : Int32) (v2 : Int32) (v3 : Int32) (M : HMem) : GX iX11_freshest d (eP M) (f_X11_freshest n v1 v2 v3 M) 0 [some (.inr (some 0)), some (.inl v1), some (.inl v2), some (.inl v3), none] [] M := by
  rw [f_X11_freshest]
  refine gx_iload_n dX11_freshest_0 rfl ?_
  refine gx_iload_n dX11_freshest_1 rfl ?_
  refine gx_cS_it (av := [.inl v1, .inl v2]) (st := []) ml_X11_92 (by omega) (c_X11_isOnLand (d - 1) (by omega) v1 v2 M) rfl rfl (Nat.le_of_ble_eq_true rfl) dX11_freshest_2 ?_
  refine gx_if_ne (tgt := 10) dX11_freshest_5 (by decide) ?_ ?_
  · refine gx_iload_n dX11_freshest_10 rfl ?_
    refine gx_iload_n dX11_freshest_11 rfl ?_
    refine gx_cS_it (av := [.inl v1, .inl v2]) (st := []) ml_X11_95 (by omega) (c_X11_placeOf (d - 1) (by omega) v1 v2 M) rfl rfl (Nat.le_of_ble_eq_true rfl) dX11_freshest_12 ?_
    refine gx_istore (lv' := [some (.inr (some 0)), some (.inl v1), some (.inl v2), some (.inl v3), some (.inl (f_X11_placeOf v1 v2))]) dX11_freshest_15 (by decide) rfl ?_
    refine gx_iload_n dX11_freshest_17 rfl ?_
    refine gx_swT (k := 0) (kI := 0) (off := 26) (tgt := 44) (by decide) dX11_freshest_18 (by decide) (by decide) rfl (by decide) ?_ (fun q18_0 => ?_)
    · refine gx_aload_n dX11_freshest_44 rfl ?_
      refine gx_getR fl_X11_19 sh0 rfl dX11_freshest_45 ?_
      refine gx_iload dX11_freshest_48 rfl ?_
      refine gx_aload_n dX11_freshest_50 rfl ?_
      refine gx_getR fl_X11_74 sh0 rfl dX11_freshest_51 ?_
      refine gx_getI fl_X11_107 sh35 rfl dX11_freshest_54 ?_
      refine gx_cV_ip (av := [.inl (f_X11_placeOf v1 v2), .inl (M 35 4)]) (st := []) ml_X11_217 (by omega) sh3 (c_X0_latestScent (d - 1) (by omega) n (f_X11_placeOf v1 v2) (M 35 4) M) rfl rfl (Nat.le_of_ble_eq_true rfl) dX11_freshest_57 (fun x101 => ?_)
      exact gx_iret rfl rfl dX11_freshest_60
    refine gx_swT (k := 1) (kI := 1) (off := 43) (tgt := 61) (by decide) dX11_freshest_18 (by decide) (by decide) rfl (by decide) ?_ (fun q18_1 => ?_)
    · refine gx_aload_n dX11_freshest_61 rfl ?_
      refine gx_getR fl_X11_19 sh0 rfl dX11_freshest_62 ?_
      refine gx_iload dX11_freshest_65 rfl ?_
      refine gx_aload_n dX11_freshest_67 rfl ?_
      refine gx_getR fl_X11_74 sh0 rfl dX11_freshest_68 ?_
      refine gx_getI fl_X11_107 sh35 rfl dX11_freshest_71 ?_
      refine gx_cV_ip (av := [.inl (f_X11_placeOf v1 v2), .inl (M 35 4)]) (st := []) ml_X11_220 (by omega) sh3 (c_X0_latestCreature (d - 1) (by omega) n (f_X11_placeOf v1 v2) (M 35 4) M) rfl rfl (Nat.le_of_ble_eq_true rfl) dX11_freshest_74 (fun x102 => ?_)
      exact gx_iret rfl rfl dX11_freshest_77
    refine gx_swT (k := 2) (kI := 2) (off := 60) (tgt := 78) (by decide) dX11_freshest_18 (by decide) (by decide) rfl (by decide) ?_ (fun q18_2 => ?_)
    · refine gx_aload_n dX11_freshest_78 rfl ?_
      refine gx_getR fl_X11_19 sh0 rfl dX11_freshest_79 ?_
      refine gx_iload dX11_freshest_82 rfl ?_
      refine gx_aload_n dX11_freshest_84 rfl ?_
      refine gx_getR fl_X11_74 sh0 rfl dX11_freshest_85 ?_
      refine gx_getI fl_X11_107 sh35 rfl dX11_freshest_88 ?_
      refine gx_cV_ip (av := [.inl (f_X11_placeOf v1 v2), .inl (M 35 4)]) (st := []) ml_X11_223 (by omega) sh3 (c_X0_scentsAt (d - 1) (by omega) n (f_X11_placeOf v1 v2) (M 35 4) M) rfl rfl (Nat.le_of_ble_eq_true rfl) dX11_freshest_91 (fun x103 => ?_)
      exact gx_iret rfl rfl dX11_freshest_94
    refine gx_swTd (tgt := 95) dX11_freshest_18 (by have := lv_neT q18_0 (a := 0) (by decide); have := lv_neT q18_1 (a := 1) (by decide); have := lv_neT q18_2 (a := 2) (by decide); omega) (by decide) ?_
    refine gx_iconst (x := (-1)) (by decide) dX11_freshest_95 ?_
    exact gx_iret rfl rfl dX11_freshest_96
  refine gx_iconst (x := (-1)) (by decide) dX11_freshest_8 ?_
  exact gx_iret rfl rfl dX11_freshest_9
theorem c_X11_freshest (d : Nat) (hd : 7 ≤ d) (n : Nat) (v1 : Int32) (v2 : Int32) (v3 : Int32) (M : HMem) : MX iX11_freshest d [.inr (some 0), .inl v1, .inl v2, .inl v3] M (eP M) (f_X11_freshest n v1 v2 v3 M) := mx_of (by decide +kernel) (Nat.le_of_ble_eq_true rfl) rfl (w_X11_freshest d hd n v1 v2 v3 M)
-- X11_firstHome
def f_X11_firstHome_L34 (n : Nat) (v1 : Int32) (v2 : Int32) : Nat → Int32 → HMem → Option (Int32 × HMem)
  | 0, _, _ => none
  | k + 1, v3, M =>
    if v1 < v3 then
      (some ((-2), M))
    else
      (hb1 (f_X8_firstOf n 45 1 M) (fun x101 =>
      if x101 = (-1) then
        (if (M 45 4) < 9999 then
          (if v1 ≤ v3 then
            (f_X11_firstHome_L34 n v1 v2 k (v3 + 1) M)
          else
            (hb1 (f_X2_passMoment n 45 M) (fun M102 =>
            f_X11_firstHome_L34 n v1 v2 k (v3 + 1) M102)))
        else
          (some ((-2), M)))
      else
        (if v2 = 0 then
          (some (v3, M))
        else
          (some (x101, M)))))
set_option maxRecDepth 20000 in
theorem w_X11_firstHome_L34 (d : Nat) (hd : 7 ≤ d) (n : Nat) (v1 : Int32) (v2 : Int32) : ∀ (k : Nat) (v3 : Int32) (M : HMem), GX iX11_firstHome d eI (f_X11_firstHome_L34 n v1 v2 k v3 M) 34 [some (.inr (some 0)), some (.inl v1), some (.inl v2), some (.inl v3), none] [] M := by
  intro k
  induction k with
  | zero => intro v3 M; exact gx_none
  | succ k ih =>
    intro v3 M
    rw [f_X11_firstHome_L34]
    refine gx_iload_n dX11_firstHome_34 rfl ?_
    refine gx_iload_n dX11_firstHome_35 rfl ?_
    refine gx_icmp_gt (tgt := 104) dX11_firstHome_36 (by decide) ?_ ?_
    · refine gx_bipush (x := (-2)) (by decide) dX11_firstHome_104 ?_
      exact gx_iret rfl rfl dX11_firstHome_106
    refine gx_aload_n dX11_firstHome_39 rfl ?_
    refine gx_getR fl_X11_81 sh0 rfl dX11_firstHome_40 ?_
    refine gx_iconst (x := 1) (by decide) dX11_firstHome_43 ?_
    refine gx_cV_ip (av := [.inl 1]) (st := []) ml_X11_226 (by omega) sh45 (c_X8_firstOf (d - 1) (by omega) n 45 (Or.inr (Or.inr rfl)) 1 M) rfl rfl (Nat.le_of_ble_eq_true rfl) dX11_firstHome_44 (fun x101 => ?_)
    refine gx_istore (lv' := [some (.inr (some 0)), some (.inl v1), some (.inl v2), some (.inl v3), some (.inl x101)]) dX11_firstHome_47 (by decide) rfl ?_
    refine gx_iload dX11_firstHome_49 rfl ?_
    refine gx_iconst (x := (-1)) (by decide) dX11_firstHome_51 ?_
    refine gx_icmp_eq (tgt := 66) dX11_firstHome_52 (by decide) ?_ ?_
    · refine gx_aload_n dX11_firstHome_66 rfl ?_
      refine gx_getR fl_X11_81 sh0 rfl dX11_firstHome_67 ?_
      refine gx_getI fl_X11_107 sh45 rfl dX11_firstHome_70 ?_
      refine gx_sipush (x := 9999) (by decide) dX11_firstHome_73 ?_
      refine gx_icmp_lt (tgt := 82) dX11_firstHome_76 (by decide) ?_ ?_
      · refine gx_iload_n dX11_firstHome_82 rfl ?_
        refine gx_iload_n dX11_firstHome_83 rfl ?_
        refine gx_icmp_ge (tgt := 98) dX11_firstHome_84 (by decide) ?_ ?_
        · refine gx_iinc (y := v3 + 1) (lv' := [some (.inr (some 0)), some (.inl v1), some (.inl v2), some (.inl (v3 + 1)), some (.inl x101)]) dX11_firstHome_98 rfl rfl (by decide) rfl ?_
          refine gx_goto (tgt := 34) dX11_firstHome_101 (by decide) ?_
          refine gx_mk (lv' := [some (.inr (some 0)), some (.inl v1), some (.inl v2), some (.inl (v3 + 1)), none]) [true, true, true, true, false] rfl ?_
          exact ih (v3 + 1) M
        refine gx_aload_n dX11_firstHome_87 rfl ?_
        refine gx_getR fl_X11_58 sh0 rfl dX11_firstHome_88 ?_
        refine gx_aload_n dX11_firstHome_91 rfl ?_
        refine gx_getR fl_X11_81 sh0 rfl dX11_firstHome_92 ?_
        refine gx_cV_vm (av := [.inr (some 45)]) (st := []) ml_X11_178 (by omega) sh31 (c_X2_passMoment (d - 1) (by omega) n 45 (Or.inr (Or.inr rfl)) M) rfl rfl (Nat.le_of_ble_eq_true rfl) dX11_firstHome_95 (fun M102 => ?_)
        refine gx_iinc (y := v3 + 1) (lv' := [some (.inr (some 0)), some (.inl v1), some (.inl v2), some (.inl (v3 + 1)), some (.inl x101)]) dX11_firstHome_98 rfl rfl (by decide) rfl ?_
        refine gx_goto (tgt := 34) dX11_firstHome_101 (by decide) ?_
        refine gx_mk (lv' := [some (.inr (some 0)), some (.inl v1), some (.inl v2), some (.inl (v3 + 1)), none]) [true, true, true, true, false] rfl ?_
        exact ih (v3 + 1) M102
      refine gx_bipush (x := (-2)) (by decide) dX11_firstHome_79 ?_
      exact gx_iret rfl rfl dX11_firstHome_81
    refine gx_iload_n dX11_firstHome_55 rfl ?_
    refine gx_if_ne (tgt := 63) dX11_firstHome_56 (by decide) ?_ ?_
    · refine gx_iload dX11_firstHome_63 rfl ?_
      exact gx_iret rfl rfl dX11_firstHome_65
    refine gx_iload_n dX11_firstHome_59 rfl ?_
    refine gx_goto (tgt := 65) dX11_firstHome_60 (by decide) ?_
    exact gx_iret rfl rfl dX11_firstHome_65
def f_X11_firstHome (n : Nat) (v1 : Int32) (v2 : Int32) (M : HMem) : Option (Int32 × HMem) :=
  if v1 < 1 then
    (some ((-1), M))
  else
    (if 100 < v1 then
      (some ((-1), M))
    else
      (if (f_X11_isWithin v2 1) = 0 then
        (some ((-1), M))
      else
        (f_X11_firstHome_L34 n v1 v2 n 0 (f_X8_copyFrom 45 35 M))))
set_option maxRecDepth 20000 in
theorem w_X11_firstHome (d : Nat) (hd : 7 ≤ d) (n : Nat) (v1 : Int32) (v2 : Int32) (M : HMem) : GX iX11_firstHome d eI (f_X11_firstHome n v1 v2 M) 0 [some (.inr (some 0)), some (.inl v1), some (.inl v2), none, none] [] M := by
  rw [f_X11_firstHome]
  refine gx_iload_n dX11_firstHome_0 rfl ?_
  refine gx_iconst (x := 1) (by decide) dX11_firstHome_1 ?_
  refine gx_icmp_lt (tgt := 19) dX11_firstHome_2 (by decide) ?_ ?_
  · refine gx_iconst (x := (-1)) (by decide) dX11_firstHome_19 ?_
    exact gx_iret rfl rfl dX11_firstHome_20
  refine gx_iload_n dX11_firstHome_5 rfl ?_
  refine gx_bipush (x := 100) (by decide) dX11_firstHome_6 ?_
  refine gx_icmp_gt (tgt := 19) dX11_firstHome_8 (by decide) ?_ ?_
  · refine gx_iconst (x := (-1)) (by decide) dX11_firstHome_19 ?_
    exact gx_iret rfl rfl dX11_firstHome_20
  refine gx_iload_n dX11_firstHome_11 rfl ?_
  refine gx_iconst (x := 1) (by decide) dX11_firstHome_12 ?_
  refine gx_cS_it (av := [.inl v2, .inl 1]) (st := []) ml_X11_88 (by omega) (c_X11_isWithin (d - 1) (by omega) v2 1 M) rfl rfl (Nat.le_of_ble_eq_true rfl) dX11_firstHome_13 ?_
  refine gx_if_ne (tgt := 21) dX11_firstHome_16 (by decide) ?_ ?_
  · refine gx_aload_n dX11_firstHome_21 rfl ?_
    refine gx_getR fl_X11_81 sh0 rfl dX11_firstHome_22 ?_
    refine gx_aload_n dX11_firstHome_25 rfl ?_
    refine gx_getR fl_X11_74 sh0 rfl dX11_firstHome_26 ?_
    refine gx_cV_vt (av := [.inr (some 35)]) (st := []) ml_X11_194 (by omega) sh45 (c_X8_copyFrom (d - 1) (by omega) 45 (Or.inr (Or.inr rfl)) 35 (Or.inl rfl) M) rfl rfl (Nat.le_of_ble_eq_true rfl) dX11_firstHome_29 ?_
    refine gx_iconst (x := 0) (by decide) dX11_firstHome_32 ?_
    refine gx_istore_n (lv' := [some (.inr (some 0)), some (.inl v1), some (.inl v2), some (.inl 0), none]) dX11_firstHome_33 (by decide) rfl ?_
    refine gx_mk (lv' := [some (.inr (some 0)), some (.inl v1), some (.inl v2), some (.inl 0), none]) [true, true, true, true, false] rfl ?_
    exact w_X11_firstHome_L34 d hd n v1 v2 n 0 (f_X8_copyFrom 45 35 M)
  refine gx_iconst (x := (-1)) (by decide) dX11_firstHome_19 ?_
  exact gx_iret rfl rfl dX11_firstHome_20
theorem c_X11_firstHome (d : Nat) (hd : 7 ≤ d) (n : Nat) (v1 : Int32) (v2 : Int32) (M : HMem) : MX iX11_firstHome d [.inr (some 0), .inl v1, .inl v2] M eI (f_X11_firstHome n v1 v2 M) := mx_of (by decide +kernel) (Nat.le_of_ble_eq_true rfl) rfl (w_X11_firstHome d hd n v1 v2 M)
-- X11_two
def f_X11_two (n : Nat) (v1 : Int32) (v2 : Int32) (v3 : Int32) (M : HMem) : Option (Int32 × HMem) :=
  hb1 (f_X0_laid v1 M) (fun r101 => match r101 with
    | none => (hb1 (f_X0_laid v2 M) (fun r103 => match r103 with
        | none => (some ((-1), M))
        | some o104 => (some ((-1), M))))
    | some o102 => (hb1 (f_X0_laid v2 M) (fun r105 => match r105 with
        | none => (some ((-1), M))
        | some o106 => (if v1 = v2 then
            (some ((-1), M))
          else
            (if v3 = 0 then
              (hb2 (f_X9_crossings n o102 o106 M) (fun x107 M108 =>
              some (x107, M108)))
            else if v3 = 1 then
              (hb1 (f_X9_firstWithin n o102 o106 0 M) (fun x109 =>
              some (x109, M)))
            else if v3 = 2 then
              (hb1 (f_X9_nearest n o102 o106 M) (fun x110 =>
              some (x110, M)))
            else if v3 = 3 then
              (hb1 (f_X9_nearest n o102 o106 M) (fun x111 =>
              hb1 (f_X9_firstWithin n o102 o106 x111 M) (fun x112 =>
              some (x112, M))))
            else (some ((-1), M)))))))
set_option maxRecDepth 20000 in
theorem w_X11_two (d : Nat) (hd : 4 ≤ d) (n : Nat) (v1 : Int32) (v2 : Int32) (v3 : Int32) (M : HMem) : GX iX11_two d eI (f_X11_two n v1 v2 v3 M) 0 [some (.inr (some 0)), some (.inl v1), some (.inl v2), some (.inl v3), none, none] [] M := by
  rw [f_X11_two]
  refine gx_aload_n dX11_two_0 rfl ?_
  refine gx_getR fl_X11_19 sh0 rfl dX11_two_1 ?_
  refine gx_iload_n dX11_two_4 rfl ?_
  refine gx_cV_rp (av := [.inl v1]) (st := []) ml_X11_211 (by omega) sh3 (c_X0_laid (d - 1) (by omega) v1 M) rfl rfl (Nat.le_of_ble_eq_true rfl) dX11_two_5 (fun r101 er101 => ?_)
  cases r101 with
  | none =>
    dsimp only
    refine gx_astoreN (lv' := [some (.inr (some 0)), some (.inl v1), some (.inl v2), some (.inl v3), some (.inr none), none]) dX11_two_8 (by decide) rfl ?_
    refine gx_aload_n dX11_two_10 rfl ?_
    refine gx_getR fl_X11_19 sh0 rfl dX11_two_11 ?_
    refine gx_iload_n dX11_two_14 rfl ?_
    refine gx_cV_rp (av := [.inl v2]) (st := []) ml_X11_211 (by omega) sh3 (c_X0_laid (d - 1) (by omega) v2 M) rfl rfl (Nat.le_of_ble_eq_true rfl) dX11_two_15 (fun r103 er103 => ?_)
    cases r103 with
    | none =>
      dsimp only
      refine gx_astoreN (lv' := [some (.inr (some 0)), some (.inl v1), some (.inl v2), some (.inl v3), some (.inr none), some (.inr none)]) dX11_two_18 (by decide) rfl ?_
      refine gx_aloadN dX11_two_20 rfl ?_
      refine gx_ifnullN (tgt := 35) dX11_two_22 (by decide) ?_
      refine gx_iconst (x := (-1)) (by decide) dX11_two_35 ?_
      exact gx_iret rfl rfl dX11_two_36
    | some o104 =>
      have ho104 := co_X0_laid er103
      dsimp only
      refine gx_astore (lv' := [some (.inr (some 0)), some (.inl v1), some (.inl v2), some (.inl v3), some (.inr none), some (.inr (some o104))]) dX11_two_18 (by decide) rfl ?_
      refine gx_aloadN dX11_two_20 rfl ?_
      refine gx_ifnullN (tgt := 35) dX11_two_22 (by decide) ?_
      refine gx_iconst (x := (-1)) (by decide) dX11_two_35 ?_
      exact gx_iret rfl rfl dX11_two_36
  | some o102 =>
    have ho102 := co_X0_laid er101
    dsimp only
    refine gx_astore (lv' := [some (.inr (some 0)), some (.inl v1), some (.inl v2), some (.inl v3), some (.inr (some o102)), none]) dX11_two_8 (by decide) rfl ?_
    refine gx_aload_n dX11_two_10 rfl ?_
    refine gx_getR fl_X11_19 sh0 rfl dX11_two_11 ?_
    refine gx_iload_n dX11_two_14 rfl ?_
    refine gx_cV_rp (av := [.inl v2]) (st := []) ml_X11_211 (by omega) sh3 (c_X0_laid (d - 1) (by omega) v2 M) rfl rfl (Nat.le_of_ble_eq_true rfl) dX11_two_15 (fun r105 er105 => ?_)
    cases r105 with
    | none =>
      dsimp only
      refine gx_astoreN (lv' := [some (.inr (some 0)), some (.inl v1), some (.inl v2), some (.inl v3), some (.inr (some o102)), some (.inr none)]) dX11_two_18 (by decide) rfl ?_
      refine gx_aload dX11_two_20 rfl ?_
      refine gx_ifnullS dX11_two_22 ?_
      refine gx_aloadN dX11_two_25 rfl ?_
      refine gx_ifnullN (tgt := 35) dX11_two_27 (by decide) ?_
      refine gx_iconst (x := (-1)) (by decide) dX11_two_35 ?_
      exact gx_iret rfl rfl dX11_two_36
    | some o106 =>
      have ho106 := co_X0_laid er105
      dsimp only
      refine gx_astore (lv' := [some (.inr (some 0)), some (.inl v1), some (.inl v2), some (.inl v3), some (.inr (some o102)), some (.inr (some o106))]) dX11_two_18 (by decide) rfl ?_
      refine gx_aload dX11_two_20 rfl ?_
      refine gx_ifnullS dX11_two_22 ?_
      refine gx_aload dX11_two_25 rfl ?_
      refine gx_ifnullS dX11_two_27 ?_
      refine gx_iload_n dX11_two_30 rfl ?_
      refine gx_iload_n dX11_two_31 rfl ?_
      refine gx_icmp_ne (tgt := 37) dX11_two_32 (by decide) ?_ ?_
      · refine gx_iload_n dX11_two_37 rfl ?_
        refine gx_swT (k := 0) (kI := 0) (off := 30) (tgt := 68) (by decide) dX11_two_38 (by decide) (by decide) rfl (by decide) ?_ (fun q38_0 => ?_)
        · refine gx_aload_n dX11_two_68 rfl ?_
          refine gx_getR fl_X11_67 sh0 rfl dX11_two_69 ?_
          refine gx_aload dX11_two_72 rfl ?_
          refine gx_aload dX11_two_74 rfl ?_
          refine gx_cV_im (av := [.inr (some o102), .inr (some o106)]) (st := []) ml_X11_229 (by omega) sh32 (c_X9_crossings (d - 1) (by omega) n o102 ho102 o106 ho106 M) rfl rfl (Nat.le_of_ble_eq_true rfl) dX11_two_76 (fun x107 M108 => ?_)
          exact gx_iret rfl rfl dX11_two_79
        refine gx_swT (k := 1) (kI := 1) (off := 42) (tgt := 80) (by decide) dX11_two_38 (by decide) (by decide) rfl (by decide) ?_ (fun q38_1 => ?_)
        · refine gx_aload_n dX11_two_80 rfl ?_
          refine gx_getR fl_X11_67 sh0 rfl dX11_two_81 ?_
          refine gx_aload dX11_two_84 rfl ?_
          refine gx_aload dX11_two_86 rfl ?_
          refine gx_iconst (x := 0) (by decide) dX11_two_88 ?_
          refine gx_cV_ip (av := [.inr (some o102), .inr (some o106), .inl 0]) (st := []) ml_X11_233 (by omega) sh32 (c_X9_firstWithin (d - 1) (by omega) n o102 ho102 o106 ho106 0 M) rfl rfl (Nat.le_of_ble_eq_true rfl) dX11_two_89 (fun x109 => ?_)
          exact gx_iret rfl rfl dX11_two_92
        refine gx_swT (k := 2) (kI := 2) (off := 55) (tgt := 93) (by decide) dX11_two_38 (by decide) (by decide) rfl (by decide) ?_ (fun q38_2 => ?_)
        · refine gx_aload_n dX11_two_93 rfl ?_
          refine gx_getR fl_X11_67 sh0 rfl dX11_two_94 ?_
          refine gx_aload dX11_two_97 rfl ?_
          refine gx_aload dX11_two_99 rfl ?_
          refine gx_cV_ip (av := [.inr (some o102), .inr (some o106)]) (st := []) ml_X11_237 (by omega) sh32 (c_X9_nearest (d - 1) (by omega) n o102 ho102 o106 ho106 M) rfl rfl (Nat.le_of_ble_eq_true rfl) dX11_two_101 (fun x110 => ?_)
          exact gx_iret rfl rfl dX11_two_104
        refine gx_swT (k := 3) (kI := 3) (off := 67) (tgt := 105) (by decide) dX11_two_38 (by decide) (by decide) rfl (by decide) ?_ (fun q38_3 => ?_)
        · refine gx_aload_n dX11_two_105 rfl ?_
          refine gx_getR fl_X11_67 sh0 rfl dX11_two_106 ?_
          refine gx_aload dX11_two_109 rfl ?_
          refine gx_aload dX11_two_111 rfl ?_
          refine gx_aload_n dX11_two_113 rfl ?_
          refine gx_getR fl_X11_67 sh0 rfl dX11_two_114 ?_
          refine gx_aload dX11_two_117 rfl ?_
          refine gx_aload dX11_two_119 rfl ?_
          refine gx_cV_ip (av := [.inr (some o102), .inr (some o106)]) (st := [.inr (some o106), .inr (some o102), .inr (some 32)]) ml_X11_237 (by omega) sh32 (c_X9_nearest (d - 1) (by omega) n o102 ho102 o106 ho106 M) rfl rfl (Nat.le_of_ble_eq_true rfl) dX11_two_121 (fun x111 => ?_)
          refine gx_cV_ip (av := [.inr (some o102), .inr (some o106), .inl x111]) (st := []) ml_X11_233 (by omega) sh32 (c_X9_firstWithin (d - 1) (by omega) n o102 ho102 o106 ho106 x111 M) rfl rfl (Nat.le_of_ble_eq_true rfl) dX11_two_124 (fun x112 => ?_)
          exact gx_iret rfl rfl dX11_two_127
        refine gx_swTd (tgt := 128) dX11_two_38 (by have := lv_neT q38_0 (a := 0) (by decide); have := lv_neT q38_1 (a := 1) (by decide); have := lv_neT q38_2 (a := 2) (by decide); have := lv_neT q38_3 (a := 3) (by decide); omega) (by decide) ?_
        refine gx_iconst (x := (-1)) (by decide) dX11_two_128 ?_
        exact gx_iret rfl rfl dX11_two_129
      refine gx_iconst (x := (-1)) (by decide) dX11_two_35 ?_
      exact gx_iret rfl rfl dX11_two_36
theorem c_X11_two (d : Nat) (hd : 4 ≤ d) (n : Nat) (v1 : Int32) (v2 : Int32) (v3 : Int32) (M : HMem) : MX iX11_two d [.inr (some 0), .inl v1, .inl v2, .inl v3] M eI (f_X11_two n v1 v2 v3 M) := mx_of (by decide +kernel) (Nat.le_of_ble_eq_true rfl) rfl (w_X11_two d hd n v1 v2 v3 M)
-- X11_together
def f_X11_together (n : Nat) (v1 : Int32) (v2 : Int32) (v3 : Int32) (M : HMem) : Option Int32 :=
  hb1 (f_X0_laid v1 M) (fun r101 => match r101 with
    | none => (hb1 (f_X0_laid v2 M) (fun r103 => match r103 with
        | none => (some (-1))
        | some o104 => (some (-1))))
    | some o102 => (hb1 (f_X0_laid v2 M) (fun r105 => match r105 with
        | none => (some (-1))
        | some o106 => (if v1 = v2 then
            (some (-1))
          else
            (if (f_X11_isWithin v3 26) = 0 then
              (some (-1))
            else
              (hb1 (f_X9_timesWithin n o102 o106 v3 M) (fun x107 =>
              some x107)))))))
set_option maxRecDepth 20000 in
theorem w_X11_together (d : Nat) (hd : 4 ≤ d) (n : Nat) (v1 : Int32) (v2 : Int32) (v3 : Int32) (M : HMem) : GX iX11_together d (eP M) (f_X11_together n v1 v2 v3 M) 0 [some (.inr (some 0)), some (.inl v1), some (.inl v2), some (.inl v3), none, none] [] M := by
  rw [f_X11_together]
  refine gx_aload_n dX11_together_0 rfl ?_
  refine gx_getR fl_X11_19 sh0 rfl dX11_together_1 ?_
  refine gx_iload_n dX11_together_4 rfl ?_
  refine gx_cV_rp (av := [.inl v1]) (st := []) ml_X11_211 (by omega) sh3 (c_X0_laid (d - 1) (by omega) v1 M) rfl rfl (Nat.le_of_ble_eq_true rfl) dX11_together_5 (fun r101 er101 => ?_)
  cases r101 with
  | none =>
    dsimp only
    refine gx_astoreN (lv' := [some (.inr (some 0)), some (.inl v1), some (.inl v2), some (.inl v3), some (.inr none), none]) dX11_together_8 (by decide) rfl ?_
    refine gx_aload_n dX11_together_10 rfl ?_
    refine gx_getR fl_X11_19 sh0 rfl dX11_together_11 ?_
    refine gx_iload_n dX11_together_14 rfl ?_
    refine gx_cV_rp (av := [.inl v2]) (st := []) ml_X11_211 (by omega) sh3 (c_X0_laid (d - 1) (by omega) v2 M) rfl rfl (Nat.le_of_ble_eq_true rfl) dX11_together_15 (fun r103 er103 => ?_)
    cases r103 with
    | none =>
      dsimp only
      refine gx_astoreN (lv' := [some (.inr (some 0)), some (.inl v1), some (.inl v2), some (.inl v3), some (.inr none), some (.inr none)]) dX11_together_18 (by decide) rfl ?_
      refine gx_aloadN dX11_together_20 rfl ?_
      refine gx_ifnullN (tgt := 44) dX11_together_22 (by decide) ?_
      refine gx_iconst (x := (-1)) (by decide) dX11_together_44 ?_
      exact gx_iret rfl rfl dX11_together_45
    | some o104 =>
      have ho104 := co_X0_laid er103
      dsimp only
      refine gx_astore (lv' := [some (.inr (some 0)), some (.inl v1), some (.inl v2), some (.inl v3), some (.inr none), some (.inr (some o104))]) dX11_together_18 (by decide) rfl ?_
      refine gx_aloadN dX11_together_20 rfl ?_
      refine gx_ifnullN (tgt := 44) dX11_together_22 (by decide) ?_
      refine gx_iconst (x := (-1)) (by decide) dX11_together_44 ?_
      exact gx_iret rfl rfl dX11_together_45
  | some o102 =>
    have ho102 := co_X0_laid er101
    dsimp only
    refine gx_astore (lv' := [some (.inr (some 0)), some (.inl v1), some (.inl v2), some (.inl v3), some (.inr (some o102)), none]) dX11_together_8 (by decide) rfl ?_
    refine gx_aload_n dX11_together_10 rfl ?_
    refine gx_getR fl_X11_19 sh0 rfl dX11_together_11 ?_
    refine gx_iload_n dX11_together_14 rfl ?_
    refine gx_cV_rp (av := [.inl v2]) (st := []) ml_X11_211 (by omega) sh3 (c_X0_laid (d - 1) (by omega) v2 M) rfl rfl (Nat.le_of_ble_eq_true rfl) dX11_together_15 (fun r105 er105 => ?_)
    cases r105 with
    | none =>
      dsimp only
      refine gx_astoreN (lv' := [some (.inr (some 0)), some (.inl v1), some (.inl v2), some (.inl v3), some (.inr (some o102)), some (.inr none)]) dX11_together_18 (by decide) rfl ?_
      refine gx_aload dX11_together_20 rfl ?_
      refine gx_ifnullS dX11_together_22 ?_
      refine gx_aloadN dX11_together_25 rfl ?_
      refine gx_ifnullN (tgt := 44) dX11_together_27 (by decide) ?_
      refine gx_iconst (x := (-1)) (by decide) dX11_together_44 ?_
      exact gx_iret rfl rfl dX11_together_45
    | some o106 =>
      have ho106 := co_X0_laid er105
      dsimp only
      refine gx_astore (lv' := [some (.inr (some 0)), some (.inl v1), some (.inl v2), some (.inl v3), some (.inr (some o102)), some (.inr (some o106))]) dX11_together_18 (by decide) rfl ?_
      refine gx_aload dX11_together_20 rfl ?_
      refine gx_ifnullS dX11_together_22 ?_
      refine gx_aload dX11_together_25 rfl ?_
      refine gx_ifnullS dX11_together_27 ?_
      refine gx_iload_n dX11_together_30 rfl ?_
      refine gx_iload_n dX11_together_31 rfl ?_
      refine gx_icmp_eq (tgt := 44) dX11_together_32 (by decide) ?_ ?_
      · refine gx_iconst (x := (-1)) (by decide) dX11_together_44 ?_
        exact gx_iret rfl rfl dX11_together_45
      refine gx_iload_n dX11_together_35 rfl ?_
      refine gx_bipush (x := 26) (by decide) dX11_together_36 ?_
      refine gx_cS_it (av := [.inl v3, .inl 26]) (st := []) ml_X11_88 (by omega) (c_X11_isWithin (d - 1) (by omega) v3 26 M) rfl rfl (Nat.le_of_ble_eq_true rfl) dX11_together_38 ?_
      refine gx_if_ne (tgt := 46) dX11_together_41 (by decide) ?_ ?_
      · refine gx_aload_n dX11_together_46 rfl ?_
        refine gx_getR fl_X11_67 sh0 rfl dX11_together_47 ?_
        refine gx_aload dX11_together_50 rfl ?_
        refine gx_aload dX11_together_52 rfl ?_
        refine gx_iload_n dX11_together_54 rfl ?_
        refine gx_cV_ip (av := [.inr (some o102), .inr (some o106), .inl v3]) (st := []) ml_X11_240 (by omega) sh32 (c_X9_timesWithin (d - 1) (by omega) n o102 ho102 o106 ho106 v3 M) rfl rfl (Nat.le_of_ble_eq_true rfl) dX11_together_55 (fun x107 => ?_)
        exact gx_iret rfl rfl dX11_together_58
      refine gx_iconst (x := (-1)) (by decide) dX11_together_44 ?_
      exact gx_iret rfl rfl dX11_together_45
theorem c_X11_together (d : Nat) (hd : 4 ≤ d) (n : Nat) (v1 : Int32) (v2 : Int32) (v3 : Int32) (M : HMem) : MX iX11_together d [.inr (some 0), .inl v1, .inl v2, .inl v3] M (eP M) (f_X11_together n v1 v2 v3 M) := mx_of (by decide +kernel) (Nat.le_of_ble_eq_true rfl) rfl (w_X11_together d hd n v1 v2 v3 M)
-- X11_crowd
def f_X11_crowd (n : Nat) (v1 : Int32) (v2 : Int32) (M : HMem) : Option Int32 :=
  if (f_X11_isWithin v1 20000) = 0 then
    (some (-1))
  else
    (if (f_X11_isWithin v2 1) = 0 then
      (some (-1))
    else
      (hb1 (f_X9_fullestPlace n v1 M) (fun x101 =>
      if v2 = 0 then
        (some x101)
      else
        (hb1 (f_X0_creaturesAt n x101 v1 M) (fun x102 =>
        some x102)))))
set_option maxRecDepth 20000 in
theorem w_X11_crowd (d : Nat) (hd : 5 ≤ d) (n : Nat) (v1 : Int32) (v2 : Int32) (M : HMem) : GX iX11_crowd d (eP M) (f_X11_crowd n v1 v2 M) 0 [some (.inr (some 0)), some (.inl v1), some (.inl v2), none] [] M := by
  rw [f_X11_crowd]
  refine gx_iload_n dX11_crowd_0 rfl ?_
  refine gx_sipush (x := 20000) (by decide) dX11_crowd_1 ?_
  refine gx_cS_it (av := [.inl v1, .inl 20000]) (st := []) ml_X11_88 (by omega) (c_X11_isWithin (d - 1) (by omega) v1 20000 M) rfl rfl (Nat.le_of_ble_eq_true rfl) dX11_crowd_4 ?_
  refine gx_if_eq (tgt := 18) dX11_crowd_7 (by decide) ?_ ?_
  · refine gx_iconst (x := (-1)) (by decide) dX11_crowd_18 ?_
    exact gx_iret rfl rfl dX11_crowd_19
  refine gx_iload_n dX11_crowd_10 rfl ?_
  refine gx_iconst (x := 1) (by decide) dX11_crowd_11 ?_
  refine gx_cS_it (av := [.inl v2, .inl 1]) (st := []) ml_X11_88 (by omega) (c_X11_isWithin (d - 1) (by omega) v2 1 M) rfl rfl (Nat.le_of_ble_eq_true rfl) dX11_crowd_12 ?_
  refine gx_if_ne (tgt := 20) dX11_crowd_15 (by decide) ?_ ?_
  · refine gx_aload_n dX11_crowd_20 rfl ?_
    refine gx_getR fl_X11_67 sh0 rfl dX11_crowd_21 ?_
    refine gx_iload_n dX11_crowd_24 rfl ?_
    refine gx_cV_ip (av := [.inl v1]) (st := []) ml_X11_243 (by omega) sh32 (c_X9_fullestPlace (d - 1) (by omega) n v1 M) rfl rfl (Nat.le_of_ble_eq_true rfl) dX11_crowd_25 (fun x101 => ?_)
    refine gx_istore_n (lv' := [some (.inr (some 0)), some (.inl v1), some (.inl v2), some (.inl x101)]) dX11_crowd_28 (by decide) rfl ?_
    refine gx_iload_n dX11_crowd_29 rfl ?_
    refine gx_if_ne (tgt := 35) dX11_crowd_30 (by decide) ?_ ?_
    · refine gx_aload_n dX11_crowd_35 rfl ?_
      refine gx_getR fl_X11_19 sh0 rfl dX11_crowd_36 ?_
      refine gx_iload_n dX11_crowd_39 rfl ?_
      refine gx_iload_n dX11_crowd_40 rfl ?_
      refine gx_cV_ip (av := [.inl x101, .inl v1]) (st := []) ml_X11_246 (by omega) sh3 (c_X0_creaturesAt (d - 1) (by omega) n x101 v1 M) rfl rfl (Nat.le_of_ble_eq_true rfl) dX11_crowd_41 (fun x102 => ?_)
      exact gx_iret rfl rfl dX11_crowd_44
    refine gx_iload_n dX11_crowd_33 rfl ?_
    exact gx_iret rfl rfl dX11_crowd_34
  refine gx_iconst (x := (-1)) (by decide) dX11_crowd_18 ?_
  exact gx_iret rfl rfl dX11_crowd_19
theorem c_X11_crowd (d : Nat) (hd : 5 ≤ d) (n : Nat) (v1 : Int32) (v2 : Int32) (M : HMem) : MX iX11_crowd d [.inr (some 0), .inl v1, .inl v2] M (eP M) (f_X11_crowd n v1 v2 M) := mx_of (by decide +kernel) (Nat.le_of_ble_eq_true rfl) rfl (w_X11_crowd d hd n v1 v2 M)
-- X11_stayed
def f_X11_stayed (n : Nat) (v1 : Int32) (v2 : Int32) (M : HMem) : Option (Int32 × HMem) :=
  hb1 (f_X0_laid v1 M) (fun r101 => match r101 with
    | none => (some ((-1), M))
    | some o102 => (if v2 = 0 then
        (hb2 (f_X9_longestStay n o102 M) (fun x103 M104 =>
        some (x103, M104)))
      else if v2 = 1 then
        (hb2 (f_X9_longestStay n o102 M) (fun x105 M106 =>
        hb1 (f_X1_timesAt n o102 x105 M106) (fun x107 =>
        some (x107, M106))))
      else if v2 = 2 then
        (hb2 (f_X9_placesComeBackTo n o102 M) (fun x108 M109 =>
        some (x108, M109)))
      else (some ((-1), M))))
set_option maxRecDepth 20000 in
theorem w_X11_stayed (d : Nat) (hd : 3 ≤ d) (n : Nat) (v1 : Int32) (v2 : Int32) (M : HMem) : GX iX11_stayed d eI (f_X11_stayed n v1 v2 M) 0 [some (.inr (some 0)), some (.inl v1), some (.inl v2), none] [] M := by
  rw [f_X11_stayed]
  refine gx_aload_n dX11_stayed_0 rfl ?_
  refine gx_getR fl_X11_19 sh0 rfl dX11_stayed_1 ?_
  refine gx_iload_n dX11_stayed_4 rfl ?_
  refine gx_cV_rp (av := [.inl v1]) (st := []) ml_X11_211 (by omega) sh3 (c_X0_laid (d - 1) (by omega) v1 M) rfl rfl (Nat.le_of_ble_eq_true rfl) dX11_stayed_5 (fun r101 er101 => ?_)
  cases r101 with
  | none =>
    dsimp only
    refine gx_astore_nN (lv' := [some (.inr (some 0)), some (.inl v1), some (.inl v2), some (.inr none)]) dX11_stayed_8 (by decide) rfl ?_
    refine gx_aload_nN dX11_stayed_9 rfl ?_
    refine gx_ifnonnullN dX11_stayed_10 ?_
    refine gx_iconst (x := (-1)) (by decide) dX11_stayed_13 ?_
    exact gx_iret rfl rfl dX11_stayed_14
  | some o102 =>
    have ho102 := co_X0_laid er101
    dsimp only
    refine gx_astore_n (lv' := [some (.inr (some 0)), some (.inl v1), some (.inl v2), some (.inr (some o102))]) dX11_stayed_8 (by decide) rfl ?_
    refine gx_aload_n dX11_stayed_9 rfl ?_
    refine gx_ifnonnullS (tgt := 15) dX11_stayed_10 (by decide) ?_
    refine gx_iload_n dX11_stayed_15 rfl ?_
    refine gx_swT (k := 0) (kI := 0) (off := 28) (tgt := 44) (by decide) dX11_stayed_16 (by decide) (by decide) rfl (by decide) ?_ (fun q16_0 => ?_)
    · refine gx_aload_n dX11_stayed_44 rfl ?_
      refine gx_getR fl_X11_67 sh0 rfl dX11_stayed_45 ?_
      refine gx_aload_n dX11_stayed_48 rfl ?_
      refine gx_cV_im (av := [.inr (some o102)]) (st := []) ml_X11_249 (by omega) sh32 (c_X9_longestStay (d - 1) (by omega) n o102 ho102 M) rfl rfl (Nat.le_of_ble_eq_true rfl) dX11_stayed_49 (fun x103 M104 => ?_)
      exact gx_iret rfl rfl dX11_stayed_52
    refine gx_swT (k := 1) (kI := 1) (off := 37) (tgt := 53) (by decide) dX11_stayed_16 (by decide) (by decide) rfl (by decide) ?_ (fun q16_1 => ?_)
    · refine gx_aload_n dX11_stayed_53 rfl ?_
      refine gx_aload_n dX11_stayed_54 rfl ?_
      refine gx_getR fl_X11_67 sh0 rfl dX11_stayed_55 ?_
      refine gx_aload_n dX11_stayed_58 rfl ?_
      refine gx_cV_im (av := [.inr (some o102)]) (st := [.inr (some o102)]) ml_X11_249 (by omega) sh32 (c_X9_longestStay (d - 1) (by omega) n o102 ho102 M) rfl rfl (Nat.le_of_ble_eq_true rfl) dX11_stayed_59 (fun x105 M106 => ?_)
      refine gx_cV_ip (av := [.inl x105]) (st := []) ml_X11_253 (by omega) (shC ho102) (c_X1_timesAt (d - 1) (by omega) n o102 ho102 x105 M106) rfl rfl (Nat.le_of_ble_eq_true rfl) dX11_stayed_62 (fun x107 => ?_)
      exact gx_iret rfl rfl dX11_stayed_65
    refine gx_swT (k := 2) (kI := 2) (off := 50) (tgt := 66) (by decide) dX11_stayed_16 (by decide) (by decide) rfl (by decide) ?_ (fun q16_2 => ?_)
    · refine gx_aload_n dX11_stayed_66 rfl ?_
      refine gx_getR fl_X11_67 sh0 rfl dX11_stayed_67 ?_
      refine gx_aload_n dX11_stayed_70 rfl ?_
      refine gx_cV_im (av := [.inr (some o102)]) (st := []) ml_X11_256 (by omega) sh32 (c_X9_placesComeBackTo (d - 1) (by omega) n o102 ho102 M) rfl rfl (Nat.le_of_ble_eq_true rfl) dX11_stayed_71 (fun x108 M109 => ?_)
      exact gx_iret rfl rfl dX11_stayed_74
    refine gx_swTd (tgt := 75) dX11_stayed_16 (by have := lv_neT q16_0 (a := 0) (by decide); have := lv_neT q16_1 (a := 1) (by decide); have := lv_neT q16_2 (a := 2) (by decide); omega) (by decide) ?_
    refine gx_iconst (x := (-1)) (by decide) dX11_stayed_75 ?_
    exact gx_iret rfl rfl dX11_stayed_76
theorem c_X11_stayed (d : Nat) (hd : 3 ≤ d) (n : Nat) (v1 : Int32) (v2 : Int32) (M : HMem) : MX iX11_stayed d [.inr (some 0), .inl v1, .inl v2] M eI (f_X11_stayed n v1 v2 M) := mx_of (by decide +kernel) (Nat.le_of_ble_eq_true rfl) rfl (w_X11_stayed d hd n v1 v2 M)
-- X11_unlooped
def f_X11_unlooped_J30 (n : Nat) (v2 : Int32) (o3 : Nat) (M : HMem) : Option (Int32 × HMem) :=
  hb2 (f_X9_unloop n o3 M) (fun x101 M102 =>
  if v2 = 100 then
    (some (x101, M102))
  else
    (if x101 ≤ v2 then
      (some ((-4), M102))
    else
      (hb1 (f_X9_rowAt v2 M102) (fun x103 =>
      some (x103, M102)))))
set_option maxRecDepth 20000 in
theorem w_X11_unlooped_J30 (d : Nat) (hd : 3 ≤ d) (n : Nat) (M : HMem) (v2 : Int32) (o3 : Nat) (h3 : isCo o3) : GX iX11_unlooped d eI (f_X11_unlooped_J30 n v2 o3 M) 30 [some (.inr (some 0)), none, some (.inl v2), some (.inr (some o3)), none] [] M := by
  rw [f_X11_unlooped_J30]
  refine gx_aload_n dX11_unlooped_30 rfl ?_
  refine gx_getR fl_X11_67 sh0 rfl dX11_unlooped_31 ?_
  refine gx_aload_n dX11_unlooped_34 rfl ?_
  refine gx_cV_im (av := [.inr (some o3)]) (st := []) ml_X11_259 (by omega) sh32 (c_X9_unloop (d - 1) (by omega) n o3 h3 M) rfl rfl (Nat.le_of_ble_eq_true rfl) dX11_unlooped_35 (fun x101 M102 => ?_)
  refine gx_istore (lv' := [some (.inr (some 0)), none, some (.inl v2), some (.inr (some o3)), some (.inl x101)]) dX11_unlooped_38 (by decide) rfl ?_
  refine gx_iload_n dX11_unlooped_40 rfl ?_
  refine gx_bipush (x := 100) (by decide) dX11_unlooped_41 ?_
  refine gx_icmp_ne (tgt := 49) dX11_unlooped_43 (by decide) ?_ ?_
  · refine gx_iload_n dX11_unlooped_49 rfl ?_
    refine gx_iload dX11_unlooped_50 rfl ?_
    refine gx_icmp_ge (tgt := 66) dX11_unlooped_52 (by decide) ?_ ?_
    · refine gx_bipush (x := (-4)) (by decide) dX11_unlooped_66 ?_
      exact gx_iret rfl rfl dX11_unlooped_68
    refine gx_aload_n dX11_unlooped_55 rfl ?_
    refine gx_getR fl_X11_67 sh0 rfl dX11_unlooped_56 ?_
    refine gx_iload_n dX11_unlooped_59 rfl ?_
    refine gx_cV_ip (av := [.inl v2]) (st := []) ml_X11_262 (by omega) sh32 (c_X9_rowAt (d - 1) (by omega) v2 M102) rfl rfl (Nat.le_of_ble_eq_true rfl) dX11_unlooped_60 (fun x103 => ?_)
    refine gx_goto (tgt := 68) dX11_unlooped_63 (by decide) ?_
    exact gx_iret rfl rfl dX11_unlooped_68
  refine gx_iload dX11_unlooped_46 rfl ?_
  exact gx_iret rfl rfl dX11_unlooped_48
def f_X11_unlooped (n : Nat) (v1 : Int32) (v2 : Int32) (M : HMem) : Option (Int32 × HMem) :=
  hb1 (f_X0_laid v1 M) (fun r101 => match r101 with
    | none => (some ((-1), M))
    | some o102 => (if (f_X11_isWithin v2 96) = 0 then
        (if v2 = 100 then
          (f_X11_unlooped_J30 n v2 o102 M)
        else
          (some ((-1), M)))
      else
        (f_X11_unlooped_J30 n v2 o102 M)))
set_option maxRecDepth 20000 in
theorem w_X11_unlooped (d : Nat) (hd : 3 ≤ d) (n : Nat) (v1 : Int32) (v2 : Int32) (M : HMem) : GX iX11_unlooped d eI (f_X11_unlooped n v1 v2 M) 0 [some (.inr (some 0)), some (.inl v1), some (.inl v2), none, none] [] M := by
  rw [f_X11_unlooped]
  refine gx_aload_n dX11_unlooped_0 rfl ?_
  refine gx_getR fl_X11_19 sh0 rfl dX11_unlooped_1 ?_
  refine gx_iload_n dX11_unlooped_4 rfl ?_
  refine gx_cV_rp (av := [.inl v1]) (st := []) ml_X11_211 (by omega) sh3 (c_X0_laid (d - 1) (by omega) v1 M) rfl rfl (Nat.le_of_ble_eq_true rfl) dX11_unlooped_5 (fun r101 er101 => ?_)
  cases r101 with
  | none =>
    dsimp only
    refine gx_astore_nN (lv' := [some (.inr (some 0)), some (.inl v1), some (.inl v2), some (.inr none), none]) dX11_unlooped_8 (by decide) rfl ?_
    refine gx_aload_nN dX11_unlooped_9 rfl ?_
    refine gx_ifnullN (tgt := 28) dX11_unlooped_10 (by decide) ?_
    refine gx_iconst (x := (-1)) (by decide) dX11_unlooped_28 ?_
    exact gx_iret rfl rfl dX11_unlooped_29
  | some o102 =>
    have ho102 := co_X0_laid er101
    dsimp only
    refine gx_astore_n (lv' := [some (.inr (some 0)), some (.inl v1), some (.inl v2), some (.inr (some o102)), none]) dX11_unlooped_8 (by decide) rfl ?_
    refine gx_aload_n dX11_unlooped_9 rfl ?_
    refine gx_ifnullS dX11_unlooped_10 ?_
    refine gx_iload_n dX11_unlooped_13 rfl ?_
    refine gx_bipush (x := 96) (by decide) dX11_unlooped_14 ?_
    refine gx_cS_it (av := [.inl v2, .inl 96]) (st := []) ml_X11_88 (by omega) (c_X11_isWithin (d - 1) (by omega) v2 96 M) rfl rfl (Nat.le_of_ble_eq_true rfl) dX11_unlooped_16 ?_
    refine gx_if_ne (tgt := 30) dX11_unlooped_19 (by decide) ?_ ?_
    · refine gx_mk (lv' := [some (.inr (some 0)), none, some (.inl v2), some (.inr (some o102)), none]) [true, false, true, true, false] rfl ?_
      exact w_X11_unlooped_J30 d hd n M v2 o102 ho102
    refine gx_iload_n dX11_unlooped_22 rfl ?_
    refine gx_bipush (x := 100) (by decide) dX11_unlooped_23 ?_
    refine gx_icmp_eq (tgt := 30) dX11_unlooped_25 (by decide) ?_ ?_
    · refine gx_mk (lv' := [some (.inr (some 0)), none, some (.inl v2), some (.inr (some o102)), none]) [true, false, true, true, false] rfl ?_
      exact w_X11_unlooped_J30 d hd n M v2 o102 ho102
    refine gx_iconst (x := (-1)) (by decide) dX11_unlooped_28 ?_
    exact gx_iret rfl rfl dX11_unlooped_29
theorem c_X11_unlooped (d : Nat) (hd : 3 ≤ d) (n : Nat) (v1 : Int32) (v2 : Int32) (M : HMem) : MX iX11_unlooped d [.inr (some 0), .inl v1, .inl v2] M eI (f_X11_unlooped n v1 v2 M) := mx_of (by decide +kernel) (Nat.le_of_ble_eq_true rfl) rfl (w_X11_unlooped d hd n v1 v2 M)

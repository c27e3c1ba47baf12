-- X6_opens
def f_X6_opens (v1 : Int32) (M : HMem) : Option (Int32 × HMem) :=
  if v1 < 6 then
    (some (1, f_X10_pass  M))
  else
    (some (0, f_X10_failHere 5 M))
set_option maxRecDepth 20000 in
theorem w_X6_opens (d : Nat) (hd : 1 ≤ d) (v1 : Int32) (M : HMem) : GX iX6_opens d eI (f_X6_opens v1 M) 0 [some (.inr (some 14)), some (.inl v1)] [] M := by
  rw [f_X6_opens]
  refine gx_iload_n dX6_opens_0 rfl ?_
  refine gx_bipush (x := 6) (by decide) dX6_opens_1 ?_
  refine gx_icmp_lt (tgt := 16) dX6_opens_3 (by decide) ?_ ?_
  · refine gx_aload_n dX6_opens_16 rfl ?_
    refine gx_getR fl_X6_18 sh14 rfl dX6_opens_17 ?_
    refine gx_cV_vt (av := []) (st := []) ml_X6_49 (by omega) sh1 (c_X10_pass (d - 1) (by omega)  M) rfl rfl (Nat.le_of_ble_eq_true rfl) dX6_opens_20 ?_
    refine gx_iconst (x := 1) (by decide) dX6_opens_23 ?_
    exact gx_zret rfl (by decide) rfl dX6_opens_24
  refine gx_aload_n dX6_opens_6 rfl ?_
  refine gx_getR fl_X6_18 sh14 rfl dX6_opens_7 ?_
  refine gx_iconst (x := 5) (by decide) dX6_opens_10 ?_
  refine gx_cV_vt (av := [.inl 5]) (st := []) ml_X6_42 (by omega) sh1 (c_X10_failHere (d - 1) (by omega) 5 M) rfl rfl (Nat.le_of_ble_eq_true rfl) dX6_opens_11 ?_
  refine gx_iconst (x := 0) (by decide) dX6_opens_14 ?_
  exact gx_zret rfl (by decide) rfl dX6_opens_15
theorem c_X6_opens (d : Nat) (hd : 1 ≤ d) (v1 : Int32) (M : HMem) : MX iX6_opens d [.inr (some 14), .inl v1] M eI (f_X6_opens v1 M) := mx_of (by decide +kernel) (Nat.le_of_ble_eq_true rfl) rfl (w_X6_opens d hd v1 M)
-- X6_letterOf
def f_X6_letterOf (v0 : Int32) : Int32 :=
  if v0 = 97 then
    (2)
  else if v0 = 98 then
    ((-1))
  else if v0 = 99 then
    (1)
  else if v0 = 100 then
    ((-1))
  else if v0 = 101 then
    ((-1))
  else if v0 = 102 then
    (5)
  else if v0 = 103 then
    (4)
  else if v0 = 104 then
    (0)
  else if v0 = 105 then
    ((-1))
  else if v0 = 106 then
    ((-1))
  else if v0 = 107 then
    ((-1))
  else if v0 = 108 then
    ((-1))
  else if v0 = 109 then
    ((-1))
  else if v0 = 110 then
    (6)
  else if v0 = 111 then
    ((-1))
  else if v0 = 112 then
    ((-1))
  else if v0 = 113 then
    ((-1))
  else if v0 = 114 then
    ((-1))
  else if v0 = 115 then
    (3)
  else if v0 = 116 then
    (7)
  else ((-1))
set_option maxRecDepth 20000 in
theorem w_X6_letterOf (d : Nat) (hd : 0 ≤ d) (v0 : Int32) (M : HMem) : GX iX6_letterOf d (eP M) (some (f_X6_letterOf v0)) 0 [some (.inl v0)] [] M := by
  rw [f_X6_letterOf]
  refine gx_iload_n dX6_letterOf_0 rfl ?_
  refine gxt_swT (k := 97) (kI := 97) (off := 99) (tgt := 100) (by decide) dX6_letterOf_1 (by decide) (by decide) rfl (by decide) ?_ (fun q1_97 => ?_)
  · refine gx_iconst (x := 2) (by decide) dX6_letterOf_100 ?_
    exact gx_iret rfl rfl dX6_letterOf_101
  refine gxt_swT (k := 98) (kI := 98) (off := 113) (tgt := 114) (by decide) dX6_letterOf_1 (by decide) (by decide) rfl (by decide) ?_ (fun q1_98 => ?_)
  · refine gx_iconst (x := (-1)) (by decide) dX6_letterOf_114 ?_
    exact gx_iret rfl rfl dX6_letterOf_115
  refine gxt_swT (k := 99) (kI := 99) (off := 97) (tgt := 98) (by decide) dX6_letterOf_1 (by decide) (by decide) rfl (by decide) ?_ (fun q1_99 => ?_)
  · refine gx_iconst (x := 1) (by decide) dX6_letterOf_98 ?_
    exact gx_iret rfl rfl dX6_letterOf_99
  refine gxt_swT (k := 100) (kI := 100) (off := 113) (tgt := 114) (by decide) dX6_letterOf_1 (by decide) (by decide) rfl (by decide) ?_ (fun q1_100 => ?_)
  · refine gx_iconst (x := (-1)) (by decide) dX6_letterOf_114 ?_
    exact gx_iret rfl rfl dX6_letterOf_115
  refine gxt_swT (k := 101) (kI := 101) (off := 113) (tgt := 114) (by decide) dX6_letterOf_1 (by decide) (by decide) rfl (by decide) ?_ (fun q1_101 => ?_)
  · refine gx_iconst (x := (-1)) (by decide) dX6_letterOf_114 ?_
    exact gx_iret rfl rfl dX6_letterOf_115
  refine gxt_swT (k := 102) (kI := 102) (off := 105) (tgt := 106) (by decide) dX6_letterOf_1 (by decide) (by decide) rfl (by decide) ?_ (fun q1_102 => ?_)
  · refine gx_iconst (x := 5) (by decide) dX6_letterOf_106 ?_
    exact gx_iret rfl rfl dX6_letterOf_107
  refine gxt_swT (k := 103) (kI := 103) (off := 103) (tgt := 104) (by decide) dX6_letterOf_1 (by decide) (by decide) rfl (by decide) ?_ (fun q1_103 => ?_)
  · refine gx_iconst (x := 4) (by decide) dX6_letterOf_104 ?_
    exact gx_iret rfl rfl dX6_letterOf_105
  refine gxt_swT (k := 104) (kI := 104) (off := 95) (tgt := 96) (by decide) dX6_letterOf_1 (by decide) (by decide) rfl (by decide) ?_ (fun q1_104 => ?_)
  · refine gx_iconst (x := 0) (by decide) dX6_letterOf_96 ?_
    exact gx_iret rfl rfl dX6_letterOf_97
  refine gxt_swT (k := 105) (kI := 105) (off := 113) (tgt := 114) (by decide) dX6_letterOf_1 (by decide) (by decide) rfl (by decide) ?_ (fun q1_105 => ?_)
  · refine gx_iconst (x := (-1)) (by decide) dX6_letterOf_114 ?_
    exact gx_iret rfl rfl dX6_letterOf_115
  refine gxt_swT (k := 106) (kI := 106) (off := 113) (tgt := 114) (by decide) dX6_letterOf_1 (by decide) (by decide) rfl (by decide) ?_ (fun q1_106 => ?_)
  · refine gx_iconst (x := (-1)) (by decide) dX6_letterOf_114 ?_
    exact gx_iret rfl rfl dX6_letterOf_115
  refine gxt_swT (k := 107) (kI := 107) (off := 113) (tgt := 114) (by decide) dX6_letterOf_1 (by decide) (by decide) rfl (by decide) ?_ (fun q1_107 => ?_)
  · refine gx_iconst (x := (-1)) (by decide) dX6_letterOf_114 ?_
    exact gx_iret rfl rfl dX6_letterOf_115
  refine gxt_swT (k := 108) (kI := 108) (off := 113) (tgt := 114) (by decide) dX6_letterOf_1 (by decide) (by decide) rfl (by decide) ?_ (fun q1_108 => ?_)
  · refine gx_iconst (x := (-1)) (by decide) dX6_letterOf_114 ?_
    exact gx_iret rfl rfl dX6_letterOf_115
  refine gxt_swT (k := 109) (kI := 109) (off := 113) (tgt := 114) (by decide) dX6_letterOf_1 (by decide) (by decide) rfl (by decide) ?_ (fun q1_109 => ?_)
  · refine gx_iconst (x := (-1)) (by decide) dX6_letterOf_114 ?_
    exact gx_iret rfl rfl dX6_letterOf_115
  refine gxt_swT (k := 110) (kI := 110) (off := 107) (tgt := 108) (by decide) dX6_letterOf_1 (by decide) (by decide) rfl (by decide) ?_ (fun q1_110 => ?_)
  · refine gx_bipush (x := 6) (by decide) dX6_letterOf_108 ?_
    exact gx_iret rfl rfl dX6_letterOf_110
  refine gxt_swT (k := 111) (kI := 111) (off := 113) (tgt := 114) (by decide) dX6_letterOf_1 (by decide) (by decide) rfl (by decide) ?_ (fun q1_111 => ?_)
  · refine gx_iconst (x := (-1)) (by decide) dX6_letterOf_114 ?_
    exact gx_iret rfl rfl dX6_letterOf_115
  refine gxt_swT (k := 112) (kI := 112) (off := 113) (tgt := 114) (by decide) dX6_letterOf_1 (by decide) (by decide) rfl (by decide) ?_ (fun q1_112 => ?_)
  · refine gx_iconst (x := (-1)) (by decide) dX6_letterOf_114 ?_
    exact gx_iret rfl rfl dX6_letterOf_115
  refine gxt_swT (k := 113) (kI := 113) (off := 113) (tgt := 114) (by decide) dX6_letterOf_1 (by decide) (by decide) rfl (by decide) ?_ (fun q1_113 => ?_)
  · refine gx_iconst (x := (-1)) (by decide) dX6_letterOf_114 ?_
    exact gx_iret rfl rfl dX6_letterOf_115
  refine gxt_swT (k := 114) (kI := 114) (off := 113) (tgt := 114) (by decide) dX6_letterOf_1 (by decide) (by decide) rfl (by decide) ?_ (fun q1_114 => ?_)
  · refine gx_iconst (x := (-1)) (by decide) dX6_letterOf_114 ?_
    exact gx_iret rfl rfl dX6_letterOf_115
  refine gxt_swT (k := 115) (kI := 115) (off := 101) (tgt := 102) (by decide) dX6_letterOf_1 (by decide) (by decide) rfl (by decide) ?_ (fun q1_115 => ?_)
  · refine gx_iconst (x := 3) (by decide) dX6_letterOf_102 ?_
    exact gx_iret rfl rfl dX6_letterOf_103
  refine gxt_swT (k := 116) (kI := 116) (off := 110) (tgt := 111) (by decide) dX6_letterOf_1 (by decide) (by decide) rfl (by decide) ?_ (fun q1_116 => ?_)
  · refine gx_bipush (x := 7) (by decide) dX6_letterOf_111 ?_
    exact gx_iret rfl rfl dX6_letterOf_113
  refine gx_swTd (tgt := 114) dX6_letterOf_1 (by have := lv_neT q1_97 (a := 97) (by decide); have := lv_neT q1_98 (a := 98) (by decide); have := lv_neT q1_99 (a := 99) (by decide); have := lv_neT q1_100 (a := 100) (by decide); have := lv_neT q1_101 (a := 101) (by decide); have := lv_neT q1_102 (a := 102) (by decide); have := lv_neT q1_103 (a := 103) (by decide); have := lv_neT q1_104 (a := 104) (by decide); have := lv_neT q1_105 (a := 105) (by decide); have := lv_neT q1_106 (a := 106) (by decide); have := lv_neT q1_107 (a := 107) (by decide); have := lv_neT q1_108 (a := 108) (by decide); have := lv_neT q1_109 (a := 109) (by decide); have := lv_neT q1_110 (a := 110) (by decide); have := lv_neT q1_111 (a := 111) (by decide); have := lv_neT q1_112 (a := 112) (by decide); have := lv_neT q1_113 (a := 113) (by decide); have := lv_neT q1_114 (a := 114) (by decide); have := lv_neT q1_115 (a := 115) (by decide); have := lv_neT q1_116 (a := 116) (by decide); omega) (by decide) ?_
  refine gx_iconst (x := (-1)) (by decide) dX6_letterOf_114 ?_
  exact gx_iret rfl rfl dX6_letterOf_115
theorem c_X6_letterOf (d : Nat) (hd : 0 ≤ d) (v0 : Int32) (M : HMem) : MX iX6_letterOf d [.inl v0] M (eP M) (some (f_X6_letterOf v0)) := mx_of (by decide +kernel) (Nat.le_of_ble_eq_true rfl) rfl (w_X6_letterOf d hd v0 M)
-- X6_readFactor
def f_X6_readFactor (n : Nat) (cb : Nat → Int32 → HMem → Option HMem) (v1 : Int32) (M : HMem) : Option HMem :=
  hb1 (f_X10_isAt 91 M) (fun x101 =>
  if x101 = 0 then
    (hb1 (f_X10_sign  M) (fun x102 =>
    if (f_X6_letterOf x102) = (-1) then
      (hb2 (f_X10_number n 5 M) (fun x105 M106 =>
      hb2 (f_X5_add 15 1 x105 M106) (fun x107 M108 =>
      some M108)))
    else
      (hb2 (f_X5_add 15 2 (f_X6_letterOf x102) M) (fun x103 M104 =>
      some (f_X10_pass  M104)))))
  else
    (hb2 (f_X6_opens v1 M) (fun x109 M110 =>
    if x109 = 0 then
      (some M110)
    else
      (hb1 (cb 4 (v1 + 1) M110) (fun M111 =>
      hb1 (f_X10_expect 93 M111) (fun M112 =>
      some M112))))))
set_option maxRecDepth 20000 in
theorem w_X6_readFactor (d : Nat) (hd : 2 ≤ d) (n : Nat) (cb : Nat → Int32 → HMem → Option HMem) (hc0 : ∀ a M, MX iX6_readChoice (d - 1) [.inr (some 14), .inl a] M eV (cb 0 a M)) (hc1 : ∀ a M, MX iX6_readPart (d - 1) [.inr (some 14), .inl a] M eV (cb 1 a M)) (hc2 : ∀ a M, MX iX6_readTest (d - 1) [.inr (some 14), .inl a] M eV (cb 2 a M)) (hc3 : ∀ a M, MX iX6_readComparison (d - 1) [.inr (some 14), .inl a] M eV (cb 3 a M)) (hc4 : ∀ a M, MX iX6_readSum (d - 1) [.inr (some 14), .inl a] M eV (cb 4 a M)) (hc5 : ∀ a M, MX iX6_readTerm (d - 1) [.inr (some 14), .inl a] M eV (cb 5 a M)) (hc6 : ∀ a M, MX iX6_readFactor (d - 1) [.inr (some 14), .inl a] M eV (cb 6 a M)) (v1 : Int32) (M : HMem) : GX iX6_readFactor d eV (f_X6_readFactor n cb v1 M) 0 [some (.inr (some 14)), some (.inl v1), none] [] M := by
  rw [f_X6_readFactor]
  refine gx_aload_n dX6_readFactor_0 rfl ?_
  refine gx_getR fl_X6_18 sh14 rfl dX6_readFactor_1 ?_
  refine gx_bipush (x := 91) (by decide) dX6_readFactor_4 ?_
  refine gx_cV_ip (av := [.inl 91]) (st := []) ml_X6_30 (by omega) sh1 (c_X10_isAt (d - 1) (by omega) 91 M) rfl rfl (Nat.le_of_ble_eq_true rfl) dX6_readFactor_6 (fun x101 => ?_)
  refine gx_if_eq (tgt := 37) dX6_readFactor_9 (by decide) ?_ ?_
  · refine gx_aload_n dX6_readFactor_37 rfl ?_
    refine gx_getR fl_X6_18 sh14 rfl dX6_readFactor_38 ?_
    refine gx_cV_ip (av := []) (st := []) ml_X6_38 (by omega) sh1 (c_X10_sign (d - 1) (by omega)  M) rfl rfl (Nat.le_of_ble_eq_true rfl) dX6_readFactor_41 (fun x102 => ?_)
    refine gx_cS_it (av := [.inl x102]) (st := []) ml_X6_98 (by omega) (c_X6_letterOf (d - 1) (by omega) x102 M) rfl rfl (Nat.le_of_ble_eq_true rfl) dX6_readFactor_44 ?_
    refine gx_istore_n (lv' := [some (.inr (some 14)), some (.inl v1), some (.inl (f_X6_letterOf x102))]) dX6_readFactor_47 (by decide) rfl ?_
    refine gx_iload_n dX6_readFactor_48 rfl ?_
    refine gx_iconst (x := (-1)) (by decide) dX6_readFactor_49 ?_
    refine gx_icmp_ne (tgt := 73) dX6_readFactor_50 (by decide) ?_ ?_
    · refine gx_aload_n dX6_readFactor_73 rfl ?_
      refine gx_getR fl_X6_12 sh14 rfl dX6_readFactor_74 ?_
      refine gx_iconst (x := 2) (by decide) dX6_readFactor_77 ?_
      refine gx_iload_n dX6_readFactor_78 rfl ?_
      refine gx_cV_im (av := [.inl 2, .inl (f_X6_letterOf x102)]) (st := []) ml_X6_58 (by omega) sh15 (c_X5_add (d - 1) (by omega) 15 (Or.inl rfl) 2 (f_X6_letterOf x102) M) rfl rfl (Nat.le_of_ble_eq_true rfl) dX6_readFactor_79 (fun x103 M104 => ?_)
      refine gx_pop dX6_readFactor_82 ?_
      refine gx_aload_n dX6_readFactor_83 rfl ?_
      refine gx_getR fl_X6_18 sh14 rfl dX6_readFactor_84 ?_
      refine gx_cV_vt (av := []) (st := []) ml_X6_49 (by omega) sh1 (c_X10_pass (d - 1) (by omega)  M104) rfl rfl (Nat.le_of_ble_eq_true rfl) dX6_readFactor_87 ?_
      exact gx_vret rfl rfl dX6_readFactor_90
    refine gx_aload_n dX6_readFactor_53 rfl ?_
    refine gx_getR fl_X6_12 sh14 rfl dX6_readFactor_54 ?_
    refine gx_iconst (x := 1) (by decide) dX6_readFactor_57 ?_
    refine gx_aload_n dX6_readFactor_58 rfl ?_
    refine gx_getR fl_X6_18 sh14 rfl dX6_readFactor_59 ?_
    refine gx_iconst (x := 5) (by decide) dX6_readFactor_62 ?_
    refine gx_cV_im (av := [.inl 5]) (st := [.inl 1, .inr (some 15)]) ml_X6_102 (by omega) sh1 (c_X10_number (d - 1) (by omega) n 5 M) rfl rfl (Nat.le_of_ble_eq_true rfl) dX6_readFactor_63 (fun x105 M106 => ?_)
    refine gx_cV_im (av := [.inl 1, .inl x105]) (st := []) ml_X6_58 (by omega) sh15 (c_X5_add (d - 1) (by omega) 15 (Or.inl rfl) 1 x105 M106) rfl rfl (Nat.le_of_ble_eq_true rfl) dX6_readFactor_66 (fun x107 M108 => ?_)
    refine gx_pop dX6_readFactor_69 ?_
    refine gx_goto (tgt := 90) dX6_readFactor_70 (by decide) ?_
    exact gx_vret rfl rfl dX6_readFactor_90
  refine gx_aload_n dX6_readFactor_12 rfl ?_
  refine gx_iload_n dX6_readFactor_13 rfl ?_
  refine gx_cV_im (av := [.inl v1]) (st := []) ml_X6_80 (by omega) sh14 (c_X6_opens (d - 1) (by omega) v1 M) rfl rfl (Nat.le_of_ble_eq_true rfl) dX6_readFactor_14 (fun x109 M110 => ?_)
  refine gx_if_eq (tgt := 36) dX6_readFactor_17 (by decide) ?_ ?_
  · exact gx_vret rfl rfl dX6_readFactor_36
  refine gx_aload_n dX6_readFactor_20 rfl ?_
  refine gx_iload_n dX6_readFactor_21 rfl ?_
  refine gx_iconst (x := 1) (by decide) dX6_readFactor_22 ?_
  refine gx_iadd dX6_readFactor_23 ?_
  refine gx_cV_vm (av := [.inl (v1 + 1)]) (st := []) ml_X6_55 (by omega) sh14 (hc4 (v1 + 1) M110) rfl rfl (Nat.le_of_ble_eq_true rfl) dX6_readFactor_24 (fun M111 => ?_)
  refine gx_aload_n dX6_readFactor_27 rfl ?_
  refine gx_getR fl_X6_18 sh14 rfl dX6_readFactor_28 ?_
  refine gx_bipush (x := 93) (by decide) dX6_readFactor_31 ?_
  refine gx_cV_vm (av := [.inl 93]) (st := []) ml_X6_34 (by omega) sh1 (c_X10_expect (d - 1) (by omega) 93 M111) rfl rfl (Nat.le_of_ble_eq_true rfl) dX6_readFactor_33 (fun M112 => ?_)
  exact gx_vret rfl rfl dX6_readFactor_36
theorem c_X6_readFactor (d : Nat) (hd : 2 ≤ d) (n : Nat) (cb : Nat → Int32 → HMem → Option HMem) (hc0 : ∀ a M, MX iX6_readChoice (d - 1) [.inr (some 14), .inl a] M eV (cb 0 a M)) (hc1 : ∀ a M, MX iX6_readPart (d - 1) [.inr (some 14), .inl a] M eV (cb 1 a M)) (hc2 : ∀ a M, MX iX6_readTest (d - 1) [.inr (some 14), .inl a] M eV (cb 2 a M)) (hc3 : ∀ a M, MX iX6_readComparison (d - 1) [.inr (some 14), .inl a] M eV (cb 3 a M)) (hc4 : ∀ a M, MX iX6_readSum (d - 1) [.inr (some 14), .inl a] M eV (cb 4 a M)) (hc5 : ∀ a M, MX iX6_readTerm (d - 1) [.inr (some 14), .inl a] M eV (cb 5 a M)) (hc6 : ∀ a M, MX iX6_readFactor (d - 1) [.inr (some 14), .inl a] M eV (cb 6 a M)) (v1 : Int32) (M : HMem) : MX iX6_readFactor d [.inr (some 14), .inl v1] M eV (f_X6_readFactor n cb v1 M) := mx_of (by decide +kernel) (Nat.le_of_ble_eq_true rfl) rfl (w_X6_readFactor d hd n cb hc0 hc1 hc2 hc3 hc4 hc5 hc6 v1 M)
-- X6_joinsFactors
def f_X6_joinsFactors (v0 : Int32) : Int32 :=
  if v0 = 42 then
    (1)
  else
    (if v0 = 47 then
      (1)
    else
      (if v0 = 37 then
        (1)
      else
        (0)))
set_option maxRecDepth 20000 in
theorem w_X6_joinsFactors (d : Nat) (hd : 0 ≤ d) (v0 : Int32) (M : HMem) : GX iX6_joinsFactors d (eP M) (some (f_X6_joinsFactors v0)) 0 [some (.inl v0)] [] M := by
  rw [f_X6_joinsFactors]
  refine gx_iload_n dX6_joinsFactors_0 rfl ?_
  refine gx_bipush (x := 42) (by decide) dX6_joinsFactors_1 ?_
  refine gxt_icmp_eq (tgt := 18) dX6_joinsFactors_3 (by decide) ?_ ?_
  · refine gx_iconst (x := 1) (by decide) dX6_joinsFactors_18 ?_
    refine gx_goto (tgt := 23) dX6_joinsFactors_19 (by decide) ?_
    exact gx_zret rfl (by decide) rfl dX6_joinsFactors_23
  refine gx_iload_n dX6_joinsFactors_6 rfl ?_
  refine gx_bipush (x := 47) (by decide) dX6_joinsFactors_7 ?_
  refine gxt_icmp_eq (tgt := 18) dX6_joinsFactors_9 (by decide) ?_ ?_
  · refine gx_iconst (x := 1) (by decide) dX6_joinsFactors_18 ?_
    refine gx_goto (tgt := 23) dX6_joinsFactors_19 (by decide) ?_
    exact gx_zret rfl (by decide) rfl dX6_joinsFactors_23
  refine gx_iload_n dX6_joinsFactors_12 rfl ?_
  refine gx_bipush (x := 37) (by decide) dX6_joinsFactors_13 ?_
  refine gxt_icmp_ne (tgt := 22) dX6_joinsFactors_15 (by decide) ?_ ?_
  · refine gx_iconst (x := 0) (by decide) dX6_joinsFactors_22 ?_
    exact gx_zret rfl (by decide) rfl dX6_joinsFactors_23
  refine gx_iconst (x := 1) (by decide) dX6_joinsFactors_18 ?_
  refine gx_goto (tgt := 23) dX6_joinsFactors_19 (by decide) ?_
  exact gx_zret rfl (by decide) rfl dX6_joinsFactors_23
theorem c_X6_joinsFactors (d : Nat) (hd : 0 ≤ d) (v0 : Int32) (M : HMem) : MX iX6_joinsFactors d [.inl v0] M (eP M) (some (f_X6_joinsFactors v0)) := mx_of (by decide +kernel) (Nat.le_of_ble_eq_true rfl) rfl (w_X6_joinsFactors d hd v0 M)
-- X6_readTerm
def f_X6_readTerm_L7 (n : Nat) (cb : Nat → Int32 → HMem → Option HMem) (v1 : Int32) : Nat → Int32 → HMem → Option HMem
  | 0, _, _ => none
  | k + 1, v2, M =>
    if 240 ≤ v2 then
      (some M)
    else
      (hb1 (f_X10_sign  M) (fun x101 =>
      if (f_X6_joinsFactors x101) = 0 then
        (some M)
      else
        (hb1 (f_X10_sign  M) (fun x102 =>
        hb1 (cb 6 v1 (f_X10_pass  M)) (fun M103 =>
        hb2 (f_X5_add 15 x102 0 M103) (fun x104 M105 =>
        f_X6_readTerm_L7 n cb v1 k (v2 + 1) M105))))))
set_option maxRecDepth 20000 in
theorem w_X6_readTerm_L7 (d : Nat) (hd : 1 ≤ d) (n : Nat) (cb : Nat → Int32 → HMem → Option HMem) (hc0 : ∀ a M, MX iX6_readChoice (d - 1) [.inr (some 14), .inl a] M eV (cb 0 a M)) (hc1 : ∀ a M, MX iX6_readPart (d - 1) [.inr (some 14), .inl a] M eV (cb 1 a M)) (hc2 : ∀ a M, MX iX6_readTest (d - 1) [.inr (some 14), .inl a] M eV (cb 2 a M)) (hc3 : ∀ a M, MX iX6_readComparison (d - 1) [.inr (some 14), .inl a] M eV (cb 3 a M)) (hc4 : ∀ a M, MX iX6_readSum (d - 1) [.inr (some 14), .inl a] M eV (cb 4 a M)) (hc5 : ∀ a M, MX iX6_readTerm (d - 1) [.inr (some 14), .inl a] M eV (cb 5 a M)) (hc6 : ∀ a M, MX iX6_readFactor (d - 1) [.inr (some 14), .inl a] M eV (cb 6 a M)) (v1 : Int32) : ∀ (k : Nat) (v2 : Int32) (M : HMem), GX iX6_readTerm d eV (f_X6_readTerm_L7 n cb v1 k v2 M) 7 [some (.inr (some 14)), some (.inl v1), some (.inl v2), none] [] M := by
  intro k
  induction k with
  | zero => intro v2 M; exact gx_none
  | succ k ih =>
    intro v2 M
    rw [f_X6_readTerm_L7]
    refine gx_iload_n dX6_readTerm_7 rfl ?_
    refine gx_sipush (x := 240) (by decide) dX6_readTerm_8 ?_
    refine gx_icmp_ge (tgt := 63) dX6_readTerm_11 (by decide) ?_ ?_
    · exact gx_vret rfl rfl dX6_readTerm_63
    refine gx_aload_n dX6_readTerm_14 rfl ?_
    refine gx_getR fl_X6_18 sh14 rfl dX6_readTerm_15 ?_
    refine gx_cV_ip (av := []) (st := []) ml_X6_38 (by omega) sh1 (c_X10_sign (d - 1) (by omega)  M) rfl rfl (Nat.le_of_ble_eq_true rfl) dX6_readTerm_18 (fun x101 => ?_)
    refine gx_cS_it (av := [.inl x101]) (st := []) ml_X6_95 (by omega) (c_X6_joinsFactors (d - 1) (by omega) x101 M) rfl rfl (Nat.le_of_ble_eq_true rfl) dX6_readTerm_21 ?_
    refine gx_if_eq (tgt := 63) dX6_readTerm_24 (by decide) ?_ ?_
    · exact gx_vret rfl rfl dX6_readTerm_63
    refine gx_aload_n dX6_readTerm_27 rfl ?_
    refine gx_getR fl_X6_18 sh14 rfl dX6_readTerm_28 ?_
    refine gx_cV_ip (av := []) (st := []) ml_X6_38 (by omega) sh1 (c_X10_sign (d - 1) (by omega)  M) rfl rfl (Nat.le_of_ble_eq_true rfl) dX6_readTerm_31 (fun x102 => ?_)
    refine gx_istore_n (lv' := [some (.inr (some 14)), some (.inl v1), some (.inl v2), some (.inl x102)]) dX6_readTerm_34 (by decide) rfl ?_
    refine gx_aload_n dX6_readTerm_35 rfl ?_
    refine gx_getR fl_X6_18 sh14 rfl dX6_readTerm_36 ?_
    refine gx_cV_vt (av := []) (st := []) ml_X6_49 (by omega) sh1 (c_X10_pass (d - 1) (by omega)  M) rfl rfl (Nat.le_of_ble_eq_true rfl) dX6_readTerm_39 ?_
    refine gx_aload_n dX6_readTerm_42 rfl ?_
    refine gx_iload_n dX6_readTerm_43 rfl ?_
    refine gx_cV_vm (av := [.inl v1]) (st := []) ml_X6_92 (by omega) sh14 (hc6 v1 (f_X10_pass  M)) rfl rfl (Nat.le_of_ble_eq_true rfl) dX6_readTerm_44 (fun M103 => ?_)
    refine gx_aload_n dX6_readTerm_47 rfl ?_
    refine gx_getR fl_X6_12 sh14 rfl dX6_readTerm_48 ?_
    refine gx_iload_n dX6_readTerm_51 rfl ?_
    refine gx_iconst (x := 0) (by decide) dX6_readTerm_52 ?_
    refine gx_cV_im (av := [.inl x102, .inl 0]) (st := []) ml_X6_58 (by omega) sh15 (c_X5_add (d - 1) (by omega) 15 (Or.inl rfl) x102 0 M103) rfl rfl (Nat.le_of_ble_eq_true rfl) dX6_readTerm_53 (fun x104 M105 => ?_)
    refine gx_pop dX6_readTerm_56 ?_
    refine gx_iinc (y := v2 + 1) (lv' := [some (.inr (some 14)), some (.inl v1), some (.inl (v2 + 1)), some (.inl x102)]) dX6_readTerm_57 rfl rfl (by decide) rfl ?_
    refine gx_goto (tgt := 7) dX6_readTerm_60 (by decide) ?_
    refine gx_mk (lv' := [some (.inr (some 14)), some (.inl v1), some (.inl (v2 + 1)), none]) [true, true, true, false] rfl ?_
    exact ih (v2 + 1) M105
def f_X6_readTerm (n : Nat) (cb : Nat → Int32 → HMem → Option HMem) (v1 : Int32) (M : HMem) : Option HMem :=
  hb1 (cb 6 v1 M) (fun M101 =>
  f_X6_readTerm_L7 n cb v1 n 0 M101)
set_option maxRecDepth 20000 in
theorem w_X6_readTerm (d : Nat) (hd : 1 ≤ d) (n : Nat) (cb : Nat → Int32 → HMem → Option HMem) (hc0 : ∀ a M, MX iX6_readChoice (d - 1) [.inr (some 14), .inl a] M eV (cb 0 a M)) (hc1 : ∀ a M, MX iX6_readPart (d - 1) [.inr (some 14), .inl a] M eV (cb 1 a M)) (hc2 : ∀ a M, MX iX6_readTest (d - 1) [.inr (some 14), .inl a] M eV (cb 2 a M)) (hc3 : ∀ a M, MX iX6_readComparison (d - 1) [.inr (some 14), .inl a] M eV (cb 3 a M)) (hc4 : ∀ a M, MX iX6_readSum (d - 1) [.inr (some 14), .inl a] M eV (cb 4 a M)) (hc5 : ∀ a M, MX iX6_readTerm (d - 1) [.inr (some 14), .inl a] M eV (cb 5 a M)) (hc6 : ∀ a M, MX iX6_readFactor (d - 1) [.inr (some 14), .inl a] M eV (cb 6 a M)) (v1 : Int32) (M : HMem) : GX iX6_readTerm d eV (f_X6_readTerm n cb v1 M) 0 [some (.inr (some 14)), some (.inl v1), none, none] [] M := by
  rw [f_X6_readTerm]
  refine gx_aload_n dX6_readTerm_0 rfl ?_
  refine gx_iload_n dX6_readTerm_1 rfl ?_
  refine gx_cV_vm (av := [.inl v1]) (st := []) ml_X6_92 (by omega) sh14 (hc6 v1 M) rfl rfl (Nat.le_of_ble_eq_true rfl) dX6_readTerm_2 (fun M101 => ?_)
  refine gx_iconst (x := 0) (by decide) dX6_readTerm_5 ?_
  refine gx_istore_n (lv' := [some (.inr (some 14)), some (.inl v1), some (.inl 0), none]) dX6_readTerm_6 (by decide) rfl ?_
  refine gx_mk (lv' := [some (.inr (some 14)), some (.inl v1), some (.inl 0), none]) [true, true, true, false] rfl ?_
  exact w_X6_readTerm_L7 d hd n cb hc0 hc1 hc2 hc3 hc4 hc5 hc6 v1 n 0 M101
theorem c_X6_readTerm (d : Nat) (hd : 1 ≤ d) (n : Nat) (cb : Nat → Int32 → HMem → Option HMem) (hc0 : ∀ a M, MX iX6_readChoice (d - 1) [.inr (some 14), .inl a] M eV (cb 0 a M)) (hc1 : ∀ a M, MX iX6_readPart (d - 1) [.inr (some 14), .inl a] M eV (cb 1 a M)) (hc2 : ∀ a M, MX iX6_readTest (d - 1) [.inr (some 14), .inl a] M eV (cb 2 a M)) (hc3 : ∀ a M, MX iX6_readComparison (d - 1) [.inr (some 14), .inl a] M eV (cb 3 a M)) (hc4 : ∀ a M, MX iX6_readSum (d - 1) [.inr (some 14), .inl a] M eV (cb 4 a M)) (hc5 : ∀ a M, MX iX6_readTerm (d - 1) [.inr (some 14), .inl a] M eV (cb 5 a M)) (hc6 : ∀ a M, MX iX6_readFactor (d - 1) [.inr (some 14), .inl a] M eV (cb 6 a M)) (v1 : Int32) (M : HMem) : MX iX6_readTerm d [.inr (some 14), .inl v1] M eV (f_X6_readTerm n cb v1 M) := mx_of (by decide +kernel) (Nat.le_of_ble_eq_true rfl) rfl (w_X6_readTerm d hd n cb hc0 hc1 hc2 hc3 hc4 hc5 hc6 v1 M)
-- X6_joinsTerms
def f_X6_joinsTerms (v0 : Int32) : Int32 :=
  if v0 = 43 then
    (1)
  else
    (if v0 = 45 then
      (1)
    else
      (0))
set_option maxRecDepth 20000 in
theorem w_X6_joinsTerms (d : Nat) (hd : 0 ≤ d) (v0 : Int32) (M : HMem) : GX iX6_joinsTerms d (eP M) (some (f_X6_joinsTerms v0)) 0 [some (.inl v0)] [] M := by
  rw [f_X6_joinsTerms]
  refine gx_iload_n dX6_joinsTerms_0 rfl ?_
  refine gx_bipush (x := 43) (by decide) dX6_joinsTerms_1 ?_
  refine gxt_icmp_eq (tgt := 12) dX6_joinsTerms_3 (by decide) ?_ ?_
  · refine gx_iconst (x := 1) (by decide) dX6_joinsTerms_12 ?_
    refine gx_goto (tgt := 17) dX6_joinsTerms_13 (by decide) ?_
    exact gx_zret rfl (by decide) rfl dX6_joinsTerms_17
  refine gx_iload_n dX6_joinsTerms_6 rfl ?_
  refine gx_bipush (x := 45) (by decide) dX6_joinsTerms_7 ?_
  refine gxt_icmp_ne (tgt := 16) dX6_joinsTerms_9 (by decide) ?_ ?_
  · refine gx_iconst (x := 0) (by decide) dX6_joinsTerms_16 ?_
    exact gx_zret rfl (by decide) rfl dX6_joinsTerms_17
  refine gx_iconst (x := 1) (by decide) dX6_joinsTerms_12 ?_
  refine gx_goto (tgt := 17) dX6_joinsTerms_13 (by decide) ?_
  exact gx_zret rfl (by decide) rfl dX6_joinsTerms_17
theorem c_X6_joinsTerms (d : Nat) (hd : 0 ≤ d) (v0 : Int32) (M : HMem) : MX iX6_joinsTerms d [.inl v0] M (eP M) (some (f_X6_joinsTerms v0)) := mx_of (by decide +kernel) (Nat.le_of_ble_eq_true rfl) rfl (w_X6_joinsTerms d hd v0 M)
-- X6_readSum
def f_X6_readSum_L7 (n : Nat) (cb : Nat → Int32 → HMem → Option HMem) (v1 : Int32) : Nat → Int32 → HMem → Option HMem
  | 0, _, _ => none
  | k + 1, v2, M =>
    if 240 ≤ v2 then
      (some M)
    else
      (hb1 (f_X10_sign  M) (fun x101 =>
      if (f_X6_joinsTerms x101) = 0 then
        (some M)
      else
        (hb1 (f_X10_sign  M) (fun x102 =>
        hb1 (cb 5 v1 (f_X10_pass  M)) (fun M103 =>
        hb2 (f_X5_add 15 x102 0 M103) (fun x104 M105 =>
        f_X6_readSum_L7 n cb v1 k (v2 + 1) M105))))))
set_option maxRecDepth 20000 in
theorem w_X6_readSum_L7 (d : Nat) (hd : 1 ≤ d) (n : Nat) (cb : Nat → Int32 → HMem → Option HMem) (hc0 : ∀ a M, MX iX6_readChoice (d - 1) [.inr (some 14), .inl a] M eV (cb 0 a M)) (hc1 : ∀ a M, MX iX6_readPart (d - 1) [.inr (some 14), .inl a] M eV (cb 1 a M)) (hc2 : ∀ a M, MX iX6_readTest (d - 1) [.inr (some 14), .inl a] M eV (cb 2 a M)) (hc3 : ∀ a M, MX iX6_readComparison (d - 1) [.inr (some 14), .inl a] M eV (cb 3 a M)) (hc4 : ∀ a M, MX iX6_readSum (d - 1) [.inr (some 14), .inl a] M eV (cb 4 a M)) (hc5 : ∀ a M, MX iX6_readTerm (d - 1) [.inr (some 14), .inl a] M eV (cb 5 a M)) (hc6 : ∀ a M, MX iX6_readFactor (d - 1) [.inr (some 14), .inl a] M eV (cb 6 a M)) (v1 : Int32) : ∀ (k : Nat) (v2 : Int32) (M : HMem), GX iX6_readSum d eV (f_X6_readSum_L7 n cb v1 k v2 M) 7 [some (.inr (some 14)), some (.inl v1), some (.inl v2), none] [] M := by
  intro k
  induction k with
  | zero => intro v2 M; exact gx_none
  | succ k ih =>
    intro v2 M
    rw [f_X6_readSum_L7]
    refine gx_iload_n dX6_readSum_7 rfl ?_
    refine gx_sipush (x := 240) (by decide) dX6_readSum_8 ?_
    refine gx_icmp_ge (tgt := 63) dX6_readSum_11 (by decide) ?_ ?_
    · exact gx_vret rfl rfl dX6_readSum_63
    refine gx_aload_n dX6_readSum_14 rfl ?_
    refine gx_getR fl_X6_18 sh14 rfl dX6_readSum_15 ?_
    refine gx_cV_ip (av := []) (st := []) ml_X6_38 (by omega) sh1 (c_X10_sign (d - 1) (by omega)  M) rfl rfl (Nat.le_of_ble_eq_true rfl) dX6_readSum_18 (fun x101 => ?_)
    refine gx_cS_it (av := [.inl x101]) (st := []) ml_X6_89 (by omega) (c_X6_joinsTerms (d - 1) (by omega) x101 M) rfl rfl (Nat.le_of_ble_eq_true rfl) dX6_readSum_21 ?_
    refine gx_if_eq (tgt := 63) dX6_readSum_24 (by decide) ?_ ?_
    · exact gx_vret rfl rfl dX6_readSum_63
    refine gx_aload_n dX6_readSum_27 rfl ?_
    refine gx_getR fl_X6_18 sh14 rfl dX6_readSum_28 ?_
    refine gx_cV_ip (av := []) (st := []) ml_X6_38 (by omega) sh1 (c_X10_sign (d - 1) (by omega)  M) rfl rfl (Nat.le_of_ble_eq_true rfl) dX6_readSum_31 (fun x102 => ?_)
    refine gx_istore_n (lv' := [some (.inr (some 14)), some (.inl v1), some (.inl v2), some (.inl x102)]) dX6_readSum_34 (by decide) rfl ?_
    refine gx_aload_n dX6_readSum_35 rfl ?_
    refine gx_getR fl_X6_18 sh14 rfl dX6_readSum_36 ?_
    refine gx_cV_vt (av := []) (st := []) ml_X6_49 (by omega) sh1 (c_X10_pass (d - 1) (by omega)  M) rfl rfl (Nat.le_of_ble_eq_true rfl) dX6_readSum_39 ?_
    refine gx_aload_n dX6_readSum_42 rfl ?_
    refine gx_iload_n dX6_readSum_43 rfl ?_
    refine gx_cV_vm (av := [.inl v1]) (st := []) ml_X6_86 (by omega) sh14 (hc5 v1 (f_X10_pass  M)) rfl rfl (Nat.le_of_ble_eq_true rfl) dX6_readSum_44 (fun M103 => ?_)
    refine gx_aload_n dX6_readSum_47 rfl ?_
    refine gx_getR fl_X6_12 sh14 rfl dX6_readSum_48 ?_
    refine gx_iload_n dX6_readSum_51 rfl ?_
    refine gx_iconst (x := 0) (by decide) dX6_readSum_52 ?_
    refine gx_cV_im (av := [.inl x102, .inl 0]) (st := []) ml_X6_58 (by omega) sh15 (c_X5_add (d - 1) (by omega) 15 (Or.inl rfl) x102 0 M103) rfl rfl (Nat.le_of_ble_eq_true rfl) dX6_readSum_53 (fun x104 M105 => ?_)
    refine gx_pop dX6_readSum_56 ?_
    refine gx_iinc (y := v2 + 1) (lv' := [some (.inr (some 14)), some (.inl v1), some (.inl (v2 + 1)), some (.inl x102)]) dX6_readSum_57 rfl rfl (by decide) rfl ?_
    refine gx_goto (tgt := 7) dX6_readSum_60 (by decide) ?_
    refine gx_mk (lv' := [some (.inr (some 14)), some (.inl v1), some (.inl (v2 + 1)), none]) [true, true, true, false] rfl ?_
    exact ih (v2 + 1) M105
def f_X6_readSum (n : Nat) (cb : Nat → Int32 → HMem → Option HMem) (v1 : Int32) (M : HMem) : Option HMem :=
  hb1 (cb 5 v1 M) (fun M101 =>
  f_X6_readSum_L7 n cb v1 n 0 M101)
set_option maxRecDepth 20000 in
theorem w_X6_readSum (d : Nat) (hd : 1 ≤ d) (n : Nat) (cb : Nat → Int32 → HMem → Option HMem) (hc0 : ∀ a M, MX iX6_readChoice (d - 1) [.inr (some 14), .inl a] M eV (cb 0 a M)) (hc1 : ∀ a M, MX iX6_readPart (d - 1) [.inr (some 14), .inl a] M eV (cb 1 a M)) (hc2 : ∀ a M, MX iX6_readTest (d - 1) [.inr (some 14), .inl a] M eV (cb 2 a M)) (hc3 : ∀ a M, MX iX6_readComparison (d - 1) [.inr (some 14), .inl a] M eV (cb 3 a M)) (hc4 : ∀ a M, MX iX6_readSum (d - 1) [.inr (some 14), .inl a] M eV (cb 4 a M)) (hc5 : ∀ a M, MX iX6_readTerm (d - 1) [.inr (some 14), .inl a] M eV (cb 5 a M)) (hc6 : ∀ a M, MX iX6_readFactor (d - 1) [.inr (some 14), .inl a] M eV (cb 6 a M)) (v1 : Int32) (M : HMem) : GX iX6_readSum d eV (f_X6_readSum n cb v1 M) 0 [some (.inr (some 14)), some (.inl v1), none, none] [] M := by
  rw [f_X6_readSum]
  refine gx_aload_n dX6_readSum_0 rfl ?_
  refine gx_iload_n dX6_readSum_1 rfl ?_
  refine gx_cV_vm (av := [.inl v1]) (st := []) ml_X6_86 (by omega) sh14 (hc5 v1 M) rfl rfl (Nat.le_of_ble_eq_true rfl) dX6_readSum_2 (fun M101 => ?_)
  refine gx_iconst (x := 0) (by decide) dX6_readSum_5 ?_
  refine gx_istore_n (lv' := [some (.inr (some 14)), some (.inl v1), some (.inl 0), none]) dX6_readSum_6 (by decide) rfl ?_
  refine gx_mk (lv' := [some (.inr (some 14)), some (.inl v1), some (.inl 0), none]) [true, true, true, false] rfl ?_
  exact w_X6_readSum_L7 d hd n cb hc0 hc1 hc2 hc3 hc4 hc5 hc6 v1 n 0 M101
theorem c_X6_readSum (d : Nat) (hd : 1 ≤ d) (n : Nat) (cb : Nat → Int32 → HMem → Option HMem) (hc0 : ∀ a M, MX iX6_readChoice (d - 1) [.inr (some 14), .inl a] M eV (cb 0 a M)) (hc1 : ∀ a M, MX iX6_readPart (d - 1) [.inr (some 14), .inl a] M eV (cb 1 a M)) (hc2 : ∀ a M, MX iX6_readTest (d - 1) [.inr (some 14), .inl a] M eV (cb 2 a M)) (hc3 : ∀ a M, MX iX6_readComparison (d - 1) [.inr (some 14), .inl a] M eV (cb 3 a M)) (hc4 : ∀ a M, MX iX6_readSum (d - 1) [.inr (some 14), .inl a] M eV (cb 4 a M)) (hc5 : ∀ a M, MX iX6_readTerm (d - 1) [.inr (some 14), .inl a] M eV (cb 5 a M)) (hc6 : ∀ a M, MX iX6_readFactor (d - 1) [.inr (some 14), .inl a] M eV (cb 6 a M)) (v1 : Int32) (M : HMem) : MX iX6_readSum d [.inr (some 14), .inl v1] M eV (f_X6_readSum n cb v1 M) := mx_of (by decide +kernel) (Nat.le_of_ble_eq_true rfl) rfl (w_X6_readSum d hd n cb hc0 hc1 hc2 hc3 hc4 hc5 hc6 v1 M)
-- X6_readComparison
def f_X6_readComparison_J40 (n : Nat) (cb : Nat → Int32 → HMem → Option HMem) (v1 : Int32) (v2 : Int32) (M : HMem) : Option HMem :=
  hb1 (cb 4 v1 (f_X10_pass  M)) (fun M101 =>
  hb2 (f_X5_add 15 v2 0 M101) (fun x102 M103 =>
  some M103))
set_option maxRecDepth 20000 in
theorem w_X6_readComparison_J40 (d : Nat) (hd : 1 ≤ d) (n : Nat) (cb : Nat → Int32 → HMem → Option HMem) (hc0 : ∀ a M, MX iX6_readChoice (d - 1) [.inr (some 14), .inl a] M eV (cb 0 a M)) (hc1 : ∀ a M, MX iX6_readPart (d - 1) [.inr (some 14), .inl a] M eV (cb 1 a M)) (hc2 : ∀ a M, MX iX6_readTest (d - 1) [.inr (some 14), .inl a] M eV (cb 2 a M)) (hc3 : ∀ a M, MX iX6_readComparison (d - 1) [.inr (some 14), .inl a] M eV (cb 3 a M)) (hc4 : ∀ a M, MX iX6_readSum (d - 1) [.inr (some 14), .inl a] M eV (cb 4 a M)) (hc5 : ∀ a M, MX iX6_readTerm (d - 1) [.inr (some 14), .inl a] M eV (cb 5 a M)) (hc6 : ∀ a M, MX iX6_readFactor (d - 1) [.inr (some 14), .inl a] M eV (cb 6 a M)) (M : HMem) (v1 : Int32) (v2 : Int32) : GX iX6_readComparison d eV (f_X6_readComparison_J40 n cb v1 v2 M) 40 [some (.inr (some 14)), some (.inl v1), some (.inl v2)] [] M := by
  rw [f_X6_readComparison_J40]
  refine gx_aload_n dX6_readComparison_40 rfl ?_
  refine gx_getR fl_X6_18 sh14 rfl dX6_readComparison_41 ?_
  refine gx_cV_vt (av := []) (st := []) ml_X6_49 (by omega) sh1 (c_X10_pass (d - 1) (by omega)  M) rfl rfl (Nat.le_of_ble_eq_true rfl) dX6_readComparison_44 ?_
  refine gx_aload_n dX6_readComparison_47 rfl ?_
  refine gx_iload_n dX6_readComparison_48 rfl ?_
  refine gx_cV_vm (av := [.inl v1]) (st := []) ml_X6_55 (by omega) sh14 (hc4 v1 (f_X10_pass  M)) rfl rfl (Nat.le_of_ble_eq_true rfl) dX6_readComparison_49 (fun M101 => ?_)
  refine gx_aload_n dX6_readComparison_52 rfl ?_
  refine gx_getR fl_X6_12 sh14 rfl dX6_readComparison_53 ?_
  refine gx_iload_n dX6_readComparison_56 rfl ?_
  refine gx_iconst (x := 0) (by decide) dX6_readComparison_57 ?_
  refine gx_cV_im (av := [.inl v2, .inl 0]) (st := []) ml_X6_58 (by omega) sh15 (c_X5_add (d - 1) (by omega) 15 (Or.inl rfl) v2 0 M101) rfl rfl (Nat.le_of_ble_eq_true rfl) dX6_readComparison_58 (fun x102 M103 => ?_)
  refine gx_pop dX6_readComparison_61 ?_
  exact gx_vret rfl rfl dX6_readComparison_62
def f_X6_readComparison (n : Nat) (cb : Nat → Int32 → HMem → Option HMem) (v1 : Int32) (M : HMem) : Option HMem :=
  hb1 (cb 4 v1 M) (fun M101 =>
  hb1 (f_X10_sign  M101) (fun x102 =>
  if x102 = 60 then
    (f_X6_readComparison_J40 n cb v1 x102 M101)
  else
    (if x102 = 62 then
      (f_X6_readComparison_J40 n cb v1 x102 M101)
    else
      (if x102 = 61 then
        (f_X6_readComparison_J40 n cb v1 x102 M101)
      else
        (some (f_X10_failHere 1 M101))))))
set_option maxRecDepth 20000 in
theorem w_X6_readComparison (d : Nat) (hd : 1 ≤ d) (n : Nat) (cb : Nat → Int32 → HMem → Option HMem) (hc0 : ∀ a M, MX iX6_readChoice (d - 1) [.inr (some 14), .inl a] M eV (cb 0 a M)) (hc1 : ∀ a M, MX iX6_readPart (d - 1) [.inr (some 14), .inl a] M eV (cb 1 a M)) (hc2 : ∀ a M, MX iX6_readTest (d - 1) [.inr (some 14), .inl a] M eV (cb 2 a M)) (hc3 : ∀ a M, MX iX6_readComparison (d - 1) [.inr (some 14), .inl a] M eV (cb 3 a M)) (hc4 : ∀ a M, MX iX6_readSum (d - 1) [.inr (some 14), .inl a] M eV (cb 4 a M)) (hc5 : ∀ a M, MX iX6_readTerm (d - 1) [.inr (some 14), .inl a] M eV (cb 5 a M)) (hc6 : ∀ a M, MX iX6_readFactor (d - 1) [.inr (some 14), .inl a] M eV (cb 6 a M)) (v1 : Int32) (M : HMem) : GX iX6_readComparison d eV (f_X6_readComparison n cb v1 M) 0 [some (.inr (some 14)), some (.inl v1), none] [] M := by
  rw [f_X6_readComparison]
  refine gx_aload_n dX6_readComparison_0 rfl ?_
  refine gx_iload_n dX6_readComparison_1 rfl ?_
  refine gx_cV_vm (av := [.inl v1]) (st := []) ml_X6_55 (by omega) sh14 (hc4 v1 M) rfl rfl (Nat.le_of_ble_eq_true rfl) dX6_readComparison_2 (fun M101 => ?_)
  refine gx_aload_n dX6_readComparison_5 rfl ?_
  refine gx_getR fl_X6_18 sh14 rfl dX6_readComparison_6 ?_
  refine gx_cV_ip (av := []) (st := []) ml_X6_38 (by omega) sh1 (c_X10_sign (d - 1) (by omega)  M101) rfl rfl (Nat.le_of_ble_eq_true rfl) dX6_readComparison_9 (fun x102 => ?_)
  refine gx_istore_n (lv' := [some (.inr (some 14)), some (.inl v1), some (.inl x102)]) dX6_readComparison_12 (by decide) rfl ?_
  refine gx_iload_n dX6_readComparison_13 rfl ?_
  refine gx_bipush (x := 60) (by decide) dX6_readComparison_14 ?_
  refine gx_icmp_eq (tgt := 40) dX6_readComparison_16 (by decide) ?_ ?_
  · refine gx_mk (lv' := [some (.inr (some 14)), some (.inl v1), some (.inl x102)]) [true, true, true] rfl ?_
    exact w_X6_readComparison_J40 d hd n cb hc0 hc1 hc2 hc3 hc4 hc5 hc6 M101 v1 x102
  refine gx_iload_n dX6_readComparison_19 rfl ?_
  refine gx_bipush (x := 62) (by decide) dX6_readComparison_20 ?_
  refine gx_icmp_eq (tgt := 40) dX6_readComparison_22 (by decide) ?_ ?_
  · refine gx_mk (lv' := [some (.inr (some 14)), some (.inl v1), some (.inl x102)]) [true, true, true] rfl ?_
    exact w_X6_readComparison_J40 d hd n cb hc0 hc1 hc2 hc3 hc4 hc5 hc6 M101 v1 x102
  refine gx_iload_n dX6_readComparison_25 rfl ?_
  refine gx_bipush (x := 61) (by decide) dX6_readComparison_26 ?_
  refine gx_icmp_eq (tgt := 40) dX6_readComparison_28 (by decide) ?_ ?_
  · refine gx_mk (lv' := [some (.inr (some 14)), some (.inl v1), some (.inl x102)]) [true, true, true] rfl ?_
    exact w_X6_readComparison_J40 d hd n cb hc0 hc1 hc2 hc3 hc4 hc5 hc6 M101 v1 x102
  refine gx_aload_n dX6_readComparison_31 rfl ?_
  refine gx_getR fl_X6_18 sh14 rfl dX6_readComparison_32 ?_
  refine gx_iconst (x := 1) (by decide) dX6_readComparison_35 ?_
  refine gx_cV_vt (av := [.inl 1]) (st := []) ml_X6_42 (by omega) sh1 (c_X10_failHere (d - 1) (by omega) 1 M101) rfl rfl (Nat.le_of_ble_eq_true rfl) dX6_readComparison_36 ?_
  exact gx_vret rfl rfl dX6_readComparison_39
theorem c_X6_readComparison (d : Nat) (hd : 1 ≤ d) (n : Nat) (cb : Nat → Int32 → HMem → Option HMem) (hc0 : ∀ a M, MX iX6_readChoice (d - 1) [.inr (some 14), .inl a] M eV (cb 0 a M)) (hc1 : ∀ a M, MX iX6_readPart (d - 1) [.inr (some 14), .inl a] M eV (cb 1 a M)) (hc2 : ∀ a M, MX iX6_readTest (d - 1) [.inr (some 14), .inl a] M eV (cb 2 a M)) (hc3 : ∀ a M, MX iX6_readComparison (d - 1) [.inr (some 14), .inl a] M eV (cb 3 a M)) (hc4 : ∀ a M, MX iX6_readSum (d - 1) [.inr (some 14), .inl a] M eV (cb 4 a M)) (hc5 : ∀ a M, MX iX6_readTerm (d - 1) [.inr (some 14), .inl a] M eV (cb 5 a M)) (hc6 : ∀ a M, MX iX6_readFactor (d - 1) [.inr (some 14), .inl a] M eV (cb 6 a M)) (v1 : Int32) (M : HMem) : MX iX6_readComparison d [.inr (some 14), .inl v1] M eV (f_X6_readComparison n cb v1 M) := mx_of (by decide +kernel) (Nat.le_of_ble_eq_true rfl) rfl (w_X6_readComparison d hd n cb hc0 hc1 hc2 hc3 hc4 hc5 hc6 v1 M)
-- X6_readTest
def f_X6_readTest (n : Nat) (cb : Nat → Int32 → HMem → Option HMem) (v1 : Int32) (M : HMem) : Option HMem :=
  hb1 (f_X10_isAt 33 M) (fun x101 =>
  if x101 = 0 then
    (hb1 (f_X10_isAt 40 M) (fun x102 =>
    if x102 = 0 then
      (hb1 (cb 3 v1 M) (fun M103 =>
      some M103))
    else
      (hb2 (f_X6_opens v1 M) (fun x104 M105 =>
      if x104 = 0 then
        (some M105)
      else
        (hb1 (cb 0 (v1 + 1) M105) (fun M106 =>
        hb1 (f_X10_expect 41 M106) (fun M107 =>
        some M107)))))))
  else
    (hb2 (f_X6_opens v1 M) (fun x108 M109 =>
    if x108 = 0 then
      (some M109)
    else
      (hb1 (cb 2 (v1 + 1) M109) (fun M110 =>
      hb2 (f_X5_add 15 3 0 M110) (fun x111 M112 =>
      some M112))))))
set_option maxRecDepth 20000 in
theorem w_X6_readTest (d : Nat) (hd : 2 ≤ d) (n : Nat) (cb : Nat → Int32 → HMem → Option HMem) (hc0 : ∀ a M, MX iX6_readChoice (d - 1) [.inr (some 14), .inl a] M eV (cb 0 a M)) (hc1 : ∀ a M, MX iX6_readPart (d - 1) [.inr (some 14), .inl a] M eV (cb 1 a M)) (hc2 : ∀ a M, MX iX6_readTest (d - 1) [.inr (some 14), .inl a] M eV (cb 2 a M)) (hc3 : ∀ a M, MX iX6_readComparison (d - 1) [.inr (some 14), .inl a] M eV (cb 3 a M)) (hc4 : ∀ a M, MX iX6_readSum (d - 1) [.inr (some 14), .inl a] M eV (cb 4 a M)) (hc5 : ∀ a M, MX iX6_readTerm (d - 1) [.inr (some 14), .inl a] M eV (cb 5 a M)) (hc6 : ∀ a M, MX iX6_readFactor (d - 1) [.inr (some 14), .inl a] M eV (cb 6 a M)) (v1 : Int32) (M : HMem) : GX iX6_readTest d eV (f_X6_readTest n cb v1 M) 0 [some (.inr (some 14)), some (.inl v1)] [] M := by
  rw [f_X6_readTest]
  refine gx_aload_n dX6_readTest_0 rfl ?_
  refine gx_getR fl_X6_18 sh14 rfl dX6_readTest_1 ?_
  refine gx_bipush (x := 33) (by decide) dX6_readTest_4 ?_
  refine gx_cV_ip (av := [.inl 33]) (st := []) ml_X6_30 (by omega) sh1 (c_X10_isAt (d - 1) (by omega) 33 M) rfl rfl (Nat.le_of_ble_eq_true rfl) dX6_readTest_6 (fun x101 => ?_)
  refine gx_if_eq (tgt := 40) dX6_readTest_9 (by decide) ?_ ?_
  · refine gx_aload_n dX6_readTest_40 rfl ?_
    refine gx_getR fl_X6_18 sh14 rfl dX6_readTest_41 ?_
    refine gx_bipush (x := 40) (by decide) dX6_readTest_44 ?_
    refine gx_cV_ip (av := [.inl 40]) (st := []) ml_X6_30 (by omega) sh1 (c_X10_isAt (d - 1) (by omega) 40 M) rfl rfl (Nat.le_of_ble_eq_true rfl) dX6_readTest_46 (fun x102 => ?_)
    refine gx_if_eq (tgt := 79) dX6_readTest_49 (by decide) ?_ ?_
    · refine gx_aload_n dX6_readTest_79 rfl ?_
      refine gx_iload_n dX6_readTest_80 rfl ?_
      refine gx_cV_vm (av := [.inl v1]) (st := []) ml_X6_83 (by omega) sh14 (hc3 v1 M) rfl rfl (Nat.le_of_ble_eq_true rfl) dX6_readTest_81 (fun M103 => ?_)
      exact gx_vret rfl rfl dX6_readTest_84
    refine gx_aload_n dX6_readTest_52 rfl ?_
    refine gx_iload_n dX6_readTest_53 rfl ?_
    refine gx_cV_im (av := [.inl v1]) (st := []) ml_X6_80 (by omega) sh14 (c_X6_opens (d - 1) (by omega) v1 M) rfl rfl (Nat.le_of_ble_eq_true rfl) dX6_readTest_54 (fun x104 M105 => ?_)
    refine gx_if_eq (tgt := 84) dX6_readTest_57 (by decide) ?_ ?_
    · exact gx_vret rfl rfl dX6_readTest_84
    refine gx_aload_n dX6_readTest_60 rfl ?_
    refine gx_iload_n dX6_readTest_61 rfl ?_
    refine gx_iconst (x := 1) (by decide) dX6_readTest_62 ?_
    refine gx_iadd dX6_readTest_63 ?_
    refine gx_cV_vm (av := [.inl (v1 + 1)]) (st := []) ml_X6_65 (by omega) sh14 (hc0 (v1 + 1) M105) rfl rfl (Nat.le_of_ble_eq_true rfl) dX6_readTest_64 (fun M106 => ?_)
    refine gx_aload_n dX6_readTest_67 rfl ?_
    refine gx_getR fl_X6_18 sh14 rfl dX6_readTest_68 ?_
    refine gx_bipush (x := 41) (by decide) dX6_readTest_71 ?_
    refine gx_cV_vm (av := [.inl 41]) (st := []) ml_X6_34 (by omega) sh1 (c_X10_expect (d - 1) (by omega) 41 M106) rfl rfl (Nat.le_of_ble_eq_true rfl) dX6_readTest_73 (fun M107 => ?_)
    refine gx_goto (tgt := 84) dX6_readTest_76 (by decide) ?_
    exact gx_vret rfl rfl dX6_readTest_84
  refine gx_aload_n dX6_readTest_12 rfl ?_
  refine gx_iload_n dX6_readTest_13 rfl ?_
  refine gx_cV_im (av := [.inl v1]) (st := []) ml_X6_80 (by omega) sh14 (c_X6_opens (d - 1) (by omega) v1 M) rfl rfl (Nat.le_of_ble_eq_true rfl) dX6_readTest_14 (fun x108 M109 => ?_)
  refine gx_if_eq (tgt := 84) dX6_readTest_17 (by decide) ?_ ?_
  · exact gx_vret rfl rfl dX6_readTest_84
  refine gx_aload_n dX6_readTest_20 rfl ?_
  refine gx_iload_n dX6_readTest_21 rfl ?_
  refine gx_iconst (x := 1) (by decide) dX6_readTest_22 ?_
  refine gx_iadd dX6_readTest_23 ?_
  refine gx_cV_vm (av := [.inl (v1 + 1)]) (st := []) ml_X6_77 (by omega) sh14 (hc2 (v1 + 1) M109) rfl rfl (Nat.le_of_ble_eq_true rfl) dX6_readTest_24 (fun M110 => ?_)
  refine gx_aload_n dX6_readTest_27 rfl ?_
  refine gx_getR fl_X6_12 sh14 rfl dX6_readTest_28 ?_
  refine gx_iconst (x := 3) (by decide) dX6_readTest_31 ?_
  refine gx_iconst (x := 0) (by decide) dX6_readTest_32 ?_
  refine gx_cV_im (av := [.inl 3, .inl 0]) (st := []) ml_X6_58 (by omega) sh15 (c_X5_add (d - 1) (by omega) 15 (Or.inl rfl) 3 0 M110) rfl rfl (Nat.le_of_ble_eq_true rfl) dX6_readTest_33 (fun x111 M112 => ?_)
  refine gx_pop dX6_readTest_36 ?_
  refine gx_goto (tgt := 84) dX6_readTest_37 (by decide) ?_
  exact gx_vret rfl rfl dX6_readTest_84
theorem c_X6_readTest (d : Nat) (hd : 2 ≤ d) (n : Nat) (cb : Nat → Int32 → HMem → Option HMem) (hc0 : ∀ a M, MX iX6_readChoice (d - 1) [.inr (some 14), .inl a] M eV (cb 0 a M)) (hc1 : ∀ a M, MX iX6_readPart (d - 1) [.inr (some 14), .inl a] M eV (cb 1 a M)) (hc2 : ∀ a M, MX iX6_readTest (d - 1) [.inr (some 14), .inl a] M eV (cb 2 a M)) (hc3 : ∀ a M, MX iX6_readComparison (d - 1) [.inr (some 14), .inl a] M eV (cb 3 a M)) (hc4 : ∀ a M, MX iX6_readSum (d - 1) [.inr (some 14), .inl a] M eV (cb 4 a M)) (hc5 : ∀ a M, MX iX6_readTerm (d - 1) [.inr (some 14), .inl a] M eV (cb 5 a M)) (hc6 : ∀ a M, MX iX6_readFactor (d - 1) [.inr (some 14), .inl a] M eV (cb 6 a M)) (v1 : Int32) (M : HMem) : MX iX6_readTest d [.inr (some 14), .inl v1] M eV (f_X6_readTest n cb v1 M) := mx_of (by decide +kernel) (Nat.le_of_ble_eq_true rfl) rfl (w_X6_readTest d hd n cb hc0 hc1 hc2 hc3 hc4 hc5 hc6 v1 M)
-- X6_readPart
def f_X6_readPart_L9 (n : Nat) (cb : Nat → Int32 → HMem → Option HMem) (v1 : Int32) : Nat → Int32 → Int32 → HMem → Option HMem
  | 0, _, _, _ => none
  | k + 1, v2, v3, M =>
    if 240 ≤ v3 then
      (hb1 (f_X5_settle n 15 v2 M) (fun M101 =>
      some M101))
    else
      (hb1 (f_X10_isAt 38 M) (fun x102 =>
      if x102 = 0 then
        (hb1 (f_X5_settle n 15 v2 M) (fun M103 =>
        some M103))
      else
        (hb2 (f_X5_add 15 4 v2 (f_X10_pass  M)) (fun x104 M105 =>
        hb1 (cb 2 v1 M105) (fun M106 =>
        f_X6_readPart_L9 n cb v1 k x104 (v3 + 1) M106)))))
set_option maxRecDepth 20000 in
theorem w_X6_readPart_L9 (d : Nat) (hd : 2 ≤ d) (n : Nat) (cb : Nat → Int32 → HMem → Option HMem) (hc0 : ∀ a M, MX iX6_readChoice (d - 1) [.inr (some 14), .inl a] M eV (cb 0 a M)) (hc1 : ∀ a M, MX iX6_readPart (d - 1) [.inr (some 14), .inl a] M eV (cb 1 a M)) (hc2 : ∀ a M, MX iX6_readTest (d - 1) [.inr (some 14), .inl a] M eV (cb 2 a M)) (hc3 : ∀ a M, MX iX6_readComparison (d - 1) [.inr (some 14), .inl a] M eV (cb 3 a M)) (hc4 : ∀ a M, MX iX6_readSum (d - 1) [.inr (some 14), .inl a] M eV (cb 4 a M)) (hc5 : ∀ a M, MX iX6_readTerm (d - 1) [.inr (some 14), .inl a] M eV (cb 5 a M)) (hc6 : ∀ a M, MX iX6_readFactor (d - 1) [.inr (some 14), .inl a] M eV (cb 6 a M)) (v1 : Int32) : ∀ (k : Nat) (v2 : Int32) (v3 : Int32) (M : HMem), GX iX6_readPart d eV (f_X6_readPart_L9 n cb v1 k v2 v3 M) 9 [some (.inr (some 14)), some (.inl v1), some (.inl v2), some (.inl v3)] [] M := by
  intro k
  induction k with
  | zero => intro v2 v3 M; exact gx_none
  | succ k ih =>
    intro v2 v3 M
    rw [f_X6_readPart_L9]
    refine gx_iload_n dX6_readPart_9 rfl ?_
    refine gx_sipush (x := 240) (by decide) dX6_readPart_10 ?_
    refine gx_icmp_ge (tgt := 56) dX6_readPart_13 (by decide) ?_ ?_
    · refine gx_aload_n dX6_readPart_56 rfl ?_
      refine gx_getR fl_X6_12 sh14 rfl dX6_readPart_57 ?_
      refine gx_iload_n dX6_readPart_60 rfl ?_
      refine gx_cV_vm (av := [.inl v2]) (st := []) ml_X6_74 (by omega) sh15 (c_X5_settle (d - 1) (by omega) n 15 (Or.inl rfl) v2 M) rfl rfl (Nat.le_of_ble_eq_true rfl) dX6_readPart_61 (fun M101 => ?_)
      exact gx_vret rfl rfl dX6_readPart_64
    refine gx_aload_n dX6_readPart_16 rfl ?_
    refine gx_getR fl_X6_18 sh14 rfl dX6_readPart_17 ?_
    refine gx_bipush (x := 38) (by decide) dX6_readPart_20 ?_
    refine gx_cV_ip (av := [.inl 38]) (st := []) ml_X6_30 (by omega) sh1 (c_X10_isAt (d - 1) (by omega) 38 M) rfl rfl (Nat.le_of_ble_eq_true rfl) dX6_readPart_22 (fun x102 => ?_)
    refine gx_if_eq (tgt := 56) dX6_readPart_25 (by decide) ?_ ?_
    · refine gx_aload_n dX6_readPart_56 rfl ?_
      refine gx_getR fl_X6_12 sh14 rfl dX6_readPart_57 ?_
      refine gx_iload_n dX6_readPart_60 rfl ?_
      refine gx_cV_vm (av := [.inl v2]) (st := []) ml_X6_74 (by omega) sh15 (c_X5_settle (d - 1) (by omega) n 15 (Or.inl rfl) v2 M) rfl rfl (Nat.le_of_ble_eq_true rfl) dX6_readPart_61 (fun M103 => ?_)
      exact gx_vret rfl rfl dX6_readPart_64
    refine gx_aload_n dX6_readPart_28 rfl ?_
    refine gx_getR fl_X6_18 sh14 rfl dX6_readPart_29 ?_
    refine gx_cV_vt (av := []) (st := []) ml_X6_49 (by omega) sh1 (c_X10_pass (d - 1) (by omega)  M) rfl rfl (Nat.le_of_ble_eq_true rfl) dX6_readPart_32 ?_
    refine gx_aload_n dX6_readPart_35 rfl ?_
    refine gx_getR fl_X6_12 sh14 rfl dX6_readPart_36 ?_
    refine gx_iconst (x := 4) (by decide) dX6_readPart_39 ?_
    refine gx_iload_n dX6_readPart_40 rfl ?_
    refine gx_cV_im (av := [.inl 4, .inl v2]) (st := []) ml_X6_58 (by omega) sh15 (c_X5_add (d - 1) (by omega) 15 (Or.inl rfl) 4 v2 (f_X10_pass  M)) rfl rfl (Nat.le_of_ble_eq_true rfl) dX6_readPart_41 (fun x104 M105 => ?_)
    refine gx_istore_n (lv' := [some (.inr (some 14)), some (.inl v1), some (.inl x104), some (.inl v3)]) dX6_readPart_44 (by decide) rfl ?_
    refine gx_aload_n dX6_readPart_45 rfl ?_
    refine gx_iload_n dX6_readPart_46 rfl ?_
    refine gx_cV_vm (av := [.inl v1]) (st := []) ml_X6_77 (by omega) sh14 (hc2 v1 M105) rfl rfl (Nat.le_of_ble_eq_true rfl) dX6_readPart_47 (fun M106 => ?_)
    refine gx_iinc (y := v3 + 1) (lv' := [some (.inr (some 14)), some (.inl v1), some (.inl x104), some (.inl (v3 + 1))]) dX6_readPart_50 rfl rfl (by decide) rfl ?_
    refine gx_goto (tgt := 9) dX6_readPart_53 (by decide) ?_
    refine gx_mk (lv' := [some (.inr (some 14)), some (.inl v1), some (.inl x104), some (.inl (v3 + 1))]) [true, true, true, true] rfl ?_
    exact ih x104 (v3 + 1) M106
def f_X6_readPart (n : Nat) (cb : Nat → Int32 → HMem → Option HMem) (v1 : Int32) (M : HMem) : Option HMem :=
  hb1 (cb 2 v1 M) (fun M101 =>
  f_X6_readPart_L9 n cb v1 n (-1) 0 M101)
set_option maxRecDepth 20000 in
theorem w_X6_readPart (d : Nat) (hd : 2 ≤ d) (n : Nat) (cb : Nat → Int32 → HMem → Option HMem) (hc0 : ∀ a M, MX iX6_readChoice (d - 1) [.inr (some 14), .inl a] M eV (cb 0 a M)) (hc1 : ∀ a M, MX iX6_readPart (d - 1) [.inr (some 14), .inl a] M eV (cb 1 a M)) (hc2 : ∀ a M, MX iX6_readTest (d - 1) [.inr (some 14), .inl a] M eV (cb 2 a M)) (hc3 : ∀ a M, MX iX6_readComparison (d - 1) [.inr (some 14), .inl a] M eV (cb 3 a M)) (hc4 : ∀ a M, MX iX6_readSum (d - 1) [.inr (some 14), .inl a] M eV (cb 4 a M)) (hc5 : ∀ a M, MX iX6_readTerm (d - 1) [.inr (some 14), .inl a] M eV (cb 5 a M)) (hc6 : ∀ a M, MX iX6_readFactor (d - 1) [.inr (some 14), .inl a] M eV (cb 6 a M)) (v1 : Int32) (M : HMem) : GX iX6_readPart d eV (f_X6_readPart n cb v1 M) 0 [some (.inr (some 14)), some (.inl v1), none, none] [] M := by
  rw [f_X6_readPart]
  refine gx_iconst (x := (-1)) (by decide) dX6_readPart_0 ?_
  refine gx_istore_n (lv' := [some (.inr (some 14)), some (.inl v1), some (.inl (-1)), none]) dX6_readPart_1 (by decide) rfl ?_
  refine gx_aload_n dX6_readPart_2 rfl ?_
  refine gx_iload_n dX6_readPart_3 rfl ?_
  refine gx_cV_vm (av := [.inl v1]) (st := []) ml_X6_77 (by omega) sh14 (hc2 v1 M) rfl rfl (Nat.le_of_ble_eq_true rfl) dX6_readPart_4 (fun M101 => ?_)
  refine gx_iconst (x := 0) (by decide) dX6_readPart_7 ?_
  refine gx_istore_n (lv' := [some (.inr (some 14)), some (.inl v1), some (.inl (-1)), some (.inl 0)]) dX6_readPart_8 (by decide) rfl ?_
  refine gx_mk (lv' := [some (.inr (some 14)), some (.inl v1), some (.inl (-1)), some (.inl 0)]) [true, true, true, true] rfl ?_
  exact w_X6_readPart_L9 d hd n cb hc0 hc1 hc2 hc3 hc4 hc5 hc6 v1 n (-1) 0 M101
theorem c_X6_readPart (d : Nat) (hd : 2 ≤ d) (n : Nat) (cb : Nat → Int32 → HMem → Option HMem) (hc0 : ∀ a M, MX iX6_readChoice (d - 1) [.inr (some 14), .inl a] M eV (cb 0 a M)) (hc1 : ∀ a M, MX iX6_readPart (d - 1) [.inr (some 14), .inl a] M eV (cb 1 a M)) (hc2 : ∀ a M, MX iX6_readTest (d - 1) [.inr (some 14), .inl a] M eV (cb 2 a M)) (hc3 : ∀ a M, MX iX6_readComparison (d - 1) [.inr (some 14), .inl a] M eV (cb 3 a M)) (hc4 : ∀ a M, MX iX6_readSum (d - 1) [.inr (some 14), .inl a] M eV (cb 4 a M)) (hc5 : ∀ a M, MX iX6_readTerm (d - 1) [.inr (some 14), .inl a] M eV (cb 5 a M)) (hc6 : ∀ a M, MX iX6_readFactor (d - 1) [.inr (some 14), .inl a] M eV (cb 6 a M)) (v1 : Int32) (M : HMem) : MX iX6_readPart d [.inr (some 14), .inl v1] M eV (f_X6_readPart n cb v1 M) := mx_of (by decide +kernel) (Nat.le_of_ble_eq_true rfl) rfl (w_X6_readPart d hd n cb hc0 hc1 hc2 hc3 hc4 hc5 hc6 v1 M)
-- X6_readChoice
def f_X6_readChoice_L9 (n : Nat) (cb : Nat → Int32 → HMem → Option HMem) (v1 : Int32) : Nat → Int32 → Int32 → HMem → Option HMem
  | 0, _, _, _ => none
  | k + 1, v2, v3, M =>
    if 240 ≤ v3 then
      (hb1 (f_X5_settle n 15 v2 M) (fun M101 =>
      some M101))
    else
      (hb1 (f_X10_isAt 124 M) (fun x102 =>
      if x102 = 0 then
        (hb1 (f_X5_settle n 15 v2 M) (fun M103 =>
        some M103))
      else
        (hb2 (f_X5_add 15 5 v2 (f_X10_pass  M)) (fun x104 M105 =>
        hb1 (cb 1 v1 M105) (fun M106 =>
        f_X6_readChoice_L9 n cb v1 k x104 (v3 + 1) M106)))))
set_option maxRecDepth 20000 in
theorem w_X6_readChoice_L9 (d : Nat) (hd : 2 ≤ d) (n : Nat) (cb : Nat → Int32 → HMem → Option HMem) (hc0 : ∀ a M, MX iX6_readChoice (d - 1) [.inr (some 14), .inl a] M eV (cb 0 a M)) (hc1 : ∀ a M, MX iX6_readPart (d - 1) [.inr (some 14), .inl a] M eV (cb 1 a M)) (hc2 : ∀ a M, MX iX6_readTest (d - 1) [.inr (some 14), .inl a] M eV (cb 2 a M)) (hc3 : ∀ a M, MX iX6_readComparison (d - 1) [.inr (some 14), .inl a] M eV (cb 3 a M)) (hc4 : ∀ a M, MX iX6_readSum (d - 1) [.inr (some 14), .inl a] M eV (cb 4 a M)) (hc5 : ∀ a M, MX iX6_readTerm (d - 1) [.inr (some 14), .inl a] M eV (cb 5 a M)) (hc6 : ∀ a M, MX iX6_readFactor (d - 1) [.inr (some 14), .inl a] M eV (cb 6 a M)) (v1 : Int32) : ∀ (k : Nat) (v2 : Int32) (v3 : Int32) (M : HMem), GX iX6_readChoice d eV (f_X6_readChoice_L9 n cb v1 k v2 v3 M) 9 [some (.inr (some 14)), some (.inl v1), some (.inl v2), some (.inl v3)] [] M := by
  intro k
  induction k with
  | zero => intro v2 v3 M; exact gx_none
  | succ k ih =>
    intro v2 v3 M
    rw [f_X6_readChoice_L9]
    refine gx_iload_n dX6_readChoice_9 rfl ?_
    refine gx_sipush (x := 240) (by decide) dX6_readChoice_10 ?_
    refine gx_icmp_ge (tgt := 56) dX6_readChoice_13 (by decide) ?_ ?_
    · refine gx_aload_n dX6_readChoice_56 rfl ?_
      refine gx_getR fl_X6_12 sh14 rfl dX6_readChoice_57 ?_
      refine gx_iload_n dX6_readChoice_60 rfl ?_
      refine gx_cV_vm (av := [.inl v2]) (st := []) ml_X6_74 (by omega) sh15 (c_X5_settle (d - 1) (by omega) n 15 (Or.inl rfl) v2 M) rfl rfl (Nat.le_of_ble_eq_true rfl) dX6_readChoice_61 (fun M101 => ?_)
      exact gx_vret rfl rfl dX6_readChoice_64
    refine gx_aload_n dX6_readChoice_16 rfl ?_
    refine gx_getR fl_X6_18 sh14 rfl dX6_readChoice_17 ?_
    refine gx_bipush (x := 124) (by decide) dX6_readChoice_20 ?_
    refine gx_cV_ip (av := [.inl 124]) (st := []) ml_X6_30 (by omega) sh1 (c_X10_isAt (d - 1) (by omega) 124 M) rfl rfl (Nat.le_of_ble_eq_true rfl) dX6_readChoice_22 (fun x102 => ?_)
    refine gx_if_eq (tgt := 56) dX6_readChoice_25 (by decide) ?_ ?_
    · refine gx_aload_n dX6_readChoice_56 rfl ?_
      refine gx_getR fl_X6_12 sh14 rfl dX6_readChoice_57 ?_
      refine gx_iload_n dX6_readChoice_60 rfl ?_
      refine gx_cV_vm (av := [.inl v2]) (st := []) ml_X6_74 (by omega) sh15 (c_X5_settle (d - 1) (by omega) n 15 (Or.inl rfl) v2 M) rfl rfl (Nat.le_of_ble_eq_true rfl) dX6_readChoice_61 (fun M103 => ?_)
      exact gx_vret rfl rfl dX6_readChoice_64
    refine gx_aload_n dX6_readChoice_28 rfl ?_
    refine gx_getR fl_X6_18 sh14 rfl dX6_readChoice_29 ?_
    refine gx_cV_vt (av := []) (st := []) ml_X6_49 (by omega) sh1 (c_X10_pass (d - 1) (by omega)  M) rfl rfl (Nat.le_of_ble_eq_true rfl) dX6_readChoice_32 ?_
    refine gx_aload_n dX6_readChoice_35 rfl ?_
    refine gx_getR fl_X6_12 sh14 rfl dX6_readChoice_36 ?_
    refine gx_iconst (x := 5) (by decide) dX6_readChoice_39 ?_
    refine gx_iload_n dX6_readChoice_40 rfl ?_
    refine gx_cV_im (av := [.inl 5, .inl v2]) (st := []) ml_X6_58 (by omega) sh15 (c_X5_add (d - 1) (by omega) 15 (Or.inl rfl) 5 v2 (f_X10_pass  M)) rfl rfl (Nat.le_of_ble_eq_true rfl) dX6_readChoice_41 (fun x104 M105 => ?_)
    refine gx_istore_n (lv' := [some (.inr (some 14)), some (.inl v1), some (.inl x104), some (.inl v3)]) dX6_readChoice_44 (by decide) rfl ?_
    refine gx_aload_n dX6_readChoice_45 rfl ?_
    refine gx_iload_n dX6_readChoice_46 rfl ?_
    refine gx_cV_vm (av := [.inl v1]) (st := []) ml_X6_71 (by omega) sh14 (hc1 v1 M105) rfl rfl (Nat.le_of_ble_eq_true rfl) dX6_readChoice_47 (fun M106 => ?_)
    refine gx_iinc (y := v3 + 1) (lv' := [some (.inr (some 14)), some (.inl v1), some (.inl x104), some (.inl (v3 + 1))]) dX6_readChoice_50 rfl rfl (by decide) rfl ?_
    refine gx_goto (tgt := 9) dX6_readChoice_53 (by decide) ?_
    refine gx_mk (lv' := [some (.inr (some 14)), some (.inl v1), some (.inl x104), some (.inl (v3 + 1))]) [true, true, true, true] rfl ?_
    exact ih x104 (v3 + 1) M106
def f_X6_readChoice (n : Nat) (cb : Nat → Int32 → HMem → Option HMem) (v1 : Int32) (M : HMem) : Option HMem :=
  hb1 (cb 1 v1 M) (fun M101 =>
  f_X6_readChoice_L9 n cb v1 n (-1) 0 M101)
set_option maxRecDepth 20000 in
theorem w_X6_readChoice (d : Nat) (hd : 2 ≤ d) (n : Nat) (cb : Nat → Int32 → HMem → Option HMem) (hc0 : ∀ a M, MX iX6_readChoice (d - 1) [.inr (some 14), .inl a] M eV (cb 0 a M)) (hc1 : ∀ a M, MX iX6_readPart (d - 1) [.inr (some 14), .inl a] M eV (cb 1 a M)) (hc2 : ∀ a M, MX iX6_readTest (d - 1) [.inr (some 14), .inl a] M eV (cb 2 a M)) (hc3 : ∀ a M, MX iX6_readComparison (d - 1) [.inr (some 14), .inl a] M eV (cb 3 a M)) (hc4 : ∀ a M, MX iX6_readSum (d - 1) [.inr (some 14), .inl a] M eV (cb 4 a M)) (hc5 : ∀ a M, MX iX6_readTerm (d - 1) [.inr (some 14), .inl a] M eV (cb 5 a M)) (hc6 : ∀ a M, MX iX6_readFactor (d - 1) [.inr (some 14), .inl a] M eV (cb 6 a M)) (v1 : Int32) (M : HMem) : GX iX6_readChoice d eV (f_X6_readChoice n cb v1 M) 0 [some (.inr (some 14)), some (.inl v1), none, none] [] M := by
  rw [f_X6_readChoice]
  refine gx_iconst (x := (-1)) (by decide) dX6_readChoice_0 ?_
  refine gx_istore_n (lv' := [some (.inr (some 14)), some (.inl v1), some (.inl (-1)), none]) dX6_readChoice_1 (by decide) rfl ?_
  refine gx_aload_n dX6_readChoice_2 rfl ?_
  refine gx_iload_n dX6_readChoice_3 rfl ?_
  refine gx_cV_vm (av := [.inl v1]) (st := []) ml_X6_71 (by omega) sh14 (hc1 v1 M) rfl rfl (Nat.le_of_ble_eq_true rfl) dX6_readChoice_4 (fun M101 => ?_)
  refine gx_iconst (x := 0) (by decide) dX6_readChoice_7 ?_
  refine gx_istore_n (lv' := [some (.inr (some 14)), some (.inl v1), some (.inl (-1)), some (.inl 0)]) dX6_readChoice_8 (by decide) rfl ?_
  refine gx_mk (lv' := [some (.inr (some 14)), some (.inl v1), some (.inl (-1)), some (.inl 0)]) [true, true, true, true] rfl ?_
  exact w_X6_readChoice_L9 d hd n cb hc0 hc1 hc2 hc3 hc4 hc5 hc6 v1 n (-1) 0 M101
theorem c_X6_readChoice (d : Nat) (hd : 2 ≤ d) (n : Nat) (cb : Nat → Int32 → HMem → Option HMem) (hc0 : ∀ a M, MX iX6_readChoice (d - 1) [.inr (some 14), .inl a] M eV (cb 0 a M)) (hc1 : ∀ a M, MX iX6_readPart (d - 1) [.inr (some 14), .inl a] M eV (cb 1 a M)) (hc2 : ∀ a M, MX iX6_readTest (d - 1) [.inr (some 14), .inl a] M eV (cb 2 a M)) (hc3 : ∀ a M, MX iX6_readComparison (d - 1) [.inr (some 14), .inl a] M eV (cb 3 a M)) (hc4 : ∀ a M, MX iX6_readSum (d - 1) [.inr (some 14), .inl a] M eV (cb 4 a M)) (hc5 : ∀ a M, MX iX6_readTerm (d - 1) [.inr (some 14), .inl a] M eV (cb 5 a M)) (hc6 : ∀ a M, MX iX6_readFactor (d - 1) [.inr (some 14), .inl a] M eV (cb 6 a M)) (v1 : Int32) (M : HMem) : MX iX6_readChoice d [.inr (some 14), .inl v1] M eV (f_X6_readChoice n cb v1 M) := mx_of (by decide +kernel) (Nat.le_of_ble_eq_true rfl) rfl (w_X6_readChoice d hd n cb hc0 hc1 hc2 hc3 hc4 hc5 hc6 v1 M)
def g_X6 (n : Nat) : Nat → Nat → Int32 → HMem → Option HMem
  | 0, _, _, _ => none
  | q + 1, tag, a, M => if tag = 0 then f_X6_readChoice n (g_X6 n q) a M else if tag = 1 then f_X6_readPart n (g_X6 n q) a M else if tag = 2 then f_X6_readTest n (g_X6 n q) a M else if tag = 3 then f_X6_readComparison n (g_X6 n q) a M else if tag = 4 then f_X6_readSum n (g_X6 n q) a M else if tag = 5 then f_X6_readTerm n (g_X6 n q) a M else if tag = 6 then f_X6_readFactor n (g_X6 n q) a M else none
theorem c_g_X6 (n : Nat) : ∀ (q d : Nat), q + 2 ≤ d → (∀ a M, MX iX6_readChoice d [.inr (some 14), .inl a] M eV (g_X6 n q 0 a M)) ∧ (∀ a M, MX iX6_readPart d [.inr (some 14), .inl a] M eV (g_X6 n q 1 a M)) ∧ (∀ a M, MX iX6_readTest d [.inr (some 14), .inl a] M eV (g_X6 n q 2 a M)) ∧ (∀ a M, MX iX6_readComparison d [.inr (some 14), .inl a] M eV (g_X6 n q 3 a M)) ∧ (∀ a M, MX iX6_readSum d [.inr (some 14), .inl a] M eV (g_X6 n q 4 a M)) ∧ (∀ a M, MX iX6_readTerm d [.inr (some 14), .inl a] M eV (g_X6 n q 5 a M)) ∧ (∀ a M, MX iX6_readFactor d [.inr (some 14), .inl a] M eV (g_X6 n q 6 a M))
  | 0, d, _ => ⟨(fun _ _ _ h => by cases h), (fun _ _ _ h => by cases h), (fun _ _ _ h => by cases h), (fun _ _ _ h => by cases h), (fun _ _ _ h => by cases h), (fun _ _ _ h => by cases h), (fun _ _ _ h => by cases h)⟩
  | q + 1, d, hd => by
    have ih := c_g_X6 n q (d - 1) (by omega)
    refine ⟨?_, ?_, ?_, ?_, ?_, ?_, ?_⟩
    · intro a M
      have h := c_X6_readChoice d (by omega) n (g_X6 n q) (ih.1) (ih.2.1) (ih.2.2.1) (ih.2.2.2.1) (ih.2.2.2.2.1) (ih.2.2.2.2.2.1) (ih.2.2.2.2.2.2) a M
      rw [show g_X6 n (q + 1) 0 a M = f_X6_readChoice n (g_X6 n q) a M from rfl]
      exact h
    · intro a M
      have h := c_X6_readPart d (by omega) n (g_X6 n q) (ih.1) (ih.2.1) (ih.2.2.1) (ih.2.2.2.1) (ih.2.2.2.2.1) (ih.2.2.2.2.2.1) (ih.2.2.2.2.2.2) a M
      rw [show g_X6 n (q + 1) 1 a M = f_X6_readPart n (g_X6 n q) a M from rfl]
      exact h
    · intro a M
      have h := c_X6_readTest d (by omega) n (g_X6 n q) (ih.1) (ih.2.1) (ih.2.2.1) (ih.2.2.2.1) (ih.2.2.2.2.1) (ih.2.2.2.2.2.1) (ih.2.2.2.2.2.2) a M
      rw [show g_X6 n (q + 1) 2 a M = f_X6_readTest n (g_X6 n q) a M from rfl]
      exact h
    · intro a M
      have h := c_X6_readComparison d (by omega) n (g_X6 n q) (ih.1) (ih.2.1) (ih.2.2.1) (ih.2.2.2.1) (ih.2.2.2.2.1) (ih.2.2.2.2.2.1) (ih.2.2.2.2.2.2) a M
      rw [show g_X6 n (q + 1) 3 a M = f_X6_readComparison n (g_X6 n q) a M from rfl]
      exact h
    · intro a M
      have h := c_X6_readSum d (by omega) n (g_X6 n q) (ih.1) (ih.2.1) (ih.2.2.1) (ih.2.2.2.1) (ih.2.2.2.2.1) (ih.2.2.2.2.2.1) (ih.2.2.2.2.2.2) a M
      rw [show g_X6 n (q + 1) 4 a M = f_X6_readSum n (g_X6 n q) a M from rfl]
      exact h
    · intro a M
      have h := c_X6_readTerm d (by omega) n (g_X6 n q) (ih.1) (ih.2.1) (ih.2.2.1) (ih.2.2.2.1) (ih.2.2.2.2.1) (ih.2.2.2.2.2.1) (ih.2.2.2.2.2.2) a M
      rw [show g_X6 n (q + 1) 5 a M = f_X6_readTerm n (g_X6 n q) a M from rfl]
      exact h
    · intro a M
      have h := c_X6_readFactor d (by omega) n (g_X6 n q) (ih.1) (ih.2.1) (ih.2.2.1) (ih.2.2.2.1) (ih.2.2.2.2.1) (ih.2.2.2.2.2.1) (ih.2.2.2.2.2.2) a M
      rw [show g_X6 n (q + 1) 6 a M = f_X6_readFactor n (g_X6 n q) a M from rfl]
      exact h
theorem c_X6_readChoice_g (d : Nat) (hd : 69 ≤ d) (n : Nat) (a : Int32) (M : HMem) : MX iX6_readChoice d [.inr (some 14), .inl a] M eV (g_X6 n 60 0 a M) := ((c_g_X6 n 60 d (by omega)).1) a M
theorem c_X6_readPart_g (d : Nat) (hd : 69 ≤ d) (n : Nat) (a : Int32) (M : HMem) : MX iX6_readPart d [.inr (some 14), .inl a] M eV (g_X6 n 60 1 a M) := ((c_g_X6 n 60 d (by omega)).2.1) a M
theorem c_X6_readTest_g (d : Nat) (hd : 69 ≤ d) (n : Nat) (a : Int32) (M : HMem) : MX iX6_readTest d [.inr (some 14), .inl a] M eV (g_X6 n 60 2 a M) := ((c_g_X6 n 60 d (by omega)).2.2.1) a M
theorem c_X6_readComparison_g (d : Nat) (hd : 69 ≤ d) (n : Nat) (a : Int32) (M : HMem) : MX iX6_readComparison d [.inr (some 14), .inl a] M eV (g_X6 n 60 3 a M) := ((c_g_X6 n 60 d (by omega)).2.2.2.1) a M
theorem c_X6_readSum_g (d : Nat) (hd : 69 ≤ d) (n : Nat) (a : Int32) (M : HMem) : MX iX6_readSum d [.inr (some 14), .inl a] M eV (g_X6 n 60 4 a M) := ((c_g_X6 n 60 d (by omega)).2.2.2.2.1) a M
theorem c_X6_readTerm_g (d : Nat) (hd : 69 ≤ d) (n : Nat) (a : Int32) (M : HMem) : MX iX6_readTerm d [.inr (some 14), .inl a] M eV (g_X6 n 60 5 a M) := ((c_g_X6 n 60 d (by omega)).2.2.2.2.2.1) a M
theorem c_X6_readFactor_g (d : Nat) (hd : 69 ≤ d) (n : Nat) (a : Int32) (M : HMem) : MX iX6_readFactor d [.inr (some 14), .inl a] M eV (g_X6 n 60 6 a M) := ((c_g_X6 n 60 d (by omega)).2.2.2.2.2.2) a M
-- X6_readRule
def f_X6_readRule_J92 (n : Nat)  (M : HMem) : Option HMem :=
  hb1 (f_X5_beginTest 15 M) (fun M101 =>
  hb1 (f_X10_expect 40 M101) (fun M102 =>
  hb1 (g_X6 n 60 0 1 M102) (fun M103 =>
  hb1 (f_X10_expect 41 M103) (fun M104 =>
  hb2 (f_X5_add 15 0 0 M104) (fun x105 M106 =>
  some (f_X5_endRule 15 M106))))))
set_option maxRecDepth 20000 in
theorem w_X6_readRule_J92 (d : Nat) (hd : 71 ≤ d) (n : Nat) (M : HMem)  : GX iX6_readRule d eV (f_X6_readRule_J92 n M) 92 [some (.inr (some 14)), none] [] M := by
  rw [f_X6_readRule_J92]
  refine gx_aload_n dX6_readRule_92 rfl ?_
  refine gx_getR fl_X6_12 sh14 rfl dX6_readRule_93 ?_
  refine gx_cV_vm (av := []) (st := []) ml_X6_62 (by omega) sh15 (c_X5_beginTest (d - 1) (by omega) 15 (Or.inl rfl) M) rfl rfl (Nat.le_of_ble_eq_true rfl) dX6_readRule_96 (fun M101 => ?_)
  refine gx_aload_n dX6_readRule_99 rfl ?_
  refine gx_getR fl_X6_18 sh14 rfl dX6_readRule_100 ?_
  refine gx_bipush (x := 40) (by decide) dX6_readRule_103 ?_
  refine gx_cV_vm (av := [.inl 40]) (st := []) ml_X6_34 (by omega) sh1 (c_X10_expect (d - 1) (by omega) 40 M101) rfl rfl (Nat.le_of_ble_eq_true rfl) dX6_readRule_105 (fun M102 => ?_)
  refine gx_aload_n dX6_readRule_108 rfl ?_
  refine gx_iconst (x := 1) (by decide) dX6_readRule_109 ?_
  refine gx_cV_vm (av := [.inl 1]) (st := []) ml_X6_65 (by omega) sh14 (c_X6_readChoice_g (d - 1) (by omega) n 1 M102) rfl rfl (Nat.le_of_ble_eq_true rfl) dX6_readRule_110 (fun M103 => ?_)
  refine gx_aload_n dX6_readRule_113 rfl ?_
  refine gx_getR fl_X6_18 sh14 rfl dX6_readRule_114 ?_
  refine gx_bipush (x := 41) (by decide) dX6_readRule_117 ?_
  refine gx_cV_vm (av := [.inl 41]) (st := []) ml_X6_34 (by omega) sh1 (c_X10_expect (d - 1) (by omega) 41 M103) rfl rfl (Nat.le_of_ble_eq_true rfl) dX6_readRule_119 (fun M104 => ?_)
  refine gx_aload_n dX6_readRule_122 rfl ?_
  refine gx_getR fl_X6_12 sh14 rfl dX6_readRule_123 ?_
  refine gx_iconst (x := 0) (by decide) dX6_readRule_126 ?_
  refine gx_iconst (x := 0) (by decide) dX6_readRule_127 ?_
  refine gx_cV_im (av := [.inl 0, .inl 0]) (st := []) ml_X6_58 (by omega) sh15 (c_X5_add (d - 1) (by omega) 15 (Or.inl rfl) 0 0 M104) rfl rfl (Nat.le_of_ble_eq_true rfl) dX6_readRule_128 (fun x105 M106 => ?_)
  refine gx_pop dX6_readRule_131 ?_
  refine gx_aload_n dX6_readRule_132 rfl ?_
  refine gx_getR fl_X6_12 sh14 rfl dX6_readRule_133 ?_
  refine gx_cV_vt (av := []) (st := []) ml_X6_68 (by omega) sh15 (c_X5_endRule (d - 1) (by omega) 15 (Or.inl rfl) M106) rfl rfl (Nat.le_of_ble_eq_true rfl) dX6_readRule_136 ?_
  exact gx_vret rfl rfl dX6_readRule_139
def f_X6_readRule_J35 (n : Nat) (v1 : Int32) (M : HMem) : Option HMem :=
  if (M 15 3) < 16 then
    (hb1 (f_X5_beginWorth 15 v1 (f_X10_pass  M)) (fun M101 =>
    if v1 = 120 then
      (f_X6_readRule_J92 n M101)
    else
      (hb1 (g_X6 n 60 4 0 M101) (fun M102 =>
      hb2 (f_X5_add 15 0 0 M102) (fun x103 M104 =>
      f_X6_readRule_J92 n M104)))))
  else
    (some (f_X10_failHere 4 M))
set_option maxRecDepth 20000 in
theorem w_X6_readRule_J35 (d : Nat) (hd : 71 ≤ d) (n : Nat) (M : HMem) (v1 : Int32) : GX iX6_readRule d eV (f_X6_readRule_J35 n v1 M) 35 [some (.inr (some 14)), some (.inl v1)] [] M := by
  rw [f_X6_readRule_J35]
  refine gx_aload_n dX6_readRule_35 rfl ?_
  refine gx_getR fl_X6_12 sh14 rfl dX6_readRule_36 ?_
  refine gx_getI fl_X6_45 sh15 rfl dX6_readRule_39 ?_
  refine gx_bipush (x := 16) (by decide) dX6_readRule_42 ?_
  refine gx_icmp_lt (tgt := 56) dX6_readRule_44 (by decide) ?_ ?_
  · refine gx_aload_n dX6_readRule_56 rfl ?_
    refine gx_getR fl_X6_18 sh14 rfl dX6_readRule_57 ?_
    refine gx_cV_vt (av := []) (st := []) ml_X6_49 (by omega) sh1 (c_X10_pass (d - 1) (by omega)  M) rfl rfl (Nat.le_of_ble_eq_true rfl) dX6_readRule_60 ?_
    refine gx_aload_n dX6_readRule_63 rfl ?_
    refine gx_getR fl_X6_12 sh14 rfl dX6_readRule_64 ?_
    refine gx_iload_n dX6_readRule_67 rfl ?_
    refine gx_cV_vm (av := [.inl v1]) (st := []) ml_X6_52 (by omega) sh15 (c_X5_beginWorth (d - 1) (by omega) 15 (Or.inl rfl) v1 (f_X10_pass  M)) rfl rfl (Nat.le_of_ble_eq_true rfl) dX6_readRule_68 (fun M101 => ?_)
    refine gx_iload_n dX6_readRule_71 rfl ?_
    refine gx_bipush (x := 120) (by decide) dX6_readRule_72 ?_
    refine gx_icmp_eq (tgt := 92) dX6_readRule_74 (by decide) ?_ ?_
    · refine gx_mk (lv' := [some (.inr (some 14)), none]) [true, false] rfl ?_
      exact w_X6_readRule_J92 d hd n M101 
    refine gx_aload_n dX6_readRule_77 rfl ?_
    refine gx_iconst (x := 0) (by decide) dX6_readRule_78 ?_
    refine gx_cV_vm (av := [.inl 0]) (st := []) ml_X6_55 (by omega) sh14 (c_X6_readSum_g (d - 1) (by omega) n 0 M101) rfl rfl (Nat.le_of_ble_eq_true rfl) dX6_readRule_79 (fun M102 => ?_)
    refine gx_aload_n dX6_readRule_82 rfl ?_
    refine gx_getR fl_X6_12 sh14 rfl dX6_readRule_83 ?_
    refine gx_iconst (x := 0) (by decide) dX6_readRule_86 ?_
    refine gx_iconst (x := 0) (by decide) dX6_readRule_87 ?_
    refine gx_cV_im (av := [.inl 0, .inl 0]) (st := []) ml_X6_58 (by omega) sh15 (c_X5_add (d - 1) (by omega) 15 (Or.inl rfl) 0 0 M102) rfl rfl (Nat.le_of_ble_eq_true rfl) dX6_readRule_88 (fun x103 M104 => ?_)
    refine gx_pop dX6_readRule_91 ?_
    refine gx_mk (lv' := [some (.inr (some 14)), none]) [true, false] rfl ?_
    exact w_X6_readRule_J92 d hd n M104 
  refine gx_aload_n dX6_readRule_47 rfl ?_
  refine gx_getR fl_X6_18 sh14 rfl dX6_readRule_48 ?_
  refine gx_iconst (x := 4) (by decide) dX6_readRule_51 ?_
  refine gx_cV_vt (av := [.inl 4]) (st := []) ml_X6_42 (by omega) sh1 (c_X10_failHere (d - 1) (by omega) 4 M) rfl rfl (Nat.le_of_ble_eq_true rfl) dX6_readRule_52 ?_
  exact gx_vret rfl rfl dX6_readRule_55
def f_X6_readRule (n : Nat)  (M : HMem) : Option HMem :=
  hb1 (f_X10_sign  M) (fun x101 =>
  if x101 = 101 then
    (f_X6_readRule_J35 n x101 M)
  else
    (if x101 = 114 then
      (f_X6_readRule_J35 n x101 M)
    else
      (if x101 = 120 then
        (f_X6_readRule_J35 n x101 M)
      else
        (some (f_X10_failHere 1 M)))))
set_option maxRecDepth 20000 in
theorem w_X6_readRule (d : Nat) (hd : 71 ≤ d) (n : Nat)  (M : HMem) : GX iX6_readRule d eV (f_X6_readRule n  M) 0 [some (.inr (some 14)), none] [] M := by
  rw [f_X6_readRule]
  refine gx_aload_n dX6_readRule_0 rfl ?_
  refine gx_getR fl_X6_18 sh14 rfl dX6_readRule_1 ?_
  refine gx_cV_ip (av := []) (st := []) ml_X6_38 (by omega) sh1 (c_X10_sign (d - 1) (by omega)  M) rfl rfl (Nat.le_of_ble_eq_true rfl) dX6_readRule_4 (fun x101 => ?_)
  refine gx_istore_n (lv' := [some (.inr (some 14)), some (.inl x101)]) dX6_readRule_7 (by decide) rfl ?_
  refine gx_iload_n dX6_readRule_8 rfl ?_
  refine gx_bipush (x := 101) (by decide) dX6_readRule_9 ?_
  refine gx_icmp_eq (tgt := 35) dX6_readRule_11 (by decide) ?_ ?_
  · refine gx_mk (lv' := [some (.inr (some 14)), some (.inl x101)]) [true, true] rfl ?_
    exact w_X6_readRule_J35 d hd n M x101
  refine gx_iload_n dX6_readRule_14 rfl ?_
  refine gx_bipush (x := 114) (by decide) dX6_readRule_15 ?_
  refine gx_icmp_eq (tgt := 35) dX6_readRule_17 (by decide) ?_ ?_
  · refine gx_mk (lv' := [some (.inr (some 14)), some (.inl x101)]) [true, true] rfl ?_
    exact w_X6_readRule_J35 d hd n M x101
  refine gx_iload_n dX6_readRule_20 rfl ?_
  refine gx_bipush (x := 120) (by decide) dX6_readRule_21 ?_
  refine gx_icmp_eq (tgt := 35) dX6_readRule_23 (by decide) ?_ ?_
  · refine gx_mk (lv' := [some (.inr (some 14)), some (.inl x101)]) [true, true] rfl ?_
    exact w_X6_readRule_J35 d hd n M x101
  refine gx_aload_n dX6_readRule_26 rfl ?_
  refine gx_getR fl_X6_18 sh14 rfl dX6_readRule_27 ?_
  refine gx_iconst (x := 1) (by decide) dX6_readRule_30 ?_
  refine gx_cV_vt (av := [.inl 1]) (st := []) ml_X6_42 (by omega) sh1 (c_X10_failHere (d - 1) (by omega) 1 M) rfl rfl (Nat.le_of_ble_eq_true rfl) dX6_readRule_31 ?_
  exact gx_vret rfl rfl dX6_readRule_34
theorem c_X6_readRule (d : Nat) (hd : 71 ≤ d) (n : Nat)  (M : HMem) : MX iX6_readRule d [.inr (some 14)] M eV (f_X6_readRule n  M) := mx_of (by decide +kernel) (Nat.le_of_ble_eq_true rfl) rfl (w_X6_readRule d hd n  M)
-- X6_read
def f_X6_read_L9 (n : Nat)  : Nat → Int32 → HMem → Option HMem
  | 0, _, _ => none
  | k + 1, v1, M =>
    if 16 < v1 then
      (some M)
    else
      (hb1 (f_X6_readRule n  M) (fun M101 =>
      hb1 (f_X10_isAt (-1) M101) (fun x102 =>
      if x102 = 0 then
        (hb1 (f_X10_expect 59 M101) (fun M103 =>
        f_X6_read_L9 n k (v1 + 1) M103))
      else
        (some M101))))
set_option maxRecDepth 20000 in
theorem w_X6_read_L9 (d : Nat) (hd : 72 ≤ d) (n : Nat)  : ∀ (k : Nat) (v1 : Int32) (M : HMem), GX iX6_read d eV (f_X6_read_L9 n k v1 M) 9 [some (.inr (some 14)), some (.inl v1)] [] M := by
  intro k
  induction k with
  | zero => intro v1 M; exact gx_none
  | succ k ih =>
    intro v1 M
    rw [f_X6_read_L9]
    refine gx_iload_n dX6_read_9 rfl ?_
    refine gx_bipush (x := 16) (by decide) dX6_read_10 ?_
    refine gx_icmp_gt (tgt := 46) dX6_read_12 (by decide) ?_ ?_
    · exact gx_vret rfl rfl dX6_read_46
    refine gx_aload_n dX6_read_15 rfl ?_
    refine gx_cV_vm (av := []) (st := []) ml_X6_25 (by omega) sh14 (c_X6_readRule (d - 1) (by omega) n  M) rfl rfl (Nat.le_of_ble_eq_true rfl) dX6_read_16 (fun M101 => ?_)
    refine gx_aload_n dX6_read_19 rfl ?_
    refine gx_getR fl_X6_18 sh14 rfl dX6_read_20 ?_
    refine gx_iconst (x := (-1)) (by decide) dX6_read_23 ?_
    refine gx_cV_ip (av := [.inl (-1)]) (st := []) ml_X6_30 (by omega) sh1 (c_X10_isAt (d - 1) (by omega) (-1) M101) rfl rfl (Nat.le_of_ble_eq_true rfl) dX6_read_24 (fun x102 => ?_)
    refine gx_if_eq (tgt := 31) dX6_read_27 (by decide) ?_ ?_
    · refine gx_aload_n dX6_read_31 rfl ?_
      refine gx_getR fl_X6_18 sh14 rfl dX6_read_32 ?_
      refine gx_bipush (x := 59) (by decide) dX6_read_35 ?_
      refine gx_cV_vm (av := [.inl 59]) (st := []) ml_X6_34 (by omega) sh1 (c_X10_expect (d - 1) (by omega) 59 M101) rfl rfl (Nat.le_of_ble_eq_true rfl) dX6_read_37 (fun M103 => ?_)
      refine gx_iinc (y := v1 + 1) (lv' := [some (.inr (some 14)), some (.inl (v1 + 1))]) dX6_read_40 rfl rfl (by decide) rfl ?_
      refine gx_goto (tgt := 9) dX6_read_43 (by decide) ?_
      refine gx_mk (lv' := [some (.inr (some 14)), some (.inl (v1 + 1))]) [true, true] rfl ?_
      exact ih (v1 + 1) M103
    exact gx_vret rfl rfl dX6_read_30
def f_X6_read (n : Nat)  (M : HMem) : Option HMem :=
  f_X6_read_L9 n n 0 (f_X5_clear 15 M)
set_option maxRecDepth 20000 in
theorem w_X6_read (d : Nat) (hd : 72 ≤ d) (n : Nat)  (M : HMem) : GX iX6_read d eV (f_X6_read n  M) 0 [some (.inr (some 14)), none] [] M := by
  rw [f_X6_read]
  refine gx_aload_n dX6_read_0 rfl ?_
  refine gx_getR fl_X6_12 sh14 rfl dX6_read_1 ?_
  refine gx_cV_vt (av := []) (st := []) ml_X6_22 (by omega) sh15 (c_X5_clear (d - 1) (by omega) 15 (Or.inl rfl) M) rfl rfl (Nat.le_of_ble_eq_true rfl) dX6_read_4 ?_
  refine gx_iconst (x := 0) (by decide) dX6_read_7 ?_
  refine gx_istore_n (lv' := [some (.inr (some 14)), some (.inl 0)]) dX6_read_8 (by decide) rfl ?_
  refine gx_mk (lv' := [some (.inr (some 14)), some (.inl 0)]) [true, true] rfl ?_
  exact w_X6_read_L9 d hd n  n 0 (f_X5_clear 15 M)
theorem c_X6_read (d : Nat) (hd : 72 ≤ d) (n : Nat)  (M : HMem) : MX iX6_read d [.inr (some 14)] M eV (f_X6_read n  M) := mx_of (by decide +kernel) (Nat.le_of_ble_eq_true rfl) rfl (w_X6_read d hd n  M)
-- X7_readRound
def f_X7_readRound (n : Nat) (cb : Nat → Int32 → HMem → Option HMem) (v1 : Int32) (M : HMem) : Option HMem :=
  if v1 < 2 then
    (hb1 (cb 0 (v1 + 1) (f_X10_pass  M)) (fun M101 =>
    if (f_X10_isSound  M101) = 0 then
      (some M101)
    else
      (some (f_X10_pass  M101))))
  else
    (some (f_X10_failHere 5 M))
set_option maxRecDepth 20000 in
theorem w_X7_readRound (d : Nat) (hd : 1 ≤ d) (n : Nat) (cb : Nat → Int32 → HMem → Option HMem) (hc0 : ∀ a M, MX iX7_readSteps (d - 1) [.inr (some 8), .inl a] M eV (cb 0 a M)) (hc1 : ∀ a M, MX iX7_readOne (d - 1) [.inr (some 8), .inl a] M eV (cb 1 a M)) (hc2 : ∀ a M, MX iX7_readRound (d - 1) [.inr (some 8), .inl a] M eV (cb 2 a M)) (v1 : Int32) (M : HMem) : GX iX7_readRound d eV (f_X7_readRound n cb v1 M) 0 [some (.inr (some 8)), some (.inl v1)] [] M := by
  rw [f_X7_readRound]
  refine gx_iload_n dX7_readRound_0 rfl ?_
  refine gx_iconst (x := 2) (by decide) dX7_readRound_1 ?_
  refine gx_icmp_lt (tgt := 14) dX7_readRound_2 (by decide) ?_ ?_
  · refine gx_aload_n dX7_readRound_14 rfl ?_
    refine gx_getR fl_X7_19 sh8 rfl dX7_readRound_15 ?_
    refine gx_cV_vt (av := []) (st := []) ml_X7_47 (by omega) sh1 (c_X10_pass (d - 1) (by omega)  M) rfl rfl (Nat.le_of_ble_eq_true rfl) dX7_readRound_18 ?_
    refine gx_aload_n dX7_readRound_21 rfl ?_
    refine gx_iload_n dX7_readRound_22 rfl ?_
    refine gx_iconst (x := 1) (by decide) dX7_readRound_23 ?_
    refine gx_iadd dX7_readRound_24 ?_
    refine gx_cV_vm (av := [.inl (v1 + 1)]) (st := []) ml_X7_23 (by omega) sh8 (hc0 (v1 + 1) (f_X10_pass  M)) rfl rfl (Nat.le_of_ble_eq_true rfl) dX7_readRound_25 (fun M101 => ?_)
    refine gx_aload_n dX7_readRound_28 rfl ?_
    refine gx_getR fl_X7_19 sh8 rfl dX7_readRound_29 ?_
    refine gx_cV_it (av := []) (st := []) ml_X7_32 (by omega) sh1 (c_X10_isSound (d - 1) (by omega)  M101) rfl rfl (Nat.le_of_ble_eq_true rfl) dX7_readRound_32 ?_
    refine gx_if_eq (tgt := 45) dX7_readRound_35 (by decide) ?_ ?_
    · exact gx_vret rfl rfl dX7_readRound_45
    refine gx_aload_n dX7_readRound_38 rfl ?_
    refine gx_getR fl_X7_19 sh8 rfl dX7_readRound_39 ?_
    refine gx_cV_vt (av := []) (st := []) ml_X7_47 (by omega) sh1 (c_X10_pass (d - 1) (by omega)  M101) rfl rfl (Nat.le_of_ble_eq_true rfl) dX7_readRound_42 ?_
    exact gx_vret rfl rfl dX7_readRound_45
  refine gx_aload_n dX7_readRound_5 rfl ?_
  refine gx_getR fl_X7_19 sh8 rfl dX7_readRound_6 ?_
  refine gx_iconst (x := 5) (by decide) dX7_readRound_9 ?_
  refine gx_cV_vt (av := [.inl 5]) (st := []) ml_X7_60 (by omega) sh1 (c_X10_failHere (d - 1) (by omega) 5 M) rfl rfl (Nat.le_of_ble_eq_true rfl) dX7_readRound_10 ?_
  exact gx_vret rfl rfl dX7_readRound_13
theorem c_X7_readRound (d : Nat) (hd : 1 ≤ d) (n : Nat) (cb : Nat → Int32 → HMem → Option HMem) (hc0 : ∀ a M, MX iX7_readSteps (d - 1) [.inr (some 8), .inl a] M eV (cb 0 a M)) (hc1 : ∀ a M, MX iX7_readOne (d - 1) [.inr (some 8), .inl a] M eV (cb 1 a M)) (hc2 : ∀ a M, MX iX7_readRound (d - 1) [.inr (some 8), .inl a] M eV (cb 2 a M)) (v1 : Int32) (M : HMem) : MX iX7_readRound d [.inr (some 8), .inl v1] M eV (f_X7_readRound n cb v1 M) := mx_of (by decide +kernel) (Nat.le_of_ble_eq_true rfl) rfl (w_X7_readRound d hd n cb hc0 hc1 hc2 v1 M)
-- X7_wayOf
def f_X7_wayOf (v0 : Int32) : Int32 :=
  if v0 = 46 then
    (0)
  else if v0 = 100 then
    (3)
  else if v0 = 108 then
    (4)
  else if v0 = 114 then
    (2)
  else if v0 = 117 then
    (1)
  else ((-1))
set_option maxRecDepth 20000 in
theorem w_X7_wayOf (d : Nat) (hd : 0 ≤ d) (v0 : Int32) (M : HMem) : GX iX7_wayOf d (eP M) (some (f_X7_wayOf v0)) 0 [some (.inl v0)] [] M := by
  rw [f_X7_wayOf]
  refine gx_iload_n dX7_wayOf_0 rfl ?_
  refine gxt_swL (k := 46) (kI := 46) (off := 51) (tgt := 52) (by decide) dX7_wayOf_1 (by decide) (by decide) (by decide) ?_ (fun q1_46 => ?_)
  · refine gx_iconst (x := 0) (by decide) dX7_wayOf_52 ?_
    exact gx_iret rfl rfl dX7_wayOf_53
  refine gxt_swL (k := 100) (kI := 100) (off := 57) (tgt := 58) (by decide) dX7_wayOf_1 (by decide) (by decide) (by decide) ?_ (fun q1_100 => ?_)
  · refine gx_iconst (x := 3) (by decide) dX7_wayOf_58 ?_
    exact gx_iret rfl rfl dX7_wayOf_59
  refine gxt_swL (k := 108) (kI := 108) (off := 59) (tgt := 60) (by decide) dX7_wayOf_1 (by decide) (by decide) (by decide) ?_ (fun q1_108 => ?_)
  · refine gx_iconst (x := 4) (by decide) dX7_wayOf_60 ?_
    exact gx_iret rfl rfl dX7_wayOf_61
  refine gxt_swL (k := 114) (kI := 114) (off := 55) (tgt := 56) (by decide) dX7_wayOf_1 (by decide) (by decide) (by decide) ?_ (fun q1_114 => ?_)
  · refine gx_iconst (x := 2) (by decide) dX7_wayOf_56 ?_
    exact gx_iret rfl rfl dX7_wayOf_57
  refine gxt_swL (k := 117) (kI := 117) (off := 53) (tgt := 54) (by decide) dX7_wayOf_1 (by decide) (by decide) (by decide) ?_ (fun q1_117 => ?_)
  · refine gx_iconst (x := 1) (by decide) dX7_wayOf_54 ?_
    exact gx_iret rfl rfl dX7_wayOf_55
  refine gx_swLd (tgt := 62) dX7_wayOf_1 (by decide) (by show Op.lookupswitch.offset [(46, 51), (100, 57), (108, 59), (114, 55), (117, 53)] 61 _ = 61; rw [lv_osw q1_46 (by decide), lv_osw q1_100 (by decide), lv_osw q1_108 (by decide), lv_osw q1_114 (by decide), lv_osw q1_117 (by decide)]; rfl) (by decide) ?_
  refine gx_iconst (x := (-1)) (by decide) dX7_wayOf_62 ?_
  exact gx_iret rfl rfl dX7_wayOf_63
theorem c_X7_wayOf (d : Nat) (hd : 0 ≤ d) (v0 : Int32) (M : HMem) : MX iX7_wayOf d [.inl v0] M (eP M) (some (f_X7_wayOf v0)) := mx_of (by decide +kernel) (Nat.le_of_ble_eq_true rfl) rfl (w_X7_wayOf d hd v0 M)
-- X7_readStep
def f_X7_readStep (v1 : Int32) (M : HMem) : Option HMem :=
  hb1 (f_X10_sign  M) (fun x101 =>
  if (f_X7_wayOf x101) = (-1) then
    (some (f_X10_failHere 1 M))
  else
    (if (M 8 2) < 96 then
      (if hib (M 8 2) 96 then
      hb1 (some (hset M 9 (Int32.toNatClampNeg (M 8 2)) (f_X7_wayOf x101))) (fun M102 =>
      some (f_X10_pass  (hset M102 8 2 ((M102 8 2) + 1))))
      else none)
    else
      (some (f_X10_failAt 6 v1 M))))
set_option maxRecDepth 20000 in
theorem w_X7_readStep (d : Nat) (hd : 1 ≤ d) (v1 : Int32) (M : HMem) : GX iX7_readStep d eV (f_X7_readStep v1 M) 0 [some (.inr (some 8)), some (.inl v1), none] [] M := by
  rw [f_X7_readStep]
  refine gx_aload_n dX7_readStep_0 rfl ?_
  refine gx_getR fl_X7_19 sh8 rfl dX7_readStep_1 ?_
  refine gx_cV_ip (av := []) (st := []) ml_X7_43 (by omega) sh1 (c_X10_sign (d - 1) (by omega)  M) rfl rfl (Nat.le_of_ble_eq_true rfl) dX7_readStep_4 (fun x101 => ?_)
  refine gx_cS_it (av := [.inl x101]) (st := []) ml_X7_63 (by omega) (c_X7_wayOf (d - 1) (by omega) x101 M) rfl rfl (Nat.le_of_ble_eq_true rfl) dX7_readStep_7 ?_
  refine gx_istore_n (lv' := [some (.inr (some 8)), some (.inl v1), some (.inl (f_X7_wayOf x101))]) dX7_readStep_10 (by decide) rfl ?_
  refine gx_iload_n dX7_readStep_11 rfl ?_
  refine gx_iconst (x := (-1)) (by decide) dX7_readStep_12 ?_
  refine gx_icmp_ne (tgt := 27) dX7_readStep_13 (by decide) ?_ ?_
  · refine gx_aload_n dX7_readStep_27 rfl ?_
    refine gx_getI fl_X7_15 sh8 rfl dX7_readStep_28 ?_
    refine gx_aload_n dX7_readStep_31 rfl ?_
    refine gx_getR fl_X7_9 sh8 rfl dX7_readStep_32 ?_
    refine gx_alen (x := 96) sh9 (by decide) (by decide) dX7_readStep_35 ?_
    refine gx_icmp_lt (tgt := 52) dX7_readStep_36 (by decide) ?_ ?_
    · refine gx_aload_n dX7_readStep_52 rfl ?_
      refine gx_getR fl_X7_9 sh8 rfl dX7_readStep_53 ?_
      refine gx_aload_n dX7_readStep_56 rfl ?_
      refine gx_getI fl_X7_15 sh8 rfl dX7_readStep_57 ?_
      refine gx_iload_n dX7_readStep_60 rfl ?_
      refine gx_iastore sh9 dX7_readStep_61 ?_
      refine gx_aload_n dX7_readStep_62 rfl ?_
      refine gx_dup dX7_readStep_63 ?_
      refine gx_nm (fun M102 => ?_)
      refine gx_getI fl_X7_15 sh8 rfl dX7_readStep_64 ?_
      refine gx_iconst (x := 1) (by decide) dX7_readStep_67 ?_
      refine gx_iadd dX7_readStep_68 ?_
      refine gx_putI fl_X7_15 fp_X7_2 sh8 rfl dX7_readStep_69 ?_
      refine gx_aload_n dX7_readStep_72 rfl ?_
      refine gx_getR fl_X7_19 sh8 rfl dX7_readStep_73 ?_
      refine gx_cV_vt (av := []) (st := []) ml_X7_47 (by omega) sh1 (c_X10_pass (d - 1) (by omega)  (hset M102 8 2 ((M102 8 2) + 1))) rfl rfl (Nat.le_of_ble_eq_true rfl) dX7_readStep_76 ?_
      exact gx_vret rfl rfl dX7_readStep_79
    refine gx_aload_n dX7_readStep_39 rfl ?_
    refine gx_getR fl_X7_19 sh8 rfl dX7_readStep_40 ?_
    refine gx_bipush (x := 6) (by decide) dX7_readStep_43 ?_
    refine gx_iload_n dX7_readStep_45 rfl ?_
    refine gx_cV_vt (av := [.inl 6, .inl v1]) (st := []) ml_X7_67 (by omega) sh1 (c_X10_failAt (d - 1) (by omega) 6 v1 M) rfl rfl (Nat.le_of_ble_eq_true rfl) dX7_readStep_46 ?_
    refine gx_goto (tgt := 79) dX7_readStep_49 (by decide) ?_
    exact gx_vret rfl rfl dX7_readStep_79
  refine gx_aload_n dX7_readStep_16 rfl ?_
  refine gx_getR fl_X7_19 sh8 rfl dX7_readStep_17 ?_
  refine gx_iconst (x := 1) (by decide) dX7_readStep_20 ?_
  refine gx_cV_vt (av := [.inl 1]) (st := []) ml_X7_60 (by omega) sh1 (c_X10_failHere (d - 1) (by omega) 1 M) rfl rfl (Nat.le_of_ble_eq_true rfl) dX7_readStep_21 ?_
  refine gx_goto (tgt := 79) dX7_readStep_24 (by decide) ?_
  exact gx_vret rfl rfl dX7_readStep_79
theorem c_X7_readStep (d : Nat) (hd : 1 ≤ d) (v1 : Int32) (M : HMem) : MX iX7_readStep d [.inr (some 8), .inl v1] M eV (f_X7_readStep v1 M) := mx_of (by decide +kernel) (Nat.le_of_ble_eq_true rfl) rfl (w_X7_readStep d hd v1 M)
-- X7_repeat
def f_X7_repeat_L36 (n : Nat) (v1 : Int32) (v2 : Int32) (v4 : Int32) : Nat → Int32 → HMem → Option HMem
  | 0, _, _ => none
  | k + 1, v5, M =>
    if v2 ≤ v5 then
      (some (hset M 8 2 (v1 + (v4 * v2))))
    else
      (if hcpok v1 (v1 + (v5 * v4)) v4 96 96 then
      f_X7_repeat_L36 n v1 v2 v4 k (v5 + 1) (hcpy M 9 9 (Int32.toNatClampNeg v1) (Int32.toNatClampNeg (v1 + (v5 * v4))) (Int32.toNatClampNeg v4))
      else none)
set_option maxRecDepth 20000 in
theorem w_X7_repeat_L36 (d : Nat) (hd : 1 ≤ d) (n : Nat) (v1 : Int32) (v2 : Int32) (v4 : Int32) : ∀ (k : Nat) (v5 : Int32) (M : HMem), GX iX7_repeat d eV (f_X7_repeat_L36 n v1 v2 v4 k v5 M) 36 [some (.inr (some 8)), some (.inl v1), some (.inl v2), none, some (.inl v4), some (.inl v5)] [] M := by
  intro k
  induction k with
  | zero => intro v5 M; exact gx_none
  | succ k ih =>
    intro v5 M
    rw [f_X7_repeat_L36]
    refine gx_iload dX7_repeat_36 rfl ?_
    refine gx_iload_n dX7_repeat_38 rfl ?_
    refine gx_icmp_ge (tgt := 69) dX7_repeat_39 (by decide) ?_ ?_
    · refine gx_aload_n dX7_repeat_69 rfl ?_
      refine gx_iload_n dX7_repeat_70 rfl ?_
      refine gx_iload dX7_repeat_71 rfl ?_
      refine gx_iload_n dX7_repeat_73 rfl ?_
      refine gx_imul dX7_repeat_74 ?_
      refine gx_iadd dX7_repeat_75 ?_
      refine gx_putI fl_X7_15 fp_X7_2 sh8 rfl dX7_repeat_76 ?_
      exact gx_vret rfl rfl dX7_repeat_79
    refine gx_aload_n dX7_repeat_42 rfl ?_
    refine gx_getR fl_X7_9 sh8 rfl dX7_repeat_43 ?_
    refine gx_iload_n dX7_repeat_46 rfl ?_
    refine gx_aload_n dX7_repeat_47 rfl ?_
    refine gx_getR fl_X7_9 sh8 rfl dX7_repeat_48 ?_
    refine gx_iload_n dX7_repeat_51 rfl ?_
    refine gx_iload dX7_repeat_52 rfl ?_
    refine gx_iload dX7_repeat_54 rfl ?_
    refine gx_imul dX7_repeat_56 ?_
    refine gx_iadd dX7_repeat_57 ?_
    refine gx_iload dX7_repeat_58 rfl ?_
    refine gx_copy mw711 mw665 mw664 mw188 sh9 sh9 (by omega) (Nat.le_of_ble_eq_true rfl) dX7_repeat_60 ?_
    refine gx_iinc (y := v5 + 1) (lv' := [some (.inr (some 8)), some (.inl v1), some (.inl v2), none, some (.inl v4), some (.inl (v5 + 1))]) dX7_repeat_63 rfl rfl (by decide) rfl ?_
    refine gx_goto (tgt := 36) dX7_repeat_66 (by decide) ?_
    refine gx_mk (lv' := [some (.inr (some 8)), some (.inl v1), some (.inl v2), none, some (.inl v4), some (.inl (v5 + 1))]) [true, true, true, false, true, true] rfl ?_
    exact ih (v5 + 1) (hcpy M 9 9 (Int32.toNatClampNeg v1) (Int32.toNatClampNeg (v1 + (v5 * v4))) (Int32.toNatClampNeg v4))
def f_X7_repeat (n : Nat) (v1 : Int32) (v2 : Int32) (v3 : Int32) (M : HMem) : Option HMem :=
  if (v1 + (((M 8 2) - v1) * v2)) ≤ 96 then
    (f_X7_repeat_L36 n v1 v2 ((M 8 2) - v1) n 1 M)
  else
    (some (f_X10_failAt 6 v3 M))
set_option maxRecDepth 20000 in
theorem w_X7_repeat (d : Nat) (hd : 1 ≤ d) (n : Nat) (v1 : Int32) (v2 : Int32) (v3 : Int32) (M : HMem) : GX iX7_repeat d eV (f_X7_repeat n v1 v2 v3 M) 0 [some (.inr (some 8)), some (.inl v1), some (.inl v2), some (.inl v3), none, none] [] M := by
  rw [f_X7_repeat]
  refine gx_aload_n dX7_repeat_0 rfl ?_
  refine gx_getI fl_X7_15 sh8 rfl dX7_repeat_1 ?_
  refine gx_iload_n dX7_repeat_4 rfl ?_
  refine gx_isub dX7_repeat_5 ?_
  refine gx_istore (lv' := [some (.inr (some 8)), some (.inl v1), some (.inl v2), some (.inl v3), some (.inl ((M 8 2) - v1)), none]) dX7_repeat_6 (by decide) rfl ?_
  refine gx_iload_n dX7_repeat_8 rfl ?_
  refine gx_iload dX7_repeat_9 rfl ?_
  refine gx_iload_n dX7_repeat_11 rfl ?_
  refine gx_imul dX7_repeat_12 ?_
  refine gx_iadd dX7_repeat_13 ?_
  refine gx_aload_n dX7_repeat_14 rfl ?_
  refine gx_getR fl_X7_9 sh8 rfl dX7_repeat_15 ?_
  refine gx_alen (x := 96) sh9 (by decide) (by decide) dX7_repeat_18 ?_
  refine gx_icmp_le (tgt := 33) dX7_repeat_19 (by decide) ?_ ?_
  · refine gx_iconst (x := 1) (by decide) dX7_repeat_33 ?_
    refine gx_istore (lv' := [some (.inr (some 8)), some (.inl v1), some (.inl v2), some (.inl v3), some (.inl ((M 8 2) - v1)), some (.inl 1)]) dX7_repeat_34 (by decide) rfl ?_
    refine gx_mk (lv' := [some (.inr (some 8)), some (.inl v1), some (.inl v2), none, some (.inl ((M 8 2) - v1)), some (.inl 1)]) [true, true, true, false, true, true] rfl ?_
    exact w_X7_repeat_L36 d hd n v1 v2 ((M 8 2) - v1) n 1 M
  refine gx_aload_n dX7_repeat_22 rfl ?_
  refine gx_getR fl_X7_19 sh8 rfl dX7_repeat_23 ?_
  refine gx_bipush (x := 6) (by decide) dX7_repeat_26 ?_
  refine gx_iload_n dX7_repeat_28 rfl ?_
  refine gx_cV_vt (av := [.inl 6, .inl v3]) (st := []) ml_X7_67 (by omega) sh1 (c_X10_failAt (d - 1) (by omega) 6 v3 M) rfl rfl (Nat.le_of_ble_eq_true rfl) dX7_repeat_29 ?_
  exact gx_vret rfl rfl dX7_repeat_32
theorem c_X7_repeat (d : Nat) (hd : 1 ≤ d) (n : Nat) (v1 : Int32) (v2 : Int32) (v3 : Int32) (M : HMem) : MX iX7_repeat d [.inr (some 8), .inl v1, .inl v2, .inl v3] M eV (f_X7_repeat n v1 v2 v3 M) := mx_of (by decide +kernel) (Nat.le_of_ble_eq_true rfl) rfl (w_X7_repeat d hd n v1 v2 v3 M)
-- X7_readOne
def f_X7_readOne_J83 (n : Nat) (cb : Nat → Int32 → HMem → Option HMem) (v2 : Int32) (v3 : Int32) (v4 : Int32) (M : HMem) : Option HMem :=
  if (f_X10_isSound  M) = 0 then
    (some M)
  else
    (hb1 (f_X7_repeat n v4 v3 v2 M) (fun M101 =>
    some M101))
set_option maxRecDepth 20000 in
theorem w_X7_readOne_J83 (d : Nat) (hd : 2 ≤ d) (n : Nat) (cb : Nat → Int32 → HMem → Option HMem) (hc0 : ∀ a M, MX iX7_readSteps (d - 1) [.inr (some 8), .inl a] M eV (cb 0 a M)) (hc1 : ∀ a M, MX iX7_readOne (d - 1) [.inr (some 8), .inl a] M eV (cb 1 a M)) (hc2 : ∀ a M, MX iX7_readRound (d - 1) [.inr (some 8), .inl a] M eV (cb 2 a M)) (M : HMem) (v2 : Int32) (v3 : Int32) (v4 : Int32) : GX iX7_readOne d eV (f_X7_readOne_J83 n cb v2 v3 v4 M) 83 [some (.inr (some 8)), none, some (.inl v2), some (.inl v3), some (.inl v4)] [] M := by
  rw [f_X7_readOne_J83]
  refine gx_aload_n dX7_readOne_83 rfl ?_
  refine gx_getR fl_X7_19 sh8 rfl dX7_readOne_84 ?_
  refine gx_cV_it (av := []) (st := []) ml_X7_32 (by omega) sh1 (c_X10_isSound (d - 1) (by omega)  M) rfl rfl (Nat.le_of_ble_eq_true rfl) dX7_readOne_87 ?_
  refine gx_if_eq (tgt := 101) dX7_readOne_90 (by decide) ?_ ?_
  · exact gx_vret rfl rfl dX7_readOne_101
  refine gx_aload_n dX7_readOne_93 rfl ?_
  refine gx_iload dX7_readOne_94 rfl ?_
  refine gx_iload_n dX7_readOne_96 rfl ?_
  refine gx_iload_n dX7_readOne_97 rfl ?_
  refine gx_cV_vm (av := [.inl v4, .inl v3, .inl v2]) (st := []) ml_X7_56 (by omega) sh8 (c_X7_repeat (d - 1) (by omega) n v4 v3 v2 M) rfl rfl (Nat.le_of_ble_eq_true rfl) dX7_readOne_98 (fun M101 => ?_)
  exact gx_vret rfl rfl dX7_readOne_101
def f_X7_readOne_J52 (n : Nat) (cb : Nat → Int32 → HMem → Option HMem) (v1 : Int32) (v2 : Int32) (v3 : Int32) (M : HMem) : Option HMem :=
  hb1 (f_X10_isAt 40 M) (fun x101 =>
  if x101 = 0 then
    (hb1 (f_X7_readStep v2 M) (fun M102 =>
    f_X7_readOne_J83 n cb v2 v3 (M 8 2) M102))
  else
    (hb1 (cb 2 v1 M) (fun M103 =>
    f_X7_readOne_J83 n cb v2 v3 (M 8 2) M103)))
set_option maxRecDepth 20000 in
theorem w_X7_readOne_J52 (d : Nat) (hd : 2 ≤ d) (n : Nat) (cb : Nat → Int32 → HMem → Option HMem) (hc0 : ∀ a M, MX iX7_readSteps (d - 1) [.inr (some 8), .inl a] M eV (cb 0 a M)) (hc1 : ∀ a M, MX iX7_readOne (d - 1) [.inr (some 8), .inl a] M eV (cb 1 a M)) (hc2 : ∀ a M, MX iX7_readRound (d - 1) [.inr (some 8), .inl a] M eV (cb 2 a M)) (M : HMem) (v1 : Int32) (v2 : Int32) (v3 : Int32) : GX iX7_readOne d eV (f_X7_readOne_J52 n cb v1 v2 v3 M) 52 [some (.inr (some 8)), some (.inl v1), some (.inl v2), some (.inl v3), none] [] M := by
  rw [f_X7_readOne_J52]
  refine gx_aload_n dX7_readOne_52 rfl ?_
  refine gx_getI fl_X7_15 sh8 rfl dX7_readOne_53 ?_
  refine gx_istore (lv' := [some (.inr (some 8)), some (.inl v1), some (.inl v2), some (.inl v3), some (.inl (M 8 2))]) dX7_readOne_56 (by decide) rfl ?_
  refine gx_aload_n dX7_readOne_58 rfl ?_
  refine gx_getR fl_X7_19 sh8 rfl dX7_readOne_59 ?_
  refine gx_bipush (x := 40) (by decide) dX7_readOne_62 ?_
  refine gx_cV_ip (av := [.inl 40]) (st := []) ml_X7_36 (by omega) sh1 (c_X10_isAt (d - 1) (by omega) 40 M) rfl rfl (Nat.le_of_ble_eq_true rfl) dX7_readOne_64 (fun x101 => ?_)
  refine gx_if_eq (tgt := 78) dX7_readOne_67 (by decide) ?_ ?_
  · refine gx_aload_n dX7_readOne_78 rfl ?_
    refine gx_iload_n dX7_readOne_79 rfl ?_
    refine gx_cV_vm (av := [.inl v2]) (st := []) ml_X7_53 (by omega) sh8 (c_X7_readStep (d - 1) (by omega) v2 M) rfl rfl (Nat.le_of_ble_eq_true rfl) dX7_readOne_80 (fun M102 => ?_)
    refine gx_mk (lv' := [some (.inr (some 8)), none, some (.inl v2), some (.inl v3), some (.inl (M 8 2))]) [true, false, true, true, true] rfl ?_
    exact w_X7_readOne_J83 d hd n cb hc0 hc1 hc2 M102 v2 v3 (M 8 2)
  refine gx_aload_n dX7_readOne_70 rfl ?_
  refine gx_iload_n dX7_readOne_71 rfl ?_
  refine gx_cV_vm (av := [.inl v1]) (st := []) ml_X7_50 (by omega) sh8 (hc2 v1 M) rfl rfl (Nat.le_of_ble_eq_true rfl) dX7_readOne_72 (fun M103 => ?_)
  refine gx_goto (tgt := 83) dX7_readOne_75 (by decide) ?_
  refine gx_mk (lv' := [some (.inr (some 8)), none, some (.inl v2), some (.inl v3), some (.inl (M 8 2))]) [true, false, true, true, true] rfl ?_
  exact w_X7_readOne_J83 d hd n cb hc0 hc1 hc2 M103 v2 v3 (M 8 2)
def f_X7_readOne (n : Nat) (cb : Nat → Int32 → HMem → Option HMem) (v1 : Int32) (M : HMem) : Option HMem :=
  hb1 (f_X10_sign  M) (fun x101 =>
  if x101 < 50 then
    (f_X7_readOne_J52 n cb v1 (M 1 3) 1 M)
  else
    (hb1 (f_X10_sign  M) (fun x102 =>
    if 57 < x102 then
      (f_X7_readOne_J52 n cb v1 (M 1 3) 1 M)
    else
      (hb1 (f_X10_sign  M) (fun x103 =>
      f_X7_readOne_J52 n cb v1 (M 1 3) (x103 - 48) (f_X10_pass  M))))))
set_option maxRecDepth 20000 in
theorem w_X7_readOne (d : Nat) (hd : 2 ≤ d) (n : Nat) (cb : Nat → Int32 → HMem → Option HMem) (hc0 : ∀ a M, MX iX7_readSteps (d - 1) [.inr (some 8), .inl a] M eV (cb 0 a M)) (hc1 : ∀ a M, MX iX7_readOne (d - 1) [.inr (some 8), .inl a] M eV (cb 1 a M)) (hc2 : ∀ a M, MX iX7_readRound (d - 1) [.inr (some 8), .inl a] M eV (cb 2 a M)) (v1 : Int32) (M : HMem) : GX iX7_readOne d eV (f_X7_readOne n cb v1 M) 0 [some (.inr (some 8)), some (.inl v1), none, none, none] [] M := by
  rw [f_X7_readOne]
  refine gx_aload_n dX7_readOne_0 rfl ?_
  refine gx_getR fl_X7_19 sh8 rfl dX7_readOne_1 ?_
  refine gx_getI fl_X7_40 sh1 rfl dX7_readOne_4 ?_
  refine gx_istore_n (lv' := [some (.inr (some 8)), some (.inl v1), some (.inl (M 1 3)), none, none]) dX7_readOne_7 (by decide) rfl ?_
  refine gx_iconst (x := 1) (by decide) dX7_readOne_8 ?_
  refine gx_istore_n (lv' := [some (.inr (some 8)), some (.inl v1), some (.inl (M 1 3)), some (.inl 1), none]) dX7_readOne_9 (by decide) rfl ?_
  refine gx_aload_n dX7_readOne_10 rfl ?_
  refine gx_getR fl_X7_19 sh8 rfl dX7_readOne_11 ?_
  refine gx_cV_ip (av := []) (st := []) ml_X7_43 (by omega) sh1 (c_X10_sign (d - 1) (by omega)  M) rfl rfl (Nat.le_of_ble_eq_true rfl) dX7_readOne_14 (fun x101 => ?_)
  refine gx_bipush (x := 50) (by decide) dX7_readOne_17 ?_
  refine gx_icmp_lt (tgt := 52) dX7_readOne_19 (by decide) ?_ ?_
  · refine gx_mk (lv' := [some (.inr (some 8)), some (.inl v1), some (.inl (M 1 3)), some (.inl 1), none]) [true, true, true, true, false] rfl ?_
    exact w_X7_readOne_J52 d hd n cb hc0 hc1 hc2 M v1 (M 1 3) 1
  refine gx_aload_n dX7_readOne_22 rfl ?_
  refine gx_getR fl_X7_19 sh8 rfl dX7_readOne_23 ?_
  refine gx_cV_ip (av := []) (st := []) ml_X7_43 (by omega) sh1 (c_X10_sign (d - 1) (by omega)  M) rfl rfl (Nat.le_of_ble_eq_true rfl) dX7_readOne_26 (fun x102 => ?_)
  refine gx_bipush (x := 57) (by decide) dX7_readOne_29 ?_
  refine gx_icmp_gt (tgt := 52) dX7_readOne_31 (by decide) ?_ ?_
  · refine gx_mk (lv' := [some (.inr (some 8)), some (.inl v1), some (.inl (M 1 3)), some (.inl 1), none]) [true, true, true, true, false] rfl ?_
    exact w_X7_readOne_J52 d hd n cb hc0 hc1 hc2 M v1 (M 1 3) 1
  refine gx_aload_n dX7_readOne_34 rfl ?_
  refine gx_getR fl_X7_19 sh8 rfl dX7_readOne_35 ?_
  refine gx_cV_ip (av := []) (st := []) ml_X7_43 (by omega) sh1 (c_X10_sign (d - 1) (by omega)  M) rfl rfl (Nat.le_of_ble_eq_true rfl) dX7_readOne_38 (fun x103 => ?_)
  refine gx_bipush (x := 48) (by decide) dX7_readOne_41 ?_
  refine gx_isub dX7_readOne_43 ?_
  refine gx_istore_n (lv' := [some (.inr (some 8)), some (.inl v1), some (.inl (M 1 3)), some (.inl (x103 - 48)), none]) dX7_readOne_44 (by decide) rfl ?_
  refine gx_aload_n dX7_readOne_45 rfl ?_
  refine gx_getR fl_X7_19 sh8 rfl dX7_readOne_46 ?_
  refine gx_cV_vt (av := []) (st := []) ml_X7_47 (by omega) sh1 (c_X10_pass (d - 1) (by omega)  M) rfl rfl (Nat.le_of_ble_eq_true rfl) dX7_readOne_49 ?_
  refine gx_mk (lv' := [some (.inr (some 8)), some (.inl v1), some (.inl (M 1 3)), some (.inl (x103 - 48)), none]) [true, true, true, true, false] rfl ?_
  exact w_X7_readOne_J52 d hd n cb hc0 hc1 hc2 (f_X10_pass  M) v1 (M 1 3) (x103 - 48)
theorem c_X7_readOne (d : Nat) (hd : 2 ≤ d) (n : Nat) (cb : Nat → Int32 → HMem → Option HMem) (hc0 : ∀ a M, MX iX7_readSteps (d - 1) [.inr (some 8), .inl a] M eV (cb 0 a M)) (hc1 : ∀ a M, MX iX7_readOne (d - 1) [.inr (some 8), .inl a] M eV (cb 1 a M)) (hc2 : ∀ a M, MX iX7_readRound (d - 1) [.inr (some 8), .inl a] M eV (cb 2 a M)) (v1 : Int32) (M : HMem) : MX iX7_readOne d [.inr (some 8), .inl v1] M eV (f_X7_readOne n cb v1 M) := mx_of (by decide +kernel) (Nat.le_of_ble_eq_true rfl) rfl (w_X7_readOne d hd n cb hc0 hc1 hc2 v1 M)

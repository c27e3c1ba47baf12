noncomputable def w_X11 (cs : Nat → ClassId) (h0 : Nat) (a : Nat → Nat) : va_W := (h0, .inr (11, [.ref (a 1), .ref (a 3), .ref (a 8), .ref (a 10), .ref (a 14), .ref (a 23), .ref (a 31), .ref (a 32), .ref (a 35), .ref (a 40), .ref (a 45), .int 0])) :: ((((((((((([] ++ w_X10 cs (a 1) (a 2)) ++ w_X0 cs (a 3) a) ++ w_X7 cs (a 8) (a 1) (a 9)) ++ w_X4 cs (a 10) (a 1) (a 11) (a 12) (a 13)) ++ w_X6 cs (a 14) (a 1) (a 15) (a 16) (a 17) (a 18) (a 19) (a 20) (a 21) (a 22)) ++ w_X5 cs (a 23) (a 24) (a 25) (a 26) (a 27) (a 28) (a 29) (a 30)) ++ w_X2 cs (a 31) (a 3) (a 23)) ++ w_X9 cs (a 32) (a 3) (a 33) (a 34)) ++ w_X8 cs (a 35) (a 36) (a 37) (a 38) (a 39)) ++ w_X8 cs (a 40) (a 41) (a 42) (a 43) (a 44)) ++ w_X8 cs (a 45) (a 46) (a 47) (a 48) (a 49))
def al11 (q1 q2_1 q3 q5 q6_1 q7 q8_1 q8_2 q8_3 q9 q10_1 q10_2 q10_3 q10_4 q10_5 q10_6 q10_7 q10_8 q11 q12_1 q12_2 q12_3 q12_4 q12_5 q12_6 q12_7 q13 q15 q16_1 q16_2 q17 q18_1 q18_2 q18_3 q18_4 q19 q20_1 q20_2 q20_3 q20_4 q21 q22_1 q22_2 q22_3 q22_4 : Nat) (a4 : Nat → Nat) : Nat → Nat := fun k => if k = 1 then q1 else if k = 2 then q2_1 else if k = 3 then q3 else if k = 8 then q5 else if k = 9 then q6_1 else if k = 10 then q7 else if k = 11 then q8_1 else if k = 12 then q8_2 else if k = 13 then q8_3 else if k = 14 then q9 else if k = 15 then q10_1 else if k = 16 then q10_2 else if k = 17 then q10_3 else if k = 18 then q10_4 else if k = 19 then q10_5 else if k = 20 then q10_6 else if k = 21 then q10_7 else if k = 22 then q10_8 else if k = 23 then q11 else if k = 24 then q12_1 else if k = 25 then q12_2 else if k = 26 then q12_3 else if k = 27 then q12_4 else if k = 28 then q12_5 else if k = 29 then q12_6 else if k = 30 then q12_7 else if k = 31 then q13 else if k = 32 then q15 else if k = 33 then q16_1 else if k = 34 then q16_2 else if k = 35 then q17 else if k = 36 then q18_1 else if k = 37 then q18_2 else if k = 38 then q18_3 else if k = 39 then q18_4 else if k = 40 then q19 else if k = 41 then q20_1 else if k = 42 then q20_2 else if k = 43 then q20_3 else if k = 44 then q20_4 else if k = 45 then q21 else if k = 46 then q22_1 else if k = 47 then q22_2 else if k = 48 then q22_3 else if k = 49 then q22_4 else a4 k
set_option maxRecDepth 100000 in
set_option maxHeartbeats 4000000 in
theorem nm_X11_init (cs : Nat → ClassId) (h0 : Nat) : NM iX11_init 3 73 4375 [.ref h0] cs [(h0, .inr (11, [.null, .null, .null, .null, .null, .null, .null, .null, .null, .null, .null, .int 0]))] (fun w => ∃ a : Nat → Nat, w = w_X11 cs h0 a) := by
  refine nm_of (by decide +kernel) rfl (Nat.le_of_ble_eq_true rfl) (fun dC dI sz => ?_)
  refine ng_aload (x := h0) 0 rfl dX11_init_0 ?_
  refine ng_obj nw196 nw197 nw198 ⟨by decide, by decide⟩ (by decide) dX11_init_1 ?_
  refine ng_aload (x := h0) 0 rfl dX11_init_4 ?_
  refine ng_new (ci := 10) (q := (RX10, TX10, 6)) (fs := [.null, .int 0, .int 0, .int 0, .int 0, .int 0]) (ty := tyX10) rfl uX10 tyX10_ok nw199 nw200 nw175 (fun j (hj : j < 6) => by rcases (show j = 0 ∨ j = 1 ∨ j = 2 ∨ j = 3 ∨ j = 4 ∨ j = 5 by omega) with rfl | rfl | rfl | rfl | rfl | rfl <;> rfl) (Nat.le_of_ble_eq_true rfl) (Nat.le_of_ble_eq_true rfl) dX11_init_5 (fun q1 => ?_)
  refine ng_dup rfl dX11_init_8 ?_
  refine ng_call (As := []) mi_X11_9 ⟨rfl, nw202⟩ (nm_X10_init cs q1) (by decide) rfl rfl (Nat.le_of_ble_eq_true rfl) (Nat.le_of_ble_eq_true rfl) (Nat.le_of_ble_eq_true rfl) dX11_init_9 ?_
  rintro _ ⟨q2_1, rfl⟩
  refine ng_put (q0 := 0) (ws' := ((h0, .inr (11, [.ref q1, .null, .null, .null, .null, .null, .null, .null, .null, .null, .null, .int 0])) :: []) ++ (w_X10 cs q1 q2_1)) fq_X11_10 rfl rfl rfl rfl (Nat.le_of_ble_eq_true rfl) rfl dX11_init_12 ?_
  refine ng_aload (x := h0) 0 rfl dX11_init_15 ?_
  refine ng_new (ci := 0) (q := (RX0, TX0, 3)) (fs := [.null, .null, .int 0]) (ty := tyX0) rfl uX0 tyX0_ok nw228 nw229 nw176 (fun j (hj : j < 3) => by rcases (show j = 0 ∨ j = 1 ∨ j = 2 by omega) with rfl | rfl | rfl <;> rfl) (Nat.le_of_ble_eq_true rfl) (Nat.le_of_ble_eq_true rfl) dX11_init_16 (fun q3 => ?_)
  refine ng_dup rfl dX11_init_19 ?_
  refine ng_call (As := []) mi_X11_18 ⟨rfl, nw231⟩ (nm_X0_init cs q3) (by decide) rfl rfl (Nat.le_of_ble_eq_true rfl) (Nat.le_of_ble_eq_true rfl) (Nat.le_of_ble_eq_true rfl) dX11_init_20 ?_
  rintro _ ⟨a4, rfl⟩
  refine ng_put (q0 := 0) (ws' := ((h0, .inr (11, [.ref q1, .ref q3, .null, .null, .null, .null, .null, .null, .null, .null, .null, .int 0])) :: ([] ++ (w_X10 cs q1 q2_1))) ++ (w_X0 cs q3 a4)) fq_X11_19 rfl rfl rfl rfl (Nat.le_of_ble_eq_true rfl) rfl dX11_init_23 ?_
  refine ng_aload (x := h0) 0 rfl dX11_init_26 ?_
  refine ng_new (ci := 7) (q := (RX7, TX7, 3)) (fs := [.null, .null, .int 0]) (ty := tyX7) rfl uX7 tyX7_ok nw295 nw296 nw179 (fun j (hj : j < 3) => by rcases (show j = 0 ∨ j = 1 ∨ j = 2 by omega) with rfl | rfl | rfl <;> rfl) (Nat.le_of_ble_eq_true rfl) (Nat.le_of_ble_eq_true rfl) dX11_init_27 (fun q5 => ?_)
  refine ng_dup rfl dX11_init_30 ?_
  refine ng_aload (x := h0) 0 rfl dX11_init_31 ?_
  refine ng_get (q0 := 0) (v := .ref q1) fq_X11_10 rfl rfl dX11_init_32 ?_
  refine ng_call (As := [.ref q1]) mi_X11_25 ⟨rfl, nw298⟩ (nm_X7_init cs q5 q1) (by decide) rfl rfl (Nat.le_of_ble_eq_true rfl) (Nat.le_of_ble_eq_true rfl) (Nat.le_of_ble_eq_true rfl) dX11_init_35 ?_
  rintro _ ⟨q6_1, rfl⟩
  refine ng_put (q0 := 0) (ws' := ((h0, .inr (11, [.ref q1, .ref q3, .ref q5, .null, .null, .null, .null, .null, .null, .null, .null, .int 0])) :: (([] ++ (w_X10 cs q1 q2_1)) ++ (w_X0 cs q3 a4))) ++ (w_X7 cs q5 q1 q6_1)) fq_X11_28 rfl rfl rfl rfl (Nat.le_of_ble_eq_true rfl) rfl dX11_init_38 ?_
  refine ng_aload (x := h0) 0 rfl dX11_init_41 ?_
  refine ng_new (ci := 4) (q := (RX4, TX4, 2)) (fs := [.null, .null]) (ty := tyX4) rfl uX4 tyX4_ok nw313 nw314 nw180 (fun j (hj : j < 2) => by rcases (show j = 0 ∨ j = 1 by omega) with rfl | rfl <;> rfl) (Nat.le_of_ble_eq_true rfl) (Nat.le_of_ble_eq_true rfl) dX11_init_42 (fun q7 => ?_)
  refine ng_dup rfl dX11_init_45 ?_
  refine ng_aload (x := h0) 0 rfl dX11_init_46 ?_
  refine ng_get (q0 := 0) (v := .ref q1) fq_X11_10 rfl rfl dX11_init_47 ?_
  refine ng_call (As := [.ref q1]) mi_X11_34 ⟨rfl, nw316⟩ (nm_X4_init cs q7 q1) (by decide) rfl rfl (Nat.le_of_ble_eq_true rfl) (Nat.le_of_ble_eq_true rfl) (Nat.le_of_ble_eq_true rfl) dX11_init_50 ?_
  rintro _ ⟨q8_1, q8_2, q8_3, rfl⟩
  refine ng_put (q0 := 0) (ws' := ((h0, .inr (11, [.ref q1, .ref q3, .ref q5, .ref q7, .null, .null, .null, .null, .null, .null, .null, .int 0])) :: ((([] ++ (w_X10 cs q1 q2_1)) ++ (w_X0 cs q3 a4)) ++ (w_X7 cs q5 q1 q6_1))) ++ (w_X4 cs q7 q1 q8_1 q8_2 q8_3)) fq_X11_35 rfl rfl rfl rfl (Nat.le_of_ble_eq_true rfl) rfl dX11_init_53 ?_
  refine ng_aload (x := h0) 0 rfl dX11_init_56 ?_
  refine ng_new (ci := 6) (q := (RX6, TX6, 2)) (fs := [.null, .null]) (ty := tyX6) rfl uX6 tyX6_ok nw329 nw330 nw181 (fun j (hj : j < 2) => by rcases (show j = 0 ∨ j = 1 by omega) with rfl | rfl <;> rfl) (Nat.le_of_ble_eq_true rfl) (Nat.le_of_ble_eq_true rfl) dX11_init_57 (fun q9 => ?_)
  refine ng_dup rfl dX11_init_60 ?_
  refine ng_aload (x := h0) 0 rfl dX11_init_61 ?_
  refine ng_get (q0 := 0) (v := .ref q1) fq_X11_10 rfl rfl dX11_init_62 ?_
  refine ng_call (As := [.ref q1]) mi_X11_41 ⟨rfl, nw332⟩ (nm_X6_init cs q9 q1) (by decide) rfl rfl (Nat.le_of_ble_eq_true rfl) (Nat.le_of_ble_eq_true rfl) (Nat.le_of_ble_eq_true rfl) dX11_init_65 ?_
  rintro _ ⟨q10_1, q10_2, q10_3, q10_4, q10_5, q10_6, q10_7, q10_8, rfl⟩
  refine ng_put (q0 := 0) (ws' := ((h0, .inr (11, [.ref q1, .ref q3, .ref q5, .ref q7, .ref q9, .null, .null, .null, .null, .null, .null, .int 0])) :: (((([] ++ (w_X10 cs q1 q2_1)) ++ (w_X0 cs q3 a4)) ++ (w_X7 cs q5 q1 q6_1)) ++ (w_X4 cs q7 q1 q8_1 q8_2 q8_3))) ++ (w_X6 cs q9 q1 q10_1 q10_2 q10_3 q10_4 q10_5 q10_6 q10_7 q10_8)) fq_X11_42 rfl rfl rfl rfl (Nat.le_of_ble_eq_true rfl) rfl dX11_init_68 ?_
  refine ng_aload (x := h0) 0 rfl dX11_init_71 ?_
  refine ng_new (ci := 5) (q := (RX5, TX5, 9)) (fs := [.null, .null, .null, .int 0, .null, .null, .int 0, .null, .null]) (ty := tyX5) rfl uX5 tyX5_ok nw379 nw336 nw182 (fun j (hj : j < 9) => by rcases (show j = 0 ∨ j = 1 ∨ j = 2 ∨ j = 3 ∨ j = 4 ∨ j = 5 ∨ j = 6 ∨ j = 7 ∨ j = 8 by omega) with rfl | rfl | rfl | rfl | rfl | rfl | rfl | rfl | rfl <;> rfl) (Nat.le_of_ble_eq_true rfl) (Nat.le_of_ble_eq_true rfl) dX11_init_72 (fun q11 => ?_)
  refine ng_dup rfl dX11_init_75 ?_
  refine ng_call (As := []) mi_X11_48 ⟨rfl, nw338⟩ (nm_X5_init cs q11) (by decide) rfl rfl (Nat.le_of_ble_eq_true rfl) (Nat.le_of_ble_eq_true rfl) (Nat.le_of_ble_eq_true rfl) dX11_init_76 ?_
  rintro _ ⟨q12_1, q12_2, q12_3, q12_4, q12_5, q12_6, q12_7, rfl⟩
  refine ng_put (q0 := 0) (ws' := ((h0, .inr (11, [.ref q1, .ref q3, .ref q5, .ref q7, .ref q9, .ref q11, .null, .null, .null, .null, .null, .int 0])) :: ((((([] ++ (w_X10 cs q1 q2_1)) ++ (w_X0 cs q3 a4)) ++ (w_X7 cs q5 q1 q6_1)) ++ (w_X4 cs q7 q1 q8_1 q8_2 q8_3)) ++ (w_X6 cs q9 q1 q10_1 q10_2 q10_3 q10_4 q10_5 q10_6 q10_7 q10_8))) ++ (w_X5 cs q11 q12_1 q12_2 q12_3 q12_4 q12_5 q12_6 q12_7)) fq_X11_49 rfl rfl rfl rfl (Nat.le_of_ble_eq_true rfl) rfl dX11_init_79 ?_
  refine ng_aload (x := h0) 0 rfl dX11_init_82 ?_
  refine ng_new (ci := 2) (q := (RX2, TX2, 6)) (fs := [.null, .null, .int 0, .int 0, .int 0, .int 0]) (ty := tyX2) rfl uX2 tyX2_ok nw381 nw382 nw183 (fun j (hj : j < 6) => by rcases (show j = 0 ∨ j = 1 ∨ j = 2 ∨ j = 3 ∨ j = 4 ∨ j = 5 by omega) with rfl | rfl | rfl | rfl | rfl | rfl <;> rfl) (Nat.le_of_ble_eq_true rfl) (Nat.le_of_ble_eq_true rfl) dX11_init_83 (fun q13 => ?_)
  refine ng_dup rfl dX11_init_86 ?_
  refine ng_aload (x := h0) 0 rfl dX11_init_87 ?_
  refine ng_get (q0 := 0) (v := .ref q3) fq_X11_19 rfl rfl dX11_init_88 ?_
  refine ng_aload (x := h0) 0 rfl dX11_init_91 ?_
  refine ng_get (q0 := 0) (v := .ref q11) fq_X11_49 rfl rfl dX11_init_92 ?_
  refine ng_call (As := [.ref q3, .ref q11]) mi_X11_55 ⟨rfl, nw384⟩ (nm_X2_init cs q13 q3 q11) (by decide) rfl rfl (Nat.le_of_ble_eq_true rfl) (Nat.le_of_ble_eq_true rfl) (Nat.le_of_ble_eq_true rfl) dX11_init_95 ?_
  rintro _ rfl
  refine ng_put (q0 := 0) (ws' := ((h0, .inr (11, [.ref q1, .ref q3, .ref q5, .ref q7, .ref q9, .ref q11, .ref q13, .null, .null, .null, .null, .int 0])) :: (((((([] ++ (w_X10 cs q1 q2_1)) ++ (w_X0 cs q3 a4)) ++ (w_X7 cs q5 q1 q6_1)) ++ (w_X4 cs q7 q1 q8_1 q8_2 q8_3)) ++ (w_X6 cs q9 q1 q10_1 q10_2 q10_3 q10_4 q10_5 q10_6 q10_7 q10_8)) ++ (w_X5 cs q11 q12_1 q12_2 q12_3 q12_4 q12_5 q12_6 q12_7))) ++ (w_X2 cs q13 q3 q11)) fq_X11_58 rfl rfl rfl rfl (Nat.le_of_ble_eq_true rfl) rfl dX11_init_98 ?_
  refine ng_aload (x := h0) 0 rfl dX11_init_101 ?_
  refine ng_new (ci := 9) (q := (RX9, TX9, 3)) (fs := [.null, .null, .null]) (ty := tyX9) rfl uX9 tyX9_ok nw406 nw407 nw184 (fun j (hj : j < 3) => by rcases (show j = 0 ∨ j = 1 ∨ j = 2 by omega) with rfl | rfl | rfl <;> rfl) (Nat.le_of_ble_eq_true rfl) (Nat.le_of_ble_eq_true rfl) dX11_init_102 (fun q15 => ?_)
  refine ng_dup rfl dX11_init_105 ?_
  refine ng_aload (x := h0) 0 rfl dX11_init_106 ?_
  refine ng_get (q0 := 0) (v := .ref q3) fq_X11_19 rfl rfl dX11_init_107 ?_
  refine ng_call (As := [.ref q3]) mi_X11_64 ⟨rfl, nw409⟩ (nm_X9_init cs q15 q3) (by decide) rfl rfl (Nat.le_of_ble_eq_true rfl) (Nat.le_of_ble_eq_true rfl) (Nat.le_of_ble_eq_true rfl) dX11_init_110 ?_
  rintro _ ⟨q16_1, q16_2, rfl⟩
  refine ng_put (q0 := 0) (ws' := ((h0, .inr (11, [.ref q1, .ref q3, .ref q5, .ref q7, .ref q9, .ref q11, .ref q13, .ref q15, .null, .null, .null, .int 0])) :: ((((((([] ++ (w_X10 cs q1 q2_1)) ++ (w_X0 cs q3 a4)) ++ (w_X7 cs q5 q1 q6_1)) ++ (w_X4 cs q7 q1 q8_1 q8_2 q8_3)) ++ (w_X6 cs q9 q1 q10_1 q10_2 q10_3 q10_4 q10_5 q10_6 q10_7 q10_8)) ++ (w_X5 cs q11 q12_1 q12_2 q12_3 q12_4 q12_5 q12_6 q12_7)) ++ (w_X2 cs q13 q3 q11))) ++ (w_X9 cs q15 q3 q16_1 q16_2)) fq_X11_67 rfl rfl rfl rfl (Nat.le_of_ble_eq_true rfl) rfl dX11_init_113 ?_
  refine ng_aload (x := h0) 0 rfl dX11_init_116 ?_
  refine ng_new (ci := 8) (q := (RX8, TX8, 6)) (fs := [.null, .null, .null, .null, .int 0, .int 0]) (ty := tyX8) rfl uX8 tyX8_ok nw422 nw423 nw185 (fun j (hj : j < 6) => by rcases (show j = 0 ∨ j = 1 ∨ j = 2 ∨ j = 3 ∨ j = 4 ∨ j = 5 by omega) with rfl | rfl | rfl | rfl | rfl | rfl <;> rfl) (Nat.le_of_ble_eq_true rfl) (Nat.le_of_ble_eq_true rfl) dX11_init_117 (fun q17 => ?_)
  refine ng_dup rfl dX11_init_120 ?_
  refine ng_call (As := []) mi_X11_73 ⟨rfl, nw425⟩ (nm_X8_init cs q17) (by decide) rfl rfl (Nat.le_of_ble_eq_true rfl) (Nat.le_of_ble_eq_true rfl) (Nat.le_of_ble_eq_true rfl) dX11_init_121 ?_
  rintro _ ⟨q18_1, q18_2, q18_3, q18_4, rfl⟩
  refine ng_put (q0 := 0) (ws' := ((h0, .inr (11, [.ref q1, .ref q3, .ref q5, .ref q7, .ref q9, .ref q11, .ref q13, .ref q15, .ref q17, .null, .null, .int 0])) :: (((((((([] ++ (w_X10 cs q1 q2_1)) ++ (w_X0 cs q3 a4)) ++ (w_X7 cs q5 q1 q6_1)) ++ (w_X4 cs q7 q1 q8_1 q8_2 q8_3)) ++ (w_X6 cs q9 q1 q10_1 q10_2 q10_3 q10_4 q10_5 q10_6 q10_7 q10_8)) ++ (w_X5 cs q11 q12_1 q12_2 q12_3 q12_4 q12_5 q12_6 q12_7)) ++ (w_X2 cs q13 q3 q11)) ++ (w_X9 cs q15 q3 q16_1 q16_2))) ++ (w_X8 cs q17 q18_1 q18_2 q18_3 q18_4)) fq_X11_74 rfl rfl rfl rfl (Nat.le_of_ble_eq_true rfl) rfl dX11_init_124 ?_
  refine ng_aload (x := h0) 0 rfl dX11_init_127 ?_
  refine ng_new (ci := 8) (q := (RX8, TX8, 6)) (fs := [.null, .null, .null, .null, .int 0, .int 0]) (ty := tyX8) rfl uX8 tyX8_ok nw422 nw423 nw185 (fun j (hj : j < 6) => by rcases (show j = 0 ∨ j = 1 ∨ j = 2 ∨ j = 3 ∨ j = 4 ∨ j = 5 by omega) with rfl | rfl | rfl | rfl | rfl | rfl <;> rfl) (Nat.le_of_ble_eq_true rfl) (Nat.le_of_ble_eq_true rfl) dX11_init_128 (fun q19 => ?_)
  refine ng_dup rfl dX11_init_131 ?_
  refine ng_call (As := []) mi_X11_73 ⟨rfl, nw425⟩ (nm_X8_init cs q19) (by decide) rfl rfl (Nat.le_of_ble_eq_true rfl) (Nat.le_of_ble_eq_true rfl) (Nat.le_of_ble_eq_true rfl) dX11_init_132 ?_
  rintro _ ⟨q20_1, q20_2, q20_3, q20_4, rfl⟩
  refine ng_put (q0 := 0) (ws' := ((h0, .inr (11, [.ref q1, .ref q3, .ref q5, .ref q7, .ref q9, .ref q11, .ref q13, .ref q15, .ref q17, .ref q19, .null, .int 0])) :: ((((((((([] ++ (w_X10 cs q1 q2_1)) ++ (w_X0 cs q3 a4)) ++ (w_X7 cs q5 q1 q6_1)) ++ (w_X4 cs q7 q1 q8_1 q8_2 q8_3)) ++ (w_X6 cs q9 q1 q10_1 q10_2 q10_3 q10_4 q10_5 q10_6 q10_7 q10_8)) ++ (w_X5 cs q11 q12_1 q12_2 q12_3 q12_4 q12_5 q12_6 q12_7)) ++ (w_X2 cs q13 q3 q11)) ++ (w_X9 cs q15 q3 q16_1 q16_2)) ++ (w_X8 cs q17 q18_1 q18_2 q18_3 q18_4))) ++ (w_X8 cs q19 q20_1 q20_2 q20_3 q20_4)) fq_X11_78 rfl rfl rfl rfl (Nat.le_of_ble_eq_true rfl) rfl dX11_init_135 ?_
  refine ng_aload (x := h0) 0 rfl dX11_init_138 ?_
  refine ng_new (ci := 8) (q := (RX8, TX8, 6)) (fs := [.null, .null, .null, .null, .int 0, .int 0]) (ty := tyX8) rfl uX8 tyX8_ok nw422 nw423 nw185 (fun j (hj : j < 6) => by rcases (show j = 0 ∨ j = 1 ∨ j = 2 ∨ j = 3 ∨ j = 4 ∨ j = 5 by omega) with rfl | rfl | rfl | rfl | rfl | rfl <;> rfl) (Nat.le_of_ble_eq_true rfl) (Nat.le_of_ble_eq_true rfl) dX11_init_139 (fun q21 => ?_)
  refine ng_dup rfl dX11_init_142 ?_
  refine ng_call (As := []) mi_X11_73 ⟨rfl, nw425⟩ (nm_X8_init cs q21) (by decide) rfl rfl (Nat.le_of_ble_eq_true rfl) (Nat.le_of_ble_eq_true rfl) (Nat.le_of_ble_eq_true rfl) dX11_init_143 ?_
  rintro _ ⟨q22_1, q22_2, q22_3, q22_4, rfl⟩
  refine ng_put (q0 := 0) (ws' := ((h0, .inr (11, [.ref q1, .ref q3, .ref q5, .ref q7, .ref q9, .ref q11, .ref q13, .ref q15, .ref q17, .ref q19, .ref q21, .int 0])) :: (((((((((([] ++ (w_X10 cs q1 q2_1)) ++ (w_X0 cs q3 a4)) ++ (w_X7 cs q5 q1 q6_1)) ++ (w_X4 cs q7 q1 q8_1 q8_2 q8_3)) ++ (w_X6 cs q9 q1 q10_1 q10_2 q10_3 q10_4 q10_5 q10_6 q10_7 q10_8)) ++ (w_X5 cs q11 q12_1 q12_2 q12_3 q12_4 q12_5 q12_6 q12_7)) ++ (w_X2 cs q13 q3 q11)) ++ (w_X9 cs q15 q3 q16_1 q16_2)) ++ (w_X8 cs q17 q18_1 q18_2 q18_3 q18_4)) ++ (w_X8 cs q19 q20_1 q20_2 q20_3 q20_4))) ++ (w_X8 cs q21 q22_1 q22_2 q22_3 q22_4)) fq_X11_81 rfl rfl rfl rfl (Nat.le_of_ble_eq_true rfl) rfl dX11_init_146 ?_
  refine ng_aload (x := h0) 0 rfl dX11_init_149 ?_
  refine ng_iconst (x := 0) (by decide) dX11_init_150 ?_
  refine ng_put (q0 := 0) (ws' := ((h0, .inr (11, [.ref q1, .ref q3, .ref q5, .ref q7, .ref q9, .ref q11, .ref q13, .ref q15, .ref q17, .ref q19, .ref q21, .int 0])) :: (((((((((([] ++ (w_X10 cs q1 q2_1)) ++ (w_X0 cs q3 a4)) ++ (w_X7 cs q5 q1 q6_1)) ++ (w_X4 cs q7 q1 q8_1 q8_2 q8_3)) ++ (w_X6 cs q9 q1 q10_1 q10_2 q10_3 q10_4 q10_5 q10_6 q10_7 q10_8)) ++ (w_X5 cs q11 q12_1 q12_2 q12_3 q12_4 q12_5 q12_6 q12_7)) ++ (w_X2 cs q13 q3 q11)) ++ (w_X9 cs q15 q3 q16_1 q16_2)) ++ (w_X8 cs q17 q18_1 q18_2 q18_3 q18_4)) ++ (w_X8 cs q19 q20_1 q20_2 q20_3 q20_4))) ++ (w_X8 cs q21 q22_1 q22_2 q22_3 q22_4)) fq_X11_84 rfl rfl rfl rfl (Nat.le_of_ble_eq_true rfl) rfl dX11_init_151 ?_
  refine ng_vret ⟨(al11 q1 q2_1 q3 q5 q6_1 q7 q8_1 q8_2 q8_3 q9 q10_1 q10_2 q10_3 q10_4 q10_5 q10_6 q10_7 q10_8 q11 q12_1 q12_2 q12_3 q12_4 q12_5 q12_6 q12_7 q13 q15 q16_1 q16_2 q17 q18_1 q18_2 q18_3 q18_4 q19 q20_1 q20_2 q20_3 q20_4 q21 q22_1 q22_2 q22_3 q22_4 a4), ?_⟩ (Nat.le_of_ble_eq_true rfl) (Nat.le_of_ble_eq_true rfl) dX11_init_154
  rw [w_X11, w_X0_cg (a := a4) (a' := (al11 q1 q2_1 q3 q5 q6_1 q7 q8_1 q8_2 q8_3 q9 q10_1 q10_2 q10_3 q10_4 q10_5 q10_6 q10_7 q10_8 q11 q12_1 q12_2 q12_3 q12_4 q12_5 q12_6 q12_7 q13 q15 q16_1 q16_2 q17 q18_1 q18_2 q18_3 q18_4 q19 q20_1 q20_2 q20_3 q20_4 q21 q22_1 q22_2 q22_3 q22_4 a4)) (fun k hk => by unfold al11; rw [if_neg (by omega), if_neg (by omega), if_neg (by omega), if_neg (by omega), if_neg (by omega), if_neg (by omega), if_neg (by omega), if_neg (by omega), if_neg (by omega), if_neg (by omega), if_neg (by omega), if_neg (by omega), if_neg (by omega), if_neg (by omega), if_neg (by omega), if_neg (by omega), if_neg (by omega), if_neg (by omega), if_neg (by omega), if_neg (by omega), if_neg (by omega), if_neg (by omega), if_neg (by omega), if_neg (by omega), if_neg (by omega), if_neg (by omega), if_neg (by omega), if_neg (by omega), if_neg (by omega), if_neg (by omega), if_neg (by omega), if_neg (by omega), if_neg (by omega), if_neg (by omega), if_neg (by omega), if_neg (by omega), if_neg (by omega), if_neg (by omega), if_neg (by omega), if_neg (by omega), if_neg (by omega), if_neg (by omega), if_neg (by omega), if_neg (by omega), if_neg (by omega)])]
  rfl

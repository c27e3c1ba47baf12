theorem up8 (a : Nat → Nat) : va_up (va_up (va_up (va_up (va_up (va_up (va_up (va_up (fun _ => none) 0 (some (a 50))) 1 (some (a 53))) 2 (some (a 56))) 3 (some (a 59))) 4 (some (a 62))) 5 (some (a 65))) 6 (some (a 68))) 7 (some (a 71)) = fun j => (([50, 53, 56, 59, 62, 65, 68, 71] : List Nat)[j]?).map a := by
  funext j
  by_cases h : j < 8
  · rcases (show j = 0 ∨ j = 1 ∨ j = 2 ∨ j = 3 ∨ j = 4 ∨ j = 5 ∨ j = 6 ∨ j = 7 by omega) with rfl | rfl | rfl | rfl | rfl | rfl | rfl | rfl <;> rfl
  · rw [List.getElem?_eq_none (by simp; omega)]
    simp only [va_up]
    rw [if_neg (by omega), if_neg (by omega), if_neg (by omega), if_neg (by omega), if_neg (by omega), if_neg (by omega), if_neg (by omega), if_neg (by omega)]
    rfl
def w_X0 (cs : Nat → ClassId) (h0 : Nat) (a : Nat → Nat) : va_W := (h0, .inr (0, [.ref (a 4), .ref (a 5), .int 1])) :: (((((((((([] ++ [(a 4, .inl (cs 3, 8, .inr (.inr (.inr (.inr (fun j => (([50, 53, 56, 59, 62, 65, 68, 71] : List Nat)[j]?).map a))))))]) ++ w_X3 cs (a 5) (a 6) (a 7)) ++ w_X1 cs (a 50) (a 51) (a 52)) ++ w_X1 cs (a 53) (a 54) (a 55)) ++ w_X1 cs (a 56) (a 57) (a 58)) ++ w_X1 cs (a 59) (a 60) (a 61)) ++ w_X1 cs (a 62) (a 63) (a 64)) ++ w_X1 cs (a 65) (a 66) (a 67)) ++ w_X1 cs (a 68) (a 69) (a 70)) ++ w_X1 cs (a 71) (a 72) (a 73))
set_option maxRecDepth 100000 in
set_option maxHeartbeats 4000000 in
theorem nm_X0_init (cs : Nat → ClassId) (h0 : Nat) : NM iX0_init 2 28 1979 [.ref h0] cs [(h0, .inr (0, [.null, .null, .int 0]))] (fun w => ∃ a : Nat → Nat, w = w_X0 cs h0 a) := by
  refine nm_of (by decide +kernel) rfl (Nat.le_of_ble_eq_true rfl) (fun dC dI sz => ?_)
  refine ng_aload (x := h0) 0 rfl dX0_init_0 ?_
  refine ng_obj nw233 nw197 nw198 ⟨by decide, by decide⟩ (by decide) dX0_init_1 ?_
  refine ng_aload (x := h0) 0 rfl dX0_init_4 ?_
  refine ng_bipush (x := 8) (by decide) dX0_init_5 ?_
  refine ng_newq (n' := 8) nw234 (by decide) (by decide) (Nat.le_of_ble_eq_true rfl) (Nat.le_of_ble_eq_true rfl) (Nat.le_of_ble_eq_true rfl) dX0_init_7 (fun q1 => ?_)
  refine ng_put (q0 := 0) (ws' := ((h0, .inr (0, [.ref q1, .null, .int 0])) :: []) ++ [(q1, .inl (cs 3, 8, .inr (.inr (.inr (.inr (fun _ => none))))))]) fq_X0_11 rfl rfl rfl rfl (Nat.le_of_ble_eq_true rfl) rfl dX0_init_10 ?_
  refine ng_aload (x := h0) 0 rfl dX0_init_13 ?_
  refine ng_new (ci := 3) (q := (RX3, TX3, 3)) (fs := [.null, .null, .int 0]) (ty := tyX3) rfl uX3 tyX3_ok nw236 nw237 nw177 (fun j (hj : j < 3) => by rcases (show j = 0 ∨ j = 1 ∨ j = 2 by omega) with rfl | rfl | rfl <;> rfl) (Nat.le_of_ble_eq_true rfl) (Nat.le_of_ble_eq_true rfl) dX0_init_14 (fun q2 => ?_)
  refine ng_dup rfl dX0_init_17 ?_
  refine ng_call (As := []) mi_X0_19 ⟨rfl, nw239⟩ (nm_X3_init cs q2) (by decide) rfl rfl (Nat.le_of_ble_eq_true rfl) (Nat.le_of_ble_eq_true rfl) (Nat.le_of_ble_eq_true rfl) dX0_init_18 ?_
  rintro _ ⟨q3_1, q3_2, rfl⟩
  refine ng_put (q0 := 0) (ws' := ((h0, .inr (0, [.ref q1, .ref q2, .int 0])) :: ([] ++ [(q1, .inl (cs 3, 8, .inr (.inr (.inr (.inr (fun _ => none))))))])) ++ (w_X3 cs q2 q3_1 q3_2)) fq_X0_20 rfl rfl rfl rfl (Nat.le_of_ble_eq_true rfl) rfl dX0_init_21 ?_
  refine ng_aload (x := h0) 0 rfl dX0_init_24 ?_
  refine ng_iconst (x := 1) (by decide) dX0_init_25 ?_
  refine ng_put (q0 := 0) (ws' := ((h0, .inr (0, [.ref q1, .ref q2, .int 1])) :: ([] ++ [(q1, .inl (cs 3, 8, .inr (.inr (.inr (.inr (fun _ => none))))))])) ++ (w_X3 cs q2 q3_1 q3_2)) fq_X0_24 rfl rfl rfl rfl (Nat.le_of_ble_eq_true rfl) rfl dX0_init_26 ?_
  refine ng_iconst (x := 0) (by decide) dX0_init_29 ?_
  refine ng_istore (lv' := [(1, .int 0), (0, .ref h0)]) (by decide) rfl dX0_init_30 ?_
  refine ng_iload (x := 0) 0 rfl dX0_init_31 ?_
  refine ng_bipush (x := 8) (by decide) dX0_init_32 ?_
  refine ng_geF (tgt := 56) dX0_init_34 (by decide) (by decide) ?_
  refine ng_aload (x := h0) 1 rfl dX0_init_37 ?_
  refine ng_get (q0 := 0) (v := .ref q1) fq_X0_11 rfl rfl dX0_init_38 ?_
  refine ng_iload (x := 0) 0 rfl dX0_init_41 ?_
  refine ng_new (ci := 1) (q := (RX1, TX1, 5)) (fs := [.null, .null, .int 0, .int 0, .int 0]) (ty := tyX1) rfl uX1 tyX1_ok nw234 nw254 nw178 (fun j (hj : j < 5) => by rcases (show j = 0 ∨ j = 1 ∨ j = 2 ∨ j = 3 ∨ j = 4 by omega) with rfl | rfl | rfl | rfl | rfl <;> rfl) (Nat.le_of_ble_eq_true rfl) (Nat.le_of_ble_eq_true rfl) dX0_init_42 (fun q4 => ?_)
  refine ng_dup rfl dX0_init_45 ?_
  refine ng_call (As := []) mi_X0_28 ⟨rfl, nw256⟩ (nm_X1_init cs q4) (by decide) rfl rfl (Nat.le_of_ble_eq_true rfl) (Nat.le_of_ble_eq_true rfl) (Nat.le_of_ble_eq_true rfl) dX0_init_46 ?_
  rintro _ ⟨q5_1, q5_2, rfl⟩
  refine ng_astq (q0 := 1) (qk := 5) (j := 0) (ws' := ((h0, .inr (0, [.ref q1, .ref q2, .int 1])) :: (([] ++ [(q1, .inl (cs 3, 8, .inr (.inr (.inr (.inr (va_up (fun _ => none) 0 (some q4)))))))]) ++ (w_X3 cs q2 q3_1 q3_2))) ++ (w_X1 cs q4 q5_1 q5_2)) rfl rfl (by decide) (by decide) rfl dX0_init_49 ?_
  refine ng_iinc (k := 0) (y := 1) (lv' := [(1, .int 1), (0, .ref h0)]) rfl (by decide) (by decide) rfl dX0_init_50 ?_
  refine ng_goto (tgt := 31) dX0_init_53 (by decide) ?_
  refine ng_iload (x := 1) 0 rfl dX0_init_31 ?_
  refine ng_bipush (x := 8) (by decide) dX0_init_32 ?_
  refine ng_geF (tgt := 56) dX0_init_34 (by decide) (by decide) ?_
  refine ng_aload (x := h0) 1 rfl dX0_init_37 ?_
  refine ng_get (q0 := 0) (v := .ref q1) fq_X0_11 rfl rfl dX0_init_38 ?_
  refine ng_iload (x := 1) 0 rfl dX0_init_41 ?_
  refine ng_new (ci := 1) (q := (RX1, TX1, 5)) (fs := [.null, .null, .int 0, .int 0, .int 0]) (ty := tyX1) rfl uX1 tyX1_ok nw234 nw254 nw178 (fun j (hj : j < 5) => by rcases (show j = 0 ∨ j = 1 ∨ j = 2 ∨ j = 3 ∨ j = 4 by omega) with rfl | rfl | rfl | rfl | rfl <;> rfl) (Nat.le_of_ble_eq_true rfl) (Nat.le_of_ble_eq_true rfl) dX0_init_42 (fun q6 => ?_)
  refine ng_dup rfl dX0_init_45 ?_
  refine ng_call (As := []) mi_X0_28 ⟨rfl, nw256⟩ (nm_X1_init cs q6) (by decide) rfl rfl (Nat.le_of_ble_eq_true rfl) (Nat.le_of_ble_eq_true rfl) (Nat.le_of_ble_eq_true rfl) dX0_init_46 ?_
  rintro _ ⟨q7_1, q7_2, rfl⟩
  refine ng_astq (q0 := 1) (qk := 8) (j := 1) (ws' := ((h0, .inr (0, [.ref q1, .ref q2, .int 1])) :: ((([] ++ [(q1, .inl (cs 3, 8, .inr (.inr (.inr (.inr (va_up (va_up (fun _ => none) 0 (some q4)) 1 (some q6)))))))]) ++ (w_X3 cs q2 q3_1 q3_2)) ++ (w_X1 cs q4 q5_1 q5_2))) ++ (w_X1 cs q6 q7_1 q7_2)) rfl rfl (by decide) (by decide) rfl dX0_init_49 ?_
  refine ng_iinc (k := 0) (y := 2) (lv' := [(1, .int 2), (0, .ref h0)]) rfl (by decide) (by decide) rfl dX0_init_50 ?_
  refine ng_goto (tgt := 31) dX0_init_53 (by decide) ?_
  refine ng_iload (x := 2) 0 rfl dX0_init_31 ?_
  refine ng_bipush (x := 8) (by decide) dX0_init_32 ?_
  refine ng_geF (tgt := 56) dX0_init_34 (by decide) (by decide) ?_
  refine ng_aload (x := h0) 1 rfl dX0_init_37 ?_
  refine ng_get (q0 := 0) (v := .ref q1) fq_X0_11 rfl rfl dX0_init_38 ?_
  refine ng_iload (x := 2) 0 rfl dX0_init_41 ?_
  refine ng_new (ci := 1) (q := (RX1, TX1, 5)) (fs := [.null, .null, .int 0, .int 0, .int 0]) (ty := tyX1) rfl uX1 tyX1_ok nw234 nw254 nw178 (fun j (hj : j < 5) => by rcases (show j = 0 ∨ j = 1 ∨ j = 2 ∨ j = 3 ∨ j = 4 by omega) with rfl | rfl | rfl | rfl | rfl <;> rfl) (Nat.le_of_ble_eq_true rfl) (Nat.le_of_ble_eq_true rfl) dX0_init_42 (fun q8 => ?_)
  refine ng_dup rfl dX0_init_45 ?_
  refine ng_call (As := []) mi_X0_28 ⟨rfl, nw256⟩ (nm_X1_init cs q8) (by decide) rfl rfl (Nat.le_of_ble_eq_true rfl) (Nat.le_of_ble_eq_true rfl) (Nat.le_of_ble_eq_true rfl) dX0_init_46 ?_
  rintro _ ⟨q9_1, q9_2, rfl⟩
  refine ng_astq (q0 := 1) (qk := 11) (j := 2) (ws' := ((h0, .inr (0, [.ref q1, .ref q2, .int 1])) :: (((([] ++ [(q1, .inl (cs 3, 8, .inr (.inr (.inr (.inr (va_up (va_up (va_up (fun _ => none) 0 (some q4)) 1 (some q6)) 2 (some q8)))))))]) ++ (w_X3 cs q2 q3_1 q3_2)) ++ (w_X1 cs q4 q5_1 q5_2)) ++ (w_X1 cs q6 q7_1 q7_2))) ++ (w_X1 cs q8 q9_1 q9_2)) rfl rfl (by decide) (by decide) rfl dX0_init_49 ?_
  refine ng_iinc (k := 0) (y := 3) (lv' := [(1, .int 3), (0, .ref h0)]) rfl (by decide) (by decide) rfl dX0_init_50 ?_
  refine ng_goto (tgt := 31) dX0_init_53 (by decide) ?_
  refine ng_iload (x := 3) 0 rfl dX0_init_31 ?_
  refine ng_bipush (x := 8) (by decide) dX0_init_32 ?_
  refine ng_geF (tgt := 56) dX0_init_34 (by decide) (by decide) ?_
  refine ng_aload (x := h0) 1 rfl dX0_init_37 ?_
  refine ng_get (q0 := 0) (v := .ref q1) fq_X0_11 rfl rfl dX0_init_38 ?_
  refine ng_iload (x := 3) 0 rfl dX0_init_41 ?_
  refine ng_new (ci := 1) (q := (RX1, TX1, 5)) (fs := [.null, .null, .int 0, .int 0, .int 0]) (ty := tyX1) rfl uX1 tyX1_ok nw234 nw254 nw178 (fun j (hj : j < 5) => by rcases (show j = 0 ∨ j = 1 ∨ j = 2 ∨ j = 3 ∨ j = 4 by omega) with rfl | rfl | rfl | rfl | rfl <;> rfl) (Nat.le_of_ble_eq_true rfl) (Nat.le_of_ble_eq_true rfl) dX0_init_42 (fun q10 => ?_)
  refine ng_dup rfl dX0_init_45 ?_
  refine ng_call (As := []) mi_X0_28 ⟨rfl, nw256⟩ (nm_X1_init cs q10) (by decide) rfl rfl (Nat.le_of_ble_eq_true rfl) (Nat.le_of_ble_eq_true rfl) (Nat.le_of_ble_eq_true rfl) dX0_init_46 ?_
  rintro _ ⟨q11_1, q11_2, rfl⟩
  refine ng_astq (q0 := 1) (qk := 14) (j := 3) (ws' := ((h0, .inr (0, [.ref q1, .ref q2, .int 1])) :: ((((([] ++ [(q1, .inl (cs 3, 8, .inr (.inr (.inr (.inr (va_up (va_up (va_up (va_up (fun _ => none) 0 (some q4)) 1 (some q6)) 2 (some q8)) 3 (some q10)))))))]) ++ (w_X3 cs q2 q3_1 q3_2)) ++ (w_X1 cs q4 q5_1 q5_2)) ++ (w_X1 cs q6 q7_1 q7_2)) ++ (w_X1 cs q8 q9_1 q9_2))) ++ (w_X1 cs q10 q11_1 q11_2)) rfl rfl (by decide) (by decide) rfl dX0_init_49 ?_
  refine ng_iinc (k := 0) (y := 4) (lv' := [(1, .int 4), (0, .ref h0)]) rfl (by decide) (by decide) rfl dX0_init_50 ?_
  refine ng_goto (tgt := 31) dX0_init_53 (by decide) ?_
  refine ng_iload (x := 4) 0 rfl dX0_init_31 ?_
  refine ng_bipush (x := 8) (by decide) dX0_init_32 ?_
  refine ng_geF (tgt := 56) dX0_init_34 (by decide) (by decide) ?_
  refine ng_aload (x := h0) 1 rfl dX0_init_37 ?_
  refine ng_get (q0 := 0) (v := .ref q1) fq_X0_11 rfl rfl dX0_init_38 ?_
  refine ng_iload (x := 4) 0 rfl dX0_init_41 ?_
  refine ng_new (ci := 1) (q := (RX1, TX1, 5)) (fs := [.null, .null, .int 0, .int 0, .int 0]) (ty := tyX1) rfl uX1 tyX1_ok nw234 nw254 nw178 (fun j (hj : j < 5) => by rcases (show j = 0 ∨ j = 1 ∨ j = 2 ∨ j = 3 ∨ j = 4 by omega) with rfl | rfl | rfl | rfl | rfl <;> rfl) (Nat.le_of_ble_eq_true rfl) (Nat.le_of_ble_eq_true rfl) dX0_init_42 (fun q12 => ?_)
  refine ng_dup rfl dX0_init_45 ?_
  refine ng_call (As := []) mi_X0_28 ⟨rfl, nw256⟩ (nm_X1_init cs q12) (by decide) rfl rfl (Nat.le_of_ble_eq_true rfl) (Nat.le_of_ble_eq_true rfl) (Nat.le_of_ble_eq_true rfl) dX0_init_46 ?_
  rintro _ ⟨q13_1, q13_2, rfl⟩
  refine ng_astq (q0 := 1) (qk := 17) (j := 4) (ws' := ((h0, .inr (0, [.ref q1, .ref q2, .int 1])) :: (((((([] ++ [(q1, .inl (cs 3, 8, .inr (.inr (.inr (.inr (va_up (va_up (va_up (va_up (va_up (fun _ => none) 0 (some q4)) 1 (some q6)) 2 (some q8)) 3 (some q10)) 4 (some q12)))))))]) ++ (w_X3 cs q2 q3_1 q3_2)) ++ (w_X1 cs q4 q5_1 q5_2)) ++ (w_X1 cs q6 q7_1 q7_2)) ++ (w_X1 cs q8 q9_1 q9_2)) ++ (w_X1 cs q10 q11_1 q11_2))) ++ (w_X1 cs q12 q13_1 q13_2)) rfl rfl (by decide) (by decide) rfl dX0_init_49 ?_
  refine ng_iinc (k := 0) (y := 5) (lv' := [(1, .int 5), (0, .ref h0)]) rfl (by decide) (by decide) rfl dX0_init_50 ?_
  refine ng_goto (tgt := 31) dX0_init_53 (by decide) ?_
  refine ng_iload (x := 5) 0 rfl dX0_init_31 ?_
  refine ng_bipush (x := 8) (by decide) dX0_init_32 ?_
  refine ng_geF (tgt := 56) dX0_init_34 (by decide) (by decide) ?_
  refine ng_aload (x := h0) 1 rfl dX0_init_37 ?_
  refine ng_get (q0 := 0) (v := .ref q1) fq_X0_11 rfl rfl dX0_init_38 ?_
  refine ng_iload (x := 5) 0 rfl dX0_init_41 ?_
  refine ng_new (ci := 1) (q := (RX1, TX1, 5)) (fs := [.null, .null, .int 0, .int 0, .int 0]) (ty := tyX1) rfl uX1 tyX1_ok nw234 nw254 nw178 (fun j (hj : j < 5) => by rcases (show j = 0 ∨ j = 1 ∨ j = 2 ∨ j = 3 ∨ j = 4 by omega) with rfl | rfl | rfl | rfl | rfl <;> rfl) (Nat.le_of_ble_eq_true rfl) (Nat.le_of_ble_eq_true rfl) dX0_init_42 (fun q14 => ?_)
  refine ng_dup rfl dX0_init_45 ?_
  refine ng_call (As := []) mi_X0_28 ⟨rfl, nw256⟩ (nm_X1_init cs q14) (by decide) rfl rfl (Nat.le_of_ble_eq_true rfl) (Nat.le_of_ble_eq_true rfl) (Nat.le_of_ble_eq_true rfl) dX0_init_46 ?_
  rintro _ ⟨q15_1, q15_2, rfl⟩
  refine ng_astq (q0 := 1) (qk := 20) (j := 5) (ws' := ((h0, .inr (0, [.ref q1, .ref q2, .int 1])) :: ((((((([] ++ [(q1, .inl (cs 3, 8, .inr (.inr (.inr (.inr (va_up (va_up (va_up (va_up (va_up (va_up (fun _ => none) 0 (some q4)) 1 (some q6)) 2 (some q8)) 3 (some q10)) 4 (some q12)) 5 (some q14)))))))]) ++ (w_X3 cs q2 q3_1 q3_2)) ++ (w_X1 cs q4 q5_1 q5_2)) ++ (w_X1 cs q6 q7_1 q7_2)) ++ (w_X1 cs q8 q9_1 q9_2)) ++ (w_X1 cs q10 q11_1 q11_2)) ++ (w_X1 cs q12 q13_1 q13_2))) ++ (w_X1 cs q14 q15_1 q15_2)) rfl rfl (by decide) (by decide) rfl dX0_init_49 ?_
  refine ng_iinc (k := 0) (y := 6) (lv' := [(1, .int 6), (0, .ref h0)]) rfl (by decide) (by decide) rfl dX0_init_50 ?_
  refine ng_goto (tgt := 31) dX0_init_53 (by decide) ?_
  refine ng_iload (x := 6) 0 rfl dX0_init_31 ?_
  refine ng_bipush (x := 8) (by decide) dX0_init_32 ?_
  refine ng_geF (tgt := 56) dX0_init_34 (by decide) (by decide) ?_
  refine ng_aload (x := h0) 1 rfl dX0_init_37 ?_
  refine ng_get (q0 := 0) (v := .ref q1) fq_X0_11 rfl rfl dX0_init_38 ?_
  refine ng_iload (x := 6) 0 rfl dX0_init_41 ?_
  refine ng_new (ci := 1) (q := (RX1, TX1, 5)) (fs := [.null, .null, .int 0, .int 0, .int 0]) (ty := tyX1) rfl uX1 tyX1_ok nw234 nw254 nw178 (fun j (hj : j < 5) => by rcases (show j = 0 ∨ j = 1 ∨ j = 2 ∨ j = 3 ∨ j = 4 by omega) with rfl | rfl | rfl | rfl | rfl <;> rfl) (Nat.le_of_ble_eq_true rfl) (Nat.le_of_ble_eq_true rfl) dX0_init_42 (fun q16 => ?_)
  refine ng_dup rfl dX0_init_45 ?_
  refine ng_call (As := []) mi_X0_28 ⟨rfl, nw256⟩ (nm_X1_init cs q16) (by decide) rfl rfl (Nat.le_of_ble_eq_true rfl) (Nat.le_of_ble_eq_true rfl) (Nat.le_of_ble_eq_true rfl) dX0_init_46 ?_
  rintro _ ⟨q17_1, q17_2, rfl⟩
  refine ng_astq (q0 := 1) (qk := 23) (j := 6) (ws' := ((h0, .inr (0, [.ref q1, .ref q2, .int 1])) :: (((((((([] ++ [(q1, .inl (cs 3, 8, .inr (.inr (.inr (.inr (va_up (va_up (va_up (va_up (va_up (va_up (va_up (fun _ => none) 0 (some q4)) 1 (some q6)) 2 (some q8)) 3 (some q10)) 4 (some q12)) 5 (some q14)) 6 (some q16)))))))]) ++ (w_X3 cs q2 q3_1 q3_2)) ++ (w_X1 cs q4 q5_1 q5_2)) ++ (w_X1 cs q6 q7_1 q7_2)) ++ (w_X1 cs q8 q9_1 q9_2)) ++ (w_X1 cs q10 q11_1 q11_2)) ++ (w_X1 cs q12 q13_1 q13_2)) ++ (w_X1 cs q14 q15_1 q15_2))) ++ (w_X1 cs q16 q17_1 q17_2)) rfl rfl (by decide) (by decide) rfl dX0_init_49 ?_
  refine ng_iinc (k := 0) (y := 7) (lv' := [(1, .int 7), (0, .ref h0)]) rfl (by decide) (by decide) rfl dX0_init_50 ?_
  refine ng_goto (tgt := 31) dX0_init_53 (by decide) ?_
  refine ng_iload (x := 7) 0 rfl dX0_init_31 ?_
  refine ng_bipush (x := 8) (by decide) dX0_init_32 ?_
  refine ng_geF (tgt := 56) dX0_init_34 (by decide) (by decide) ?_
  refine ng_aload (x := h0) 1 rfl dX0_init_37 ?_
  refine ng_get (q0 := 0) (v := .ref q1) fq_X0_11 rfl rfl dX0_init_38 ?_
  refine ng_iload (x := 7) 0 rfl dX0_init_41 ?_
  refine ng_new (ci := 1) (q := (RX1, TX1, 5)) (fs := [.null, .null, .int 0, .int 0, .int 0]) (ty := tyX1) rfl uX1 tyX1_ok nw234 nw254 nw178 (fun j (hj : j < 5) => by rcases (show j = 0 ∨ j = 1 ∨ j = 2 ∨ j = 3 ∨ j = 4 by omega) with rfl | rfl | rfl | rfl | rfl <;> rfl) (Nat.le_of_ble_eq_true rfl) (Nat.le_of_ble_eq_true rfl) dX0_init_42 (fun q18 => ?_)
  refine ng_dup rfl dX0_init_45 ?_
  refine ng_call (As := []) mi_X0_28 ⟨rfl, nw256⟩ (nm_X1_init cs q18) (by decide) rfl rfl (Nat.le_of_ble_eq_true rfl) (Nat.le_of_ble_eq_true rfl) (Nat.le_of_ble_eq_true rfl) dX0_init_46 ?_
  rintro _ ⟨q19_1, q19_2, rfl⟩
  refine ng_astq (q0 := 1) (qk := 26) (j := 7) (ws' := ((h0, .inr (0, [.ref q1, .ref q2, .int 1])) :: ((((((((([] ++ [(q1, .inl (cs 3, 8, .inr (.inr (.inr (.inr (va_up (va_up (va_up (va_up (va_up (va_up (va_up (va_up (fun _ => none) 0 (some q4)) 1 (some q6)) 2 (some q8)) 3 (some q10)) 4 (some q12)) 5 (some q14)) 6 (some q16)) 7 (some q18)))))))]) ++ (w_X3 cs q2 q3_1 q3_2)) ++ (w_X1 cs q4 q5_1 q5_2)) ++ (w_X1 cs q6 q7_1 q7_2)) ++ (w_X1 cs q8 q9_1 q9_2)) ++ (w_X1 cs q10 q11_1 q11_2)) ++ (w_X1 cs q12 q13_1 q13_2)) ++ (w_X1 cs q14 q15_1 q15_2)) ++ (w_X1 cs q16 q17_1 q17_2))) ++ (w_X1 cs q18 q19_1 q19_2)) rfl rfl (by decide) (by decide) rfl dX0_init_49 ?_
  refine ng_iinc (k := 0) (y := 8) (lv' := [(1, .int 8), (0, .ref h0)]) rfl (by decide) (by decide) rfl dX0_init_50 ?_
  refine ng_goto (tgt := 31) dX0_init_53 (by decide) ?_
  refine ng_iload (x := 8) 0 rfl dX0_init_31 ?_
  refine ng_bipush (x := 8) (by decide) dX0_init_32 ?_
  refine ng_geT (tgt := 56) dX0_init_34 (by decide) (by decide) ?_
  refine ng_vret ⟨fun k => if k = 4 then q1 else if k = 5 then q2 else if k = 6 then q3_1 else if k = 7 then q3_2 else if k = 50 then q4 else if k = 51 then q5_1 else if k = 52 then q5_2 else if k = 53 then q6 else if k = 54 then q7_1 else if k = 55 then q7_2 else if k = 56 then q8 else if k = 57 then q9_1 else if k = 58 then q9_2 else if k = 59 then q10 else if k = 60 then q11_1 else if k = 61 then q11_2 else if k = 62 then q12 else if k = 63 then q13_1 else if k = 64 then q13_2 else if k = 65 then q14 else if k = 66 then q15_1 else if k = 67 then q15_2 else if k = 68 then q16 else if k = 69 then q17_1 else if k = 70 then q17_2 else if k = 71 then q18 else if k = 72 then q19_1 else if k = 73 then q19_2 else 0, ?_⟩ (Nat.le_of_ble_eq_true rfl) (Nat.le_of_ble_eq_true rfl) dX0_init_56
  rw [w_X0, ← up8]
  rfl
theorem w_X0_cg {cs : Nat → ClassId} {b : Nat} {a a' : Nat → Nat} (h : ∀ k, (k = 4 ∨ k = 5 ∨ k = 6 ∨ k = 7 ∨ (50 ≤ k ∧ k < 74)) → a' k = a k) : w_X0 cs b a' = w_X0 cs b a := by
  have hf : (fun j : Nat => (([50, 53, 56, 59, 62, 65, 68, 71] : List Nat)[j]?).map a') = fun j : Nat => (([50, 53, 56, 59, 62, 65, 68, 71] : List Nat)[j]?).map a := by
    rw [← up8, ← up8, h 50 (by omega), h 53 (by omega), h 56 (by omega), h 59 (by omega), h 62 (by omega), h 65 (by omega), h 68 (by omega), h 71 (by omega)]
  unfold w_X0
  rw [hf, h 4 (by omega), h 5 (by omega), h 6 (by omega), h 7 (by omega), h 50 (by omega), h 51 (by omega), h 52 (by omega), h 53 (by omega), h 54 (by omega), h 55 (by omega), h 56 (by omega), h 57 (by omega), h 58 (by omega), h 59 (by omega), h 60 (by omega), h 61 (by omega), h 62 (by omega), h 63 (by omega), h 64 (by omega), h 65 (by omega), h 66 (by omega), h 67 (by omega), h 68 (by omega), h 69 (by omega), h 70 (by omega), h 71 (by omega), h 72 (by omega), h 73 (by omega)]

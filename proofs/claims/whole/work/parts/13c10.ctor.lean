def w_X6 (cs : Nat → ClassId) (h0 t0 q1 q2_1 q2_2 q2_3 q2_4 q2_5 q2_6 q2_7 : Nat) : va_W := (h0, .inr (6, [.ref t0, .ref q1])) :: ([] ++ (w_X5 cs q1 q2_1 q2_2 q2_3 q2_4 q2_5 q2_6 q2_7))
set_option maxRecDepth 100000 in
set_option maxHeartbeats 4000000 in
theorem nm_X6_init (cs : Nat → ClassId) (h0 t0 : Nat) : NM iX6_init 2 8 577 [.ref h0, .ref t0] cs [(h0, .inr (6, [.null, .null]))] (fun w => ∃ q1 q2_1 q2_2 q2_3 q2_4 q2_5 q2_6 q2_7, w = w_X6 cs h0 t0 q1 q2_1 q2_2 q2_3 q2_4 q2_5 q2_6 q2_7) := by
  refine nm_of (by decide +kernel) rfl (Nat.le_of_ble_eq_true rfl) (fun dC dI sz => ?_)
  refine ng_aload (x := h0) 0 rfl dX6_init_0 ?_
  refine ng_obj nw334 nw197 nw198 ⟨by decide, by decide⟩ (by decide) dX6_init_1 ?_
  refine ng_aload (x := h0) 0 rfl dX6_init_4 ?_
  refine ng_new (ci := 5) (q := (RX5, TX5, 9)) (fs := [.null, .null, .null, .int 0, .null, .null, .int 0, .null, .null]) (ty := tyX5) rfl uX5 tyX5_ok nw335 nw336 nw182 (fun j (hj : j < 9) => by rcases (show j = 0 ∨ j = 1 ∨ j = 2 ∨ j = 3 ∨ j = 4 ∨ j = 5 ∨ j = 6 ∨ j = 7 ∨ j = 8 by omega) with rfl | rfl | rfl | rfl | rfl | rfl | rfl | rfl | rfl <;> rfl) (Nat.le_of_ble_eq_true rfl) (Nat.le_of_ble_eq_true rfl) dX6_init_5 (fun q1 => ?_)
  refine ng_dup rfl dX6_init_8 ?_
  refine ng_call (As := []) mi_X6_11 ⟨rfl, nw338⟩ (nm_X5_init cs q1) (by decide) rfl rfl (Nat.le_of_ble_eq_true rfl) (Nat.le_of_ble_eq_true rfl) (Nat.le_of_ble_eq_true rfl) dX6_init_9 ?_
  rintro _ ⟨q2_1, q2_2, q2_3, q2_4, q2_5, q2_6, q2_7, rfl⟩
  refine ng_put (q0 := 0) (ws' := ((h0, .inr (6, [.null, .ref q1])) :: []) ++ (w_X5 cs q1 q2_1 q2_2 q2_3 q2_4 q2_5 q2_6 q2_7)) fq_X6_12 rfl rfl rfl rfl (Nat.le_of_ble_eq_true rfl) rfl dX6_init_12 ?_
  refine ng_aload (x := h0) 0 rfl dX6_init_15 ?_
  refine ng_aload (x := t0) 1 rfl dX6_init_16 ?_
  refine ng_put (q0 := 0) (ws' := ((h0, .inr (6, [.ref t0, .ref q1])) :: []) ++ (w_X5 cs q1 q2_1 q2_2 q2_3 q2_4 q2_5 q2_6 q2_7)) fq_X6_18 rfl rfl rfl rfl (Nat.le_of_ble_eq_true rfl) rfl dX6_init_17 ?_
  exact ng_vret ⟨q1, q2_1, q2_2, q2_3, q2_4, q2_5, q2_6, q2_7, rfl⟩ (Nat.le_of_ble_eq_true rfl) (Nat.le_of_ble_eq_true rfl) dX6_init_20

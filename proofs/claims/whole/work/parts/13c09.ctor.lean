def w_X4 (cs : Nat → ClassId) (h0 t0 q1 q2_1 q2_2 : Nat) : va_W := (h0, .inr (4, [.ref t0, .ref q1])) :: ([] ++ (w_X3 cs q1 q2_1 q2_2))
set_option maxRecDepth 100000 in
set_option maxHeartbeats 4000000 in
theorem nm_X4_init (cs : Nat → ClassId) (h0 t0 : Nat) : NM iX4_init 2 3 387 [.ref h0, .ref t0] cs [(h0, .inr (4, [.null, .null]))] (fun w => ∃ q1 q2_1 q2_2, w = w_X4 cs h0 t0 q1 q2_1 q2_2) := by
  refine nm_of (by decide +kernel) rfl (Nat.le_of_ble_eq_true rfl) (fun dC dI sz => ?_)
  refine ng_aload (x := h0) 0 rfl dX4_init_0 ?_
  refine ng_obj nw318 nw197 nw198 ⟨by decide, by decide⟩ (by decide) dX4_init_1 ?_
  refine ng_aload (x := h0) 0 rfl dX4_init_4 ?_
  refine ng_new (ci := 3) (q := (RX3, TX3, 3)) (fs := [.null, .null, .int 0]) (ty := tyX3) rfl uX3 tyX3_ok nw319 nw237 nw177 (fun j (hj : j < 3) => by rcases (show j = 0 ∨ j = 1 ∨ j = 2 by omega) with rfl | rfl | rfl <;> rfl) (Nat.le_of_ble_eq_true rfl) (Nat.le_of_ble_eq_true rfl) dX4_init_5 (fun q1 => ?_)
  refine ng_dup rfl dX4_init_8 ?_
  refine ng_call (As := []) mi_X4_11 ⟨rfl, nw239⟩ (nm_X3_init cs q1) (by decide) rfl rfl (Nat.le_of_ble_eq_true rfl) (Nat.le_of_ble_eq_true rfl) (Nat.le_of_ble_eq_true rfl) dX4_init_9 ?_
  rintro _ ⟨q2_1, q2_2, rfl⟩
  refine ng_put (q0 := 0) (ws' := ((h0, .inr (4, [.null, .ref q1])) :: []) ++ (w_X3 cs q1 q2_1 q2_2)) fq_X4_12 rfl rfl rfl rfl (Nat.le_of_ble_eq_true rfl) rfl dX4_init_12 ?_
  refine ng_aload (x := h0) 0 rfl dX4_init_15 ?_
  refine ng_aload (x := t0) 1 rfl dX4_init_16 ?_
  refine ng_put (q0 := 0) (ws' := ((h0, .inr (4, [.ref t0, .ref q1])) :: []) ++ (w_X3 cs q1 q2_1 q2_2)) fq_X4_18 rfl rfl rfl rfl (Nat.le_of_ble_eq_true rfl) rfl dX4_init_17 ?_
  exact ng_vret ⟨q1, q2_1, q2_2, rfl⟩ (Nat.le_of_ble_eq_true rfl) (Nat.le_of_ble_eq_true rfl) dX4_init_20

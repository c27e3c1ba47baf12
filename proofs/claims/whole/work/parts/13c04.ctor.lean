def w_X7 (cs : Nat → ClassId) (h0 t0 q1 : Nat) : va_W := (h0, .inr (7, [.ref t0, .ref q1, .int 0])) :: ([] ++ [(q1, .inl (cs 0, 96, .inl (fun _ => 0)))])
set_option maxRecDepth 100000 in
set_option maxHeartbeats 4000000 in
theorem nm_X7_init (cs : Nat → ClassId) (h0 t0 : Nat) : NM iX7_init 1 1 96 [.ref h0, .ref t0] cs [(h0, .inr (7, [.null, .null, .int 0]))] (fun w => ∃ q1, w = w_X7 cs h0 t0 q1) := by
  refine nm_of (by decide +kernel) rfl (Nat.le_of_ble_eq_true rfl) (fun dC dI sz => ?_)
  refine ng_aload (x := h0) 0 rfl dX7_init_0 ?_
  refine ng_obj nw300 nw197 nw198 ⟨by decide, by decide⟩ (by decide) dX7_init_1 ?_
  refine ng_aload (x := h0) 0 rfl dX7_init_4 ?_
  refine ng_bipush (x := 96) (by decide) dX7_init_5 ?_
  refine ng_newi (n' := 96) (by decide) (by decide) (Nat.le_of_ble_eq_true rfl) (Nat.le_of_ble_eq_true rfl) (Nat.le_of_ble_eq_true rfl) dX7_init_7 (fun q1 => ?_)
  refine ng_put (q0 := 0) (ws' := ((h0, .inr (7, [.null, .ref q1, .int 0])) :: []) ++ [(q1, .inl (cs 0, 96, .inl (fun _ => 0)))]) fq_X7_9 rfl rfl rfl rfl (Nat.le_of_ble_eq_true rfl) rfl dX7_init_9 ?_
  refine ng_aload (x := h0) 0 rfl dX7_init_12 ?_
  refine ng_iconst (x := 0) (by decide) dX7_init_13 ?_
  refine ng_put (q0 := 0) (ws' := ((h0, .inr (7, [.null, .ref q1, .int 0])) :: []) ++ [(q1, .inl (cs 0, 96, .inl (fun _ => 0)))]) fq_X7_15 rfl rfl rfl rfl (Nat.le_of_ble_eq_true rfl) rfl dX7_init_14 ?_
  refine ng_aload (x := h0) 0 rfl dX7_init_17 ?_
  refine ng_aload (x := t0) 1 rfl dX7_init_18 ?_
  refine ng_put (q0 := 0) (ws' := ((h0, .inr (7, [.ref t0, .ref q1, .int 0])) :: []) ++ [(q1, .inl (cs 0, 96, .inl (fun _ => 0)))]) fq_X7_19 rfl rfl rfl rfl (Nat.le_of_ble_eq_true rfl) rfl dX7_init_19 ?_
  exact ng_vret ⟨q1, rfl⟩ (Nat.le_of_ble_eq_true rfl) (Nat.le_of_ble_eq_true rfl) dX7_init_22

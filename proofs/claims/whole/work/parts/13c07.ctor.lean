def w_X9 (cs : Nat → ClassId) (h0 t0 q1 q2 : Nat) : va_W := (h0, .inr (9, [.ref t0, .ref q1, .ref q2])) :: (([] ++ [(q1, .inl (cs 0, 192, .inl (fun _ => 0)))]) ++ [(q2, .inl (cs 0, 192, .inl (fun _ => 0)))])
set_option maxRecDepth 100000 in
set_option maxHeartbeats 4000000 in
theorem nm_X9_init (cs : Nat → ClassId) (h0 t0 : Nat) : NM iX9_init 1 2 384 [.ref h0, .ref t0] cs [(h0, .inr (9, [.null, .null, .null]))] (fun w => ∃ q1 q2, w = w_X9 cs h0 t0 q1 q2) := by
  refine nm_of (by decide +kernel) rfl (Nat.le_of_ble_eq_true rfl) (fun dC dI sz => ?_)
  refine ng_aload (x := h0) 0 rfl dX9_init_0 ?_
  refine ng_obj nw411 nw197 nw198 ⟨by decide, by decide⟩ (by decide) dX9_init_1 ?_
  refine ng_aload (x := h0) 0 rfl dX9_init_4 ?_
  refine ng_sipush (x := 192) (by decide) dX9_init_5 ?_
  refine ng_newi (n' := 192) (by decide) (by decide) (Nat.le_of_ble_eq_true rfl) (Nat.le_of_ble_eq_true rfl) (Nat.le_of_ble_eq_true rfl) dX9_init_8 (fun q1 => ?_)
  refine ng_put (q0 := 0) (ws' := ((h0, .inr (9, [.null, .ref q1, .null])) :: []) ++ [(q1, .inl (cs 0, 192, .inl (fun _ => 0)))]) fq_X9_9 rfl rfl rfl rfl (Nat.le_of_ble_eq_true rfl) rfl dX9_init_10 ?_
  refine ng_aload (x := h0) 0 rfl dX9_init_13 ?_
  refine ng_sipush (x := 192) (by decide) dX9_init_14 ?_
  refine ng_newi (n' := 192) (by decide) (by decide) (Nat.le_of_ble_eq_true rfl) (Nat.le_of_ble_eq_true rfl) (Nat.le_of_ble_eq_true rfl) dX9_init_17 (fun q2 => ?_)
  refine ng_put (q0 := 0) (ws' := ((h0, .inr (9, [.null, .ref q1, .ref q2])) :: ([] ++ [(q1, .inl (cs 0, 192, .inl (fun _ => 0)))])) ++ [(q2, .inl (cs 0, 192, .inl (fun _ => 0)))]) fq_X9_15 rfl rfl rfl rfl (Nat.le_of_ble_eq_true rfl) rfl dX9_init_19 ?_
  refine ng_aload (x := h0) 0 rfl dX9_init_22 ?_
  refine ng_aload (x := t0) 1 rfl dX9_init_23 ?_
  refine ng_put (q0 := 0) (ws' := ((h0, .inr (9, [.ref t0, .ref q1, .ref q2])) :: ([] ++ [(q1, .inl (cs 0, 192, .inl (fun _ => 0)))])) ++ [(q2, .inl (cs 0, 192, .inl (fun _ => 0)))]) fq_X9_18 rfl rfl rfl rfl (Nat.le_of_ble_eq_true rfl) rfl dX9_init_24 ?_
  exact ng_vret ⟨q1, q2, rfl⟩ (Nat.le_of_ble_eq_true rfl) (Nat.le_of_ble_eq_true rfl) dX9_init_27

def w_X1 (cs : Nat → ClassId) (h0 q1 q2 : Nat) : va_W := (h0, .inr (1, [.ref q1, .ref q2, .int 0, .int 0, .int 0])) :: (([] ++ [(q1, .inl (cs 0, 96, .inl (fun _ => 0)))]) ++ [(q2, .inl (cs 0, 97, .inl (fun _ => 0)))])
set_option maxRecDepth 100000 in
set_option maxHeartbeats 4000000 in
theorem nm_X1_init (cs : Nat → ClassId) (h0 : Nat) : NM iX1_init 1 2 193 [.ref h0] cs [(h0, .inr (1, [.null, .null, .int 0, .int 0, .int 0]))] (fun w => ∃ q1 q2, w = w_X1 cs h0 q1 q2) := by
  refine nm_of (by decide +kernel) rfl (Nat.le_of_ble_eq_true rfl) (fun dC dI sz => ?_)
  refine ng_aload (x := h0) 0 rfl dX1_init_0 ?_
  refine ng_obj nw258 nw197 nw198 ⟨by decide, by decide⟩ (by decide) dX1_init_1 ?_
  refine ng_aload (x := h0) 0 rfl dX1_init_4 ?_
  refine ng_bipush (x := 96) (by decide) dX1_init_5 ?_
  refine ng_newi (n' := 96) (by decide) (by decide) (Nat.le_of_ble_eq_true rfl) (Nat.le_of_ble_eq_true rfl) (Nat.le_of_ble_eq_true rfl) dX1_init_7 (fun q1 => ?_)
  refine ng_put (q0 := 0) (ws' := ((h0, .inr (1, [.ref q1, .null, .int 0, .int 0, .int 0])) :: []) ++ [(q1, .inl (cs 0, 96, .inl (fun _ => 0)))]) fq_X1_9 rfl rfl rfl rfl (Nat.le_of_ble_eq_true rfl) rfl dX1_init_9 ?_
  refine ng_aload (x := h0) 0 rfl dX1_init_12 ?_
  refine ng_bipush (x := 97) (by decide) dX1_init_13 ?_
  refine ng_newi (n' := 97) (by decide) (by decide) (Nat.le_of_ble_eq_true rfl) (Nat.le_of_ble_eq_true rfl) (Nat.le_of_ble_eq_true rfl) dX1_init_15 (fun q2 => ?_)
  refine ng_put (q0 := 0) (ws' := ((h0, .inr (1, [.ref q1, .ref q2, .int 0, .int 0, .int 0])) :: ([] ++ [(q1, .inl (cs 0, 96, .inl (fun _ => 0)))])) ++ [(q2, .inl (cs 0, 97, .inl (fun _ => 0)))]) fq_X1_15 rfl rfl rfl rfl (Nat.le_of_ble_eq_true rfl) rfl dX1_init_17 ?_
  refine ng_aload (x := h0) 0 rfl dX1_init_20 ?_
  refine ng_iconst (x := 0) (by decide) dX1_init_21 ?_
  refine ng_put (q0 := 0) (ws' := ((h0, .inr (1, [.ref q1, .ref q2, .int 0, .int 0, .int 0])) :: ([] ++ [(q1, .inl (cs 0, 96, .inl (fun _ => 0)))])) ++ [(q2, .inl (cs 0, 97, .inl (fun _ => 0)))]) fq_X1_18 rfl rfl rfl rfl (Nat.le_of_ble_eq_true rfl) rfl dX1_init_22 ?_
  refine ng_aload (x := h0) 0 rfl dX1_init_25 ?_
  refine ng_iconst (x := 0) (by decide) dX1_init_26 ?_
  refine ng_put (q0 := 0) (ws' := ((h0, .inr (1, [.ref q1, .ref q2, .int 0, .int 0, .int 0])) :: ([] ++ [(q1, .inl (cs 0, 96, .inl (fun _ => 0)))])) ++ [(q2, .inl (cs 0, 97, .inl (fun _ => 0)))]) fq_X1_22 rfl rfl rfl rfl (Nat.le_of_ble_eq_true rfl) rfl dX1_init_27 ?_
  refine ng_aload (x := h0) 0 rfl dX1_init_30 ?_
  refine ng_iconst (x := 0) (by decide) dX1_init_31 ?_
  refine ng_put (q0 := 0) (ws' := ((h0, .inr (1, [.ref q1, .ref q2, .int 0, .int 0, .int 0])) :: ([] ++ [(q1, .inl (cs 0, 96, .inl (fun _ => 0)))])) ++ [(q2, .inl (cs 0, 97, .inl (fun _ => 0)))]) fq_X1_26 rfl rfl rfl rfl (Nat.le_of_ble_eq_true rfl) rfl dX1_init_32 ?_
  exact ng_vret ⟨q1, q2, rfl⟩ (Nat.le_of_ble_eq_true rfl) (Nat.le_of_ble_eq_true rfl) dX1_init_35

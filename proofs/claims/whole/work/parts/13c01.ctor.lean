def w_X10 (cs : Nat → ClassId) (h0 q1 : Nat) : va_W := (h0, .inr (10, [.ref q1, .int 0, .int 0, .int 0, .int 0, .int 0])) :: ([] ++ [(q1, .inl (cs 0, 260, .inl (fun _ => 0)))])
set_option maxRecDepth 100000 in
set_option maxHeartbeats 4000000 in
theorem nm_X10_init (cs : Nat → ClassId) (h0 : Nat) : NM iX10_init 1 1 260 [.ref h0] cs [(h0, .inr (10, [.null, .int 0, .int 0, .int 0, .int 0, .int 0]))] (fun w => ∃ q1, w = w_X10 cs h0 q1) := by
  refine nm_of (by decide +kernel) rfl (Nat.le_of_ble_eq_true rfl) (fun dC dI sz => ?_)
  refine ng_aload (x := h0) 0 rfl dX10_init_0 ?_
  refine ng_obj nw204 nw197 nw198 ⟨by decide, by decide⟩ (by decide) dX10_init_1 ?_
  refine ng_aload (x := h0) 0 rfl dX10_init_4 ?_
  refine ng_sipush (x := 260) (by decide) dX10_init_5 ?_
  refine ng_newi (n' := 260) (by decide) (by decide) (Nat.le_of_ble_eq_true rfl) (Nat.le_of_ble_eq_true rfl) (Nat.le_of_ble_eq_true rfl) dX10_init_8 (fun q1 => ?_)
  refine ng_put (q0 := 0) (ws' := ((h0, .inr (10, [.ref q1, .int 0, .int 0, .int 0, .int 0, .int 0])) :: []) ++ [(q1, .inl (cs 0, 260, .inl (fun _ => 0)))]) fq_X10_9 rfl rfl rfl rfl (Nat.le_of_ble_eq_true rfl) rfl dX10_init_10 ?_
  refine ng_aload (x := h0) 0 rfl dX10_init_13 ?_
  refine ng_iconst (x := 0) (by decide) dX10_init_14 ?_
  refine ng_put (q0 := 0) (ws' := ((h0, .inr (10, [.ref q1, .int 0, .int 0, .int 0, .int 0, .int 0])) :: []) ++ [(q1, .inl (cs 0, 260, .inl (fun _ => 0)))]) fq_X10_15 rfl rfl rfl rfl (Nat.le_of_ble_eq_true rfl) rfl dX10_init_15 ?_
  refine ng_aload (x := h0) 0 rfl dX10_init_18 ?_
  refine ng_iconst (x := 0) (by decide) dX10_init_19 ?_
  refine ng_put (q0 := 0) (ws' := ((h0, .inr (10, [.ref q1, .int 0, .int 0, .int 0, .int 0, .int 0])) :: []) ++ [(q1, .inl (cs 0, 260, .inl (fun _ => 0)))]) fq_X10_19 rfl rfl rfl rfl (Nat.le_of_ble_eq_true rfl) rfl dX10_init_20 ?_
  refine ng_aload (x := h0) 0 rfl dX10_init_23 ?_
  refine ng_iconst (x := 0) (by decide) dX10_init_24 ?_
  refine ng_put (q0 := 0) (ws' := ((h0, .inr (10, [.ref q1, .int 0, .int 0, .int 0, .int 0, .int 0])) :: []) ++ [(q1, .inl (cs 0, 260, .inl (fun _ => 0)))]) fq_X10_22 rfl rfl rfl rfl (Nat.le_of_ble_eq_true rfl) rfl dX10_init_25 ?_
  refine ng_aload (x := h0) 0 rfl dX10_init_28 ?_
  refine ng_iconst (x := 0) (by decide) dX10_init_29 ?_
  refine ng_put (q0 := 0) (ws' := ((h0, .inr (10, [.ref q1, .int 0, .int 0, .int 0, .int 0, .int 0])) :: []) ++ [(q1, .inl (cs 0, 260, .inl (fun _ => 0)))]) fq_X10_25 rfl rfl rfl rfl (Nat.le_of_ble_eq_true rfl) rfl dX10_init_30 ?_
  refine ng_aload (x := h0) 0 rfl dX10_init_33 ?_
  refine ng_iconst (x := 0) (by decide) dX10_init_34 ?_
  refine ng_put (q0 := 0) (ws' := ((h0, .inr (10, [.ref q1, .int 0, .int 0, .int 0, .int 0, .int 0])) :: []) ++ [(q1, .inl (cs 0, 260, .inl (fun _ => 0)))]) fq_X10_28 rfl rfl rfl rfl (Nat.le_of_ble_eq_true rfl) rfl dX10_init_35 ?_
  exact ng_vret ⟨q1, rfl⟩ (Nat.le_of_ble_eq_true rfl) (Nat.le_of_ble_eq_true rfl) dX10_init_38

def w_X2 (cs : Nat → ClassId) (h0 t0 t1 : Nat) : va_W := (h0, .inr (2, [.ref t0, .ref t1, .int 0, .int (-1), .int 0, .int (-1)])) :: []
set_option maxRecDepth 100000 in
set_option maxHeartbeats 4000000 in
theorem nm_X2_init (cs : Nat → ClassId) (h0 t0 t1 : Nat) : NM iX2_init 1 0 0 [.ref h0, .ref t0, .ref t1] cs [(h0, .inr (2, [.null, .null, .int 0, .int 0, .int 0, .int 0]))] (fun w => w = w_X2 cs h0 t0 t1) := by
  refine nm_of (by decide +kernel) rfl (Nat.le_of_ble_eq_true rfl) (fun dC dI sz => ?_)
  refine ng_aload (x := h0) 0 rfl dX2_init_0 ?_
  refine ng_obj nw386 nw197 nw198 ⟨by decide, by decide⟩ (by decide) dX2_init_1 ?_
  refine ng_aload (x := h0) 0 rfl dX2_init_4 ?_
  refine ng_iconst (x := 0) (by decide) dX2_init_5 ?_
  refine ng_put (q0 := 0) (ws' := [(h0, .inr (2, [.null, .null, .int 0, .int 0, .int 0, .int 0]))]) fq_X2_9 rfl rfl rfl rfl (Nat.le_of_ble_eq_true rfl) rfl dX2_init_6 ?_
  refine ng_aload (x := h0) 0 rfl dX2_init_9 ?_
  refine ng_iconst (x := (-1)) (by decide) dX2_init_10 ?_
  refine ng_put (q0 := 0) (ws' := [(h0, .inr (2, [.null, .null, .int 0, .int (-1), .int 0, .int 0]))]) fq_X2_15 rfl rfl rfl rfl (Nat.le_of_ble_eq_true rfl) rfl dX2_init_11 ?_
  refine ng_aload (x := h0) 0 rfl dX2_init_14 ?_
  refine ng_iconst (x := 0) (by decide) dX2_init_15 ?_
  refine ng_put (q0 := 0) (ws' := [(h0, .inr (2, [.null, .null, .int 0, .int (-1), .int 0, .int 0]))]) fq_X2_18 rfl rfl rfl rfl (Nat.le_of_ble_eq_true rfl) rfl dX2_init_16 ?_
  refine ng_aload (x := h0) 0 rfl dX2_init_19 ?_
  refine ng_iconst (x := (-1)) (by decide) dX2_init_20 ?_
  refine ng_put (q0 := 0) (ws' := [(h0, .inr (2, [.null, .null, .int 0, .int (-1), .int 0, .int (-1)]))]) fq_X2_21 rfl rfl rfl rfl (Nat.le_of_ble_eq_true rfl) rfl dX2_init_21 ?_
  refine ng_aload (x := h0) 0 rfl dX2_init_24 ?_
  refine ng_aload (x := t0) 1 rfl dX2_init_25 ?_
  refine ng_put (q0 := 0) (ws' := [(h0, .inr (2, [.ref t0, .null, .int 0, .int (-1), .int 0, .int (-1)]))]) fq_X2_24 rfl rfl rfl rfl (Nat.le_of_ble_eq_true rfl) rfl dX2_init_26 ?_
  refine ng_aload (x := h0) 0 rfl dX2_init_29 ?_
  refine ng_aload (x := t1) 2 rfl dX2_init_30 ?_
  refine ng_put (q0 := 0) (ws' := [(h0, .inr (2, [.ref t0, .ref t1, .int 0, .int (-1), .int 0, .int (-1)]))]) fq_X2_28 rfl rfl rfl rfl (Nat.le_of_ble_eq_true rfl) rfl dX2_init_31 ?_
  exact ng_vret rfl (Nat.le_of_ble_eq_true rfl) (Nat.le_of_ble_eq_true rfl) dX2_init_34

def w_X8 (cs : Nat → ClassId) (h0 q1 q2 q3 q4 : Nat) : va_W := (h0, .inr (8, [.ref q1, .ref q2, .ref q3, .ref q4, .int 0, .int 1])) :: (((([] ++ [(q1, .inl (cs 0, 6, .inl (fun _ => 0)))]) ++ [(q2, .inl (cs 0, 6, .inl (fun _ => 0)))]) ++ [(q3, .inl (cs 0, 6, .inl (fun _ => 0)))]) ++ [(q4, .inl (cs 0, 6, .inl f3))])
set_option maxRecDepth 100000 in
set_option maxHeartbeats 4000000 in
theorem nm_X8_init (cs : Nat → ClassId) (h0 : Nat) : NM iX8_init 1 4 24 [.ref h0] cs [(h0, .inr (8, [.null, .null, .null, .null, .int 0, .int 0]))] (fun w => ∃ q1 q2 q3 q4, w = w_X8 cs h0 q1 q2 q3 q4) := by
  refine nm_of (by decide +kernel) rfl (Nat.le_of_ble_eq_true rfl) (fun dC dI sz => ?_)
  refine ng_aload (x := h0) 0 rfl dX8_init_0 ?_
  refine ng_obj nw427 nw197 nw198 ⟨by decide, by decide⟩ (by decide) dX8_init_1 ?_
  refine ng_aload (x := h0) 0 rfl dX8_init_4 ?_
  refine ng_bipush (x := 6) (by decide) dX8_init_5 ?_
  refine ng_newi (n' := 6) (by decide) (by decide) (Nat.le_of_ble_eq_true rfl) (Nat.le_of_ble_eq_true rfl) (Nat.le_of_ble_eq_true rfl) dX8_init_7 (fun q1 => ?_)
  refine ng_put (q0 := 0) (ws' := ((h0, .inr (8, [.ref q1, .null, .null, .null, .int 0, .int 0])) :: []) ++ [(q1, .inl (cs 0, 6, .inl (fun _ => 0)))]) fq_X8_9 rfl rfl rfl rfl (Nat.le_of_ble_eq_true rfl) rfl dX8_init_9 ?_
  refine ng_aload (x := h0) 0 rfl dX8_init_12 ?_
  refine ng_bipush (x := 6) (by decide) dX8_init_13 ?_
  refine ng_newi (n' := 6) (by decide) (by decide) (Nat.le_of_ble_eq_true rfl) (Nat.le_of_ble_eq_true rfl) (Nat.le_of_ble_eq_true rfl) dX8_init_15 (fun q2 => ?_)
  refine ng_put (q0 := 0) (ws' := ((h0, .inr (8, [.ref q1, .ref q2, .null, .null, .int 0, .int 0])) :: ([] ++ [(q1, .inl (cs 0, 6, .inl (fun _ => 0)))])) ++ [(q2, .inl (cs 0, 6, .inl (fun _ => 0)))]) fq_X8_15 rfl rfl rfl rfl (Nat.le_of_ble_eq_true rfl) rfl dX8_init_17 ?_
  refine ng_aload (x := h0) 0 rfl dX8_init_20 ?_
  refine ng_bipush (x := 6) (by decide) dX8_init_21 ?_
  refine ng_newi (n' := 6) (by decide) (by decide) (Nat.le_of_ble_eq_true rfl) (Nat.le_of_ble_eq_true rfl) (Nat.le_of_ble_eq_true rfl) dX8_init_23 (fun q3 => ?_)
  refine ng_put (q0 := 0) (ws' := ((h0, .inr (8, [.ref q1, .ref q2, .ref q3, .null, .int 0, .int 0])) :: (([] ++ [(q1, .inl (cs 0, 6, .inl (fun _ => 0)))]) ++ [(q2, .inl (cs 0, 6, .inl (fun _ => 0)))])) ++ [(q3, .inl (cs 0, 6, .inl (fun _ => 0)))]) fq_X8_18 rfl rfl rfl rfl (Nat.le_of_ble_eq_true rfl) rfl dX8_init_25 ?_
  refine ng_aload (x := h0) 0 rfl dX8_init_28 ?_
  refine ng_bipush (x := 6) (by decide) dX8_init_29 ?_
  refine ng_newi (n' := 6) (by decide) (by decide) (Nat.le_of_ble_eq_true rfl) (Nat.le_of_ble_eq_true rfl) (Nat.le_of_ble_eq_true rfl) dX8_init_31 (fun q4 => ?_)
  refine ng_put (q0 := 0) (ws' := ((h0, .inr (8, [.ref q1, .ref q2, .ref q3, .ref q4, .int 0, .int 0])) :: ((([] ++ [(q1, .inl (cs 0, 6, .inl (fun _ => 0)))]) ++ [(q2, .inl (cs 0, 6, .inl (fun _ => 0)))]) ++ [(q3, .inl (cs 0, 6, .inl (fun _ => 0)))])) ++ [(q4, .inl (cs 0, 6, .inl (fun _ => 0)))]) fq_X8_21 rfl rfl rfl rfl (Nat.le_of_ble_eq_true rfl) rfl dX8_init_33 ?_
  refine ng_aload (x := h0) 0 rfl dX8_init_36 ?_
  refine ng_iconst (x := 0) (by decide) dX8_init_37 ?_
  refine ng_put (q0 := 0) (ws' := ((h0, .inr (8, [.ref q1, .ref q2, .ref q3, .ref q4, .int 0, .int 0])) :: ((([] ++ [(q1, .inl (cs 0, 6, .inl (fun _ => 0)))]) ++ [(q2, .inl (cs 0, 6, .inl (fun _ => 0)))]) ++ [(q3, .inl (cs 0, 6, .inl (fun _ => 0)))])) ++ [(q4, .inl (cs 0, 6, .inl (fun _ => 0)))]) fq_X8_24 rfl rfl rfl rfl (Nat.le_of_ble_eq_true rfl) rfl dX8_init_38 ?_
  refine ng_aload (x := h0) 0 rfl dX8_init_41 ?_
  refine ng_iconst (x := 1) (by decide) dX8_init_42 ?_
  refine ng_put (q0 := 0) (ws' := ((h0, .inr (8, [.ref q1, .ref q2, .ref q3, .ref q4, .int 0, .int 1])) :: ((([] ++ [(q1, .inl (cs 0, 6, .inl (fun _ => 0)))]) ++ [(q2, .inl (cs 0, 6, .inl (fun _ => 0)))]) ++ [(q3, .inl (cs 0, 6, .inl (fun _ => 0)))])) ++ [(q4, .inl (cs 0, 6, .inl (fun _ => 0)))]) fq_X8_28 rfl rfl rfl rfl (Nat.le_of_ble_eq_true rfl) rfl dX8_init_43 ?_
  refine ng_aload (x := h0) 0 rfl dX8_init_46 ?_
  refine ng_get (q0 := 0) (v := .ref q4) fq_X8_21 rfl rfl dX8_init_47 ?_
  refine ng_iconst (x := 3) (by decide) dX8_init_50 ?_
  refine ng_stat (As := [.ref q4, .int 3]) mi_X8_31 nw429 (nm_fill cs q4) (by decide) rfl rfl (Nat.le_of_ble_eq_true rfl) (Nat.le_of_ble_eq_true rfl) (Nat.le_of_ble_eq_true rfl) dX8_init_51 ?_
  rintro _ rfl
  exact ng_vret ⟨q1, q2, q3, q4, rfl⟩ (Nat.le_of_ble_eq_true rfl) (Nat.le_of_ble_eq_true rfl) dX8_init_54

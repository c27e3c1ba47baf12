def w_X5 (cs : Nat → ClassId) (h0 q1 q2 q3 q4 q5 q6 q7 : Nat) : va_W := (h0, .inr (5, [.ref q1, .ref q2, .ref q3, .int 0, .ref q4, .ref q5, .int 0, .ref q6, .ref q7])) :: ((((((([] ++ [(q1, .inl (cs 0, 16, .inl (fun _ => 0)))]) ++ [(q2, .inl (cs 0, 16, .inl (fun _ => 0)))]) ++ [(q3, .inl (cs 0, 16, .inl (fun _ => 0)))]) ++ [(q4, .inl (cs 0, 240, .inl (fun _ => 0)))]) ++ [(q5, .inl (cs 0, 240, .inl (fun _ => 0)))]) ++ [(q6, .inl (cs 0, 8, .inl (fun _ => 0)))]) ++ [(q7, .inl (cs 0, 32, .inl (fun _ => 0)))])
set_option maxRecDepth 100000 in
set_option maxHeartbeats 4000000 in
theorem nm_X5_init (cs : Nat → ClassId) (h0 : Nat) : NM iX5_init 1 7 568 [.ref h0] cs [(h0, .inr (5, [.null, .null, .null, .int 0, .null, .null, .int 0, .null, .null]))] (fun w => ∃ q1 q2 q3 q4 q5 q6 q7, w = w_X5 cs h0 q1 q2 q3 q4 q5 q6 q7) := by
  refine nm_of (by decide +kernel) rfl (Nat.le_of_ble_eq_true rfl) (fun dC dI sz => ?_)
  refine ng_aload (x := h0) 0 rfl dX5_init_0 ?_
  refine ng_obj nw340 nw197 nw198 ⟨by decide, by decide⟩ (by decide) dX5_init_1 ?_
  refine ng_aload (x := h0) 0 rfl dX5_init_4 ?_
  refine ng_bipush (x := 16) (by decide) dX5_init_5 ?_
  refine ng_newi (n' := 16) (by decide) (by decide) (Nat.le_of_ble_eq_true rfl) (Nat.le_of_ble_eq_true rfl) (Nat.le_of_ble_eq_true rfl) dX5_init_7 (fun q1 => ?_)
  refine ng_put (q0 := 0) (ws' := ((h0, .inr (5, [.ref q1, .null, .null, .int 0, .null, .null, .int 0, .null, .null])) :: []) ++ [(q1, .inl (cs 0, 16, .inl (fun _ => 0)))]) fq_X5_11 rfl rfl rfl rfl (Nat.le_of_ble_eq_true rfl) rfl dX5_init_9 ?_
  refine ng_aload (x := h0) 0 rfl dX5_init_12 ?_
  refine ng_bipush (x := 16) (by decide) dX5_init_13 ?_
  refine ng_newi (n' := 16) (by decide) (by decide) (Nat.le_of_ble_eq_true rfl) (Nat.le_of_ble_eq_true rfl) (Nat.le_of_ble_eq_true rfl) dX5_init_15 (fun q2 => ?_)
  refine ng_put (q0 := 0) (ws' := ((h0, .inr (5, [.ref q1, .ref q2, .null, .int 0, .null, .null, .int 0, .null, .null])) :: ([] ++ [(q1, .inl (cs 0, 16, .inl (fun _ => 0)))])) ++ [(q2, .inl (cs 0, 16, .inl (fun _ => 0)))]) fq_X5_15 rfl rfl rfl rfl (Nat.le_of_ble_eq_true rfl) rfl dX5_init_17 ?_
  refine ng_aload (x := h0) 0 rfl dX5_init_20 ?_
  refine ng_bipush (x := 16) (by decide) dX5_init_21 ?_
  refine ng_newi (n' := 16) (by decide) (by decide) (Nat.le_of_ble_eq_true rfl) (Nat.le_of_ble_eq_true rfl) (Nat.le_of_ble_eq_true rfl) dX5_init_23 (fun q3 => ?_)
  refine ng_put (q0 := 0) (ws' := ((h0, .inr (5, [.ref q1, .ref q2, .ref q3, .int 0, .null, .null, .int 0, .null, .null])) :: (([] ++ [(q1, .inl (cs 0, 16, .inl (fun _ => 0)))]) ++ [(q2, .inl (cs 0, 16, .inl (fun _ => 0)))])) ++ [(q3, .inl (cs 0, 16, .inl (fun _ => 0)))]) fq_X5_18 rfl rfl rfl rfl (Nat.le_of_ble_eq_true rfl) rfl dX5_init_25 ?_
  refine ng_aload (x := h0) 0 rfl dX5_init_28 ?_
  refine ng_iconst (x := 0) (by decide) dX5_init_29 ?_
  refine ng_put (q0 := 0) (ws' := ((h0, .inr (5, [.ref q1, .ref q2, .ref q3, .int 0, .null, .null, .int 0, .null, .null])) :: (([] ++ [(q1, .inl (cs 0, 16, .inl (fun _ => 0)))]) ++ [(q2, .inl (cs 0, 16, .inl (fun _ => 0)))])) ++ [(q3, .inl (cs 0, 16, .inl (fun _ => 0)))]) fq_X5_21 rfl rfl rfl rfl (Nat.le_of_ble_eq_true rfl) rfl dX5_init_30 ?_
  refine ng_aload (x := h0) 0 rfl dX5_init_33 ?_
  refine ng_sipush (x := 240) (by decide) dX5_init_34 ?_
  refine ng_newi (n' := 240) (by decide) (by decide) (Nat.le_of_ble_eq_true rfl) (Nat.le_of_ble_eq_true rfl) (Nat.le_of_ble_eq_true rfl) dX5_init_37 (fun q4 => ?_)
  refine ng_put (q0 := 0) (ws' := ((h0, .inr (5, [.ref q1, .ref q2, .ref q3, .int 0, .ref q4, .null, .int 0, .null, .null])) :: ((([] ++ [(q1, .inl (cs 0, 16, .inl (fun _ => 0)))]) ++ [(q2, .inl (cs 0, 16, .inl (fun _ => 0)))]) ++ [(q3, .inl (cs 0, 16, .inl (fun _ => 0)))])) ++ [(q4, .inl (cs 0, 240, .inl (fun _ => 0)))]) fq_X5_25 rfl rfl rfl rfl (Nat.le_of_ble_eq_true rfl) rfl dX5_init_39 ?_
  refine ng_aload (x := h0) 0 rfl dX5_init_42 ?_
  refine ng_sipush (x := 240) (by decide) dX5_init_43 ?_
  refine ng_newi (n' := 240) (by decide) (by decide) (Nat.le_of_ble_eq_true rfl) (Nat.le_of_ble_eq_true rfl) (Nat.le_of_ble_eq_true rfl) dX5_init_46 (fun q5 => ?_)
  refine ng_put (q0 := 0) (ws' := ((h0, .inr (5, [.ref q1, .ref q2, .ref q3, .int 0, .ref q4, .ref q5, .int 0, .null, .null])) :: (((([] ++ [(q1, .inl (cs 0, 16, .inl (fun _ => 0)))]) ++ [(q2, .inl (cs 0, 16, .inl (fun _ => 0)))]) ++ [(q3, .inl (cs 0, 16, .inl (fun _ => 0)))]) ++ [(q4, .inl (cs 0, 240, .inl (fun _ => 0)))])) ++ [(q5, .inl (cs 0, 240, .inl (fun _ => 0)))]) fq_X5_28 rfl rfl rfl rfl (Nat.le_of_ble_eq_true rfl) rfl dX5_init_48 ?_
  refine ng_aload (x := h0) 0 rfl dX5_init_51 ?_
  refine ng_iconst (x := 0) (by decide) dX5_init_52 ?_
  refine ng_put (q0 := 0) (ws' := ((h0, .inr (5, [.ref q1, .ref q2, .ref q3, .int 0, .ref q4, .ref q5, .int 0, .null, .null])) :: (((([] ++ [(q1, .inl (cs 0, 16, .inl (fun _ => 0)))]) ++ [(q2, .inl (cs 0, 16, .inl (fun _ => 0)))]) ++ [(q3, .inl (cs 0, 16, .inl (fun _ => 0)))]) ++ [(q4, .inl (cs 0, 240, .inl (fun _ => 0)))])) ++ [(q5, .inl (cs 0, 240, .inl (fun _ => 0)))]) fq_X5_31 rfl rfl rfl rfl (Nat.le_of_ble_eq_true rfl) rfl dX5_init_53 ?_
  refine ng_aload (x := h0) 0 rfl dX5_init_56 ?_
  refine ng_bipush (x := 8) (by decide) dX5_init_57 ?_
  refine ng_newi (n' := 8) (by decide) (by decide) (Nat.le_of_ble_eq_true rfl) (Nat.le_of_ble_eq_true rfl) (Nat.le_of_ble_eq_true rfl) dX5_init_59 (fun q6 => ?_)
  refine ng_put (q0 := 0) (ws' := ((h0, .inr (5, [.ref q1, .ref q2, .ref q3, .int 0, .ref q4, .ref q5, .int 0, .ref q6, .null])) :: ((((([] ++ [(q1, .inl (cs 0, 16, .inl (fun _ => 0)))]) ++ [(q2, .inl (cs 0, 16, .inl (fun _ => 0)))]) ++ [(q3, .inl (cs 0, 16, .inl (fun _ => 0)))]) ++ [(q4, .inl (cs 0, 240, .inl (fun _ => 0)))]) ++ [(q5, .inl (cs 0, 240, .inl (fun _ => 0)))])) ++ [(q6, .inl (cs 0, 8, .inl (fun _ => 0)))]) fq_X5_34 rfl rfl rfl rfl (Nat.le_of_ble_eq_true rfl) rfl dX5_init_61 ?_
  refine ng_aload (x := h0) 0 rfl dX5_init_64 ?_
  refine ng_bipush (x := 32) (by decide) dX5_init_65 ?_
  refine ng_newi (n' := 32) (by decide) (by decide) (Nat.le_of_ble_eq_true rfl) (Nat.le_of_ble_eq_true rfl) (Nat.le_of_ble_eq_true rfl) dX5_init_67 (fun q7 => ?_)
  refine ng_put (q0 := 0) (ws' := ((h0, .inr (5, [.ref q1, .ref q2, .ref q3, .int 0, .ref q4, .ref q5, .int 0, .ref q6, .ref q7])) :: (((((([] ++ [(q1, .inl (cs 0, 16, .inl (fun _ => 0)))]) ++ [(q2, .inl (cs 0, 16, .inl (fun _ => 0)))]) ++ [(q3, .inl (cs 0, 16, .inl (fun _ => 0)))]) ++ [(q4, .inl (cs 0, 240, .inl (fun _ => 0)))]) ++ [(q5, .inl (cs 0, 240, .inl (fun _ => 0)))]) ++ [(q6, .inl (cs 0, 8, .inl (fun _ => 0)))])) ++ [(q7, .inl (cs 0, 32, .inl (fun _ => 0)))]) fq_X5_37 rfl rfl rfl rfl (Nat.le_of_ble_eq_true rfl) rfl dX5_init_69 ?_
  exact ng_vret ⟨q1, q2, q3, q4, q5, q6, q7, rfl⟩ (Nat.le_of_ble_eq_true rfl) (Nat.le_of_ble_eq_true rfl) dX5_init_72

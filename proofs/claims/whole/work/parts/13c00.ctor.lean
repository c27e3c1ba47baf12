def f3 : Nat → Int32 := upd (upd (upd (upd (upd (upd (fun _ => 0) 0 3) 1 3) 2 3) 3 3) 4 3) 5 3
set_option maxRecDepth 100000 in
set_option maxHeartbeats 4000000 in
theorem nm_fill (cs : Nat → ClassId) (h0 : Nat) : NM iJ7_fill_53178 0 0 0 [.ref h0, .int 3] cs [(h0, .inl (cs 0, 6, .inl (fun _ => 0)))] (fun w => w = [(h0, .inl (cs 0, 6, .inl f3))]) := by
  refine nm_of (by decide +kernel) rfl (Nat.le_of_ble_eq_true rfl) (fun dC dI sz => ?_)
  refine ng_iconst (x := 0) (by decide) dJ7_fill_53178_0 ?_
  refine ng_istore (lv' := [(2, .int 0), (0, .ref h0), (1, .int 3)]) (by decide) rfl dJ7_fill_53178_1 ?_
  refine ng_aload (x := h0) 1 rfl dJ7_fill_53178_2 ?_
  refine ng_alen (q0 := 0) (x := 6) rfl (by decide) dJ7_fill_53178_3 ?_
  refine ng_istore (lv' := [(3, .int 6), (2, .int 0), (0, .ref h0), (1, .int 3)]) (by decide) rfl dJ7_fill_53178_4 ?_
  refine ng_iload (x := 0) 1 rfl dJ7_fill_53178_5 ?_
  refine ng_iload (x := 6) 0 rfl dJ7_fill_53178_6 ?_
  refine ng_geF (tgt := 20) dJ7_fill_53178_7 (by decide) (by decide) ?_
  refine ng_aload (x := h0) 2 rfl dJ7_fill_53178_10 ?_
  refine ng_iload (x := 0) 1 rfl dJ7_fill_53178_11 ?_
  refine ng_iload (x := 3) 3 rfl dJ7_fill_53178_12 ?_
  refine ng_iast (q0 := 0) (j := 0) (ws' := [(h0, .inl (cs 0, 6, .inl (upd (fun _ => 0) 0 3)))]) rfl (by decide) (by decide) rfl dJ7_fill_53178_13 ?_
  refine ng_iinc (k := 1) (y := 1) (lv' := [(2, .int 1), (3, .int 6), (0, .ref h0), (1, .int 3)]) rfl (by decide) (by decide) rfl dJ7_fill_53178_14 ?_
  refine ng_goto (tgt := 5) dJ7_fill_53178_17 (by decide) ?_
  refine ng_iload (x := 1) 0 rfl dJ7_fill_53178_5 ?_
  refine ng_iload (x := 6) 1 rfl dJ7_fill_53178_6 ?_
  refine ng_geF (tgt := 20) dJ7_fill_53178_7 (by decide) (by decide) ?_
  refine ng_aload (x := h0) 2 rfl dJ7_fill_53178_10 ?_
  refine ng_iload (x := 1) 0 rfl dJ7_fill_53178_11 ?_
  refine ng_iload (x := 3) 3 rfl dJ7_fill_53178_12 ?_
  refine ng_iast (q0 := 0) (j := 1) (ws' := [(h0, .inl (cs 0, 6, .inl (upd (upd (fun _ => 0) 0 3) 1 3)))]) rfl (by decide) (by decide) rfl dJ7_fill_53178_13 ?_
  refine ng_iinc (k := 0) (y := 2) (lv' := [(2, .int 2), (3, .int 6), (0, .ref h0), (1, .int 3)]) rfl (by decide) (by decide) rfl dJ7_fill_53178_14 ?_
  refine ng_goto (tgt := 5) dJ7_fill_53178_17 (by decide) ?_
  refine ng_iload (x := 2) 0 rfl dJ7_fill_53178_5 ?_
  refine ng_iload (x := 6) 1 rfl dJ7_fill_53178_6 ?_
  refine ng_geF (tgt := 20) dJ7_fill_53178_7 (by decide) (by decide) ?_
  refine ng_aload (x := h0) 2 rfl dJ7_fill_53178_10 ?_
  refine ng_iload (x := 2) 0 rfl dJ7_fill_53178_11 ?_
  refine ng_iload (x := 3) 3 rfl dJ7_fill_53178_12 ?_
  refine ng_iast (q0 := 0) (j := 2) (ws' := [(h0, .inl (cs 0, 6, .inl (upd (upd (upd (fun _ => 0) 0 3) 1 3) 2 3)))]) rfl (by decide) (by decide) rfl dJ7_fill_53178_13 ?_
  refine ng_iinc (k := 0) (y := 3) (lv' := [(2, .int 3), (3, .int 6), (0, .ref h0), (1, .int 3)]) rfl (by decide) (by decide) rfl dJ7_fill_53178_14 ?_
  refine ng_goto (tgt := 5) dJ7_fill_53178_17 (by decide) ?_
  refine ng_iload (x := 3) 0 rfl dJ7_fill_53178_5 ?_
  refine ng_iload (x := 6) 1 rfl dJ7_fill_53178_6 ?_
  refine ng_geF (tgt := 20) dJ7_fill_53178_7 (by decide) (by decide) ?_
  refine ng_aload (x := h0) 2 rfl dJ7_fill_53178_10 ?_
  refine ng_iload (x := 3) 0 rfl dJ7_fill_53178_11 ?_
  refine ng_iload (x := 3) 3 rfl dJ7_fill_53178_12 ?_
  refine ng_iast (q0 := 0) (j := 3) (ws' := [(h0, .inl (cs 0, 6, .inl (upd (upd (upd (upd (fun _ => 0) 0 3) 1 3) 2 3) 3 3)))]) rfl (by decide) (by decide) rfl dJ7_fill_53178_13 ?_
  refine ng_iinc (k := 0) (y := 4) (lv' := [(2, .int 4), (3, .int 6), (0, .ref h0), (1, .int 3)]) rfl (by decide) (by decide) rfl dJ7_fill_53178_14 ?_
  refine ng_goto (tgt := 5) dJ7_fill_53178_17 (by decide) ?_
  refine ng_iload (x := 4) 0 rfl dJ7_fill_53178_5 ?_
  refine ng_iload (x := 6) 1 rfl dJ7_fill_53178_6 ?_
  refine ng_geF (tgt := 20) dJ7_fill_53178_7 (by decide) (by decide) ?_
  refine ng_aload (x := h0) 2 rfl dJ7_fill_53178_10 ?_
  refine ng_iload (x := 4) 0 rfl dJ7_fill_53178_11 ?_
  refine ng_iload (x := 3) 3 rfl dJ7_fill_53178_12 ?_
  refine ng_iast (q0 := 0) (j := 4) (ws' := [(h0, .inl (cs 0, 6, .inl (upd (upd (upd (upd (upd (fun _ => 0) 0 3) 1 3) 2 3) 3 3) 4 3)))]) rfl (by decide) (by decide) rfl dJ7_fill_53178_13 ?_
  refine ng_iinc (k := 0) (y := 5) (lv' := [(2, .int 5), (3, .int 6), (0, .ref h0), (1, .int 3)]) rfl (by decide) (by decide) rfl dJ7_fill_53178_14 ?_
  refine ng_goto (tgt := 5) dJ7_fill_53178_17 (by decide) ?_
  refine ng_iload (x := 5) 0 rfl dJ7_fill_53178_5 ?_
  refine ng_iload (x := 6) 1 rfl dJ7_fill_53178_6 ?_
  refine ng_geF (tgt := 20) dJ7_fill_53178_7 (by decide) (by decide) ?_
  refine ng_aload (x := h0) 2 rfl dJ7_fill_53178_10 ?_
  refine ng_iload (x := 5) 0 rfl dJ7_fill_53178_11 ?_
  refine ng_iload (x := 3) 3 rfl dJ7_fill_53178_12 ?_
  refine ng_iast (q0 := 0) (j := 5) (ws' := [(h0, .inl (cs 0, 6, .inl (upd (upd (upd (upd (upd (upd (fun _ => 0) 0 3) 1 3) 2 3) 3 3) 4 3) 5 3)))]) rfl (by decide) (by decide) rfl dJ7_fill_53178_13 ?_
  refine ng_iinc (k := 0) (y := 6) (lv' := [(2, .int 6), (3, .int 6), (0, .ref h0), (1, .int 3)]) rfl (by decide) (by decide) rfl dJ7_fill_53178_14 ?_
  refine ng_goto (tgt := 5) dJ7_fill_53178_17 (by decide) ?_
  refine ng_iload (x := 6) 0 rfl dJ7_fill_53178_5 ?_
  refine ng_iload (x := 6) 1 rfl dJ7_fill_53178_6 ?_
  refine ng_geT (tgt := 20) dJ7_fill_53178_7 (by decide) (by decide) ?_
  exact ng_vret rfl (Nat.le_refl _) (Nat.le_refl _) dJ7_fill_53178_20

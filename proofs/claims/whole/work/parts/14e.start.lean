theorem nw191 : (Jvm.Cond.classLink "HeelHoundsLaw" (7 : Nat) "HeelHounds") ∈ lw_tbl := lw_in1 (List.mem_of_getElem? (i := 18) (by decide +kernel))
theorem nw192 : (Jvm.Cond.instantiable "HeelHounds" (12 : Nat)) ∈ lw_tbl := lw_in1 (List.mem_of_getElem? (i := 19) (by decide +kernel))
theorem nw193 : (Jvm.Cond.methodLink "HeelHoundsLaw" (9 : Nat) ({ cls := "HeelHounds", name := "<init>", desc := "()V" } : Jvm.MethodName)) ∈ lw_tbl := lw_in1 (List.mem_of_getElem? (i := 20) (by decide +kernel))
theorem nw194 : (Jvm.Cond.instanceMethod ({ cls := "HeelHounds", name := "<init>", desc := "()V" } : Jvm.MethodName)) ∈ lw_tbl := lw_in1 (List.mem_of_getElem? (i := 21) (by decide +kernel))
theorem nw195 : (Jvm.Cond.code ({ cls := "HeelHounds", name := "<init>", desc := "()V" } : Jvm.MethodName) prog_1_method_1_code (1 : Nat) (Option.none : Option Jvm.ClassFile.FieldType)) ∈ lw_tbl := lw_in1 (List.mem_of_getElem? (i := 22) (by decide +kernel))
theorem nw227 : (Jvm.Cond.arrayClass Jvm.ClassFile.FieldType.int) ∈ lw_tbl := lw_in1 (List.mem_of_getElem? (i := 54) (by decide +kernel))
theorem nw235 : (Jvm.Cond.arrayOver (Jvm.ClassFile.FieldType.object "HeelHounds$Course")) ∈ lw_tbl := lw_in1 (List.mem_of_getElem? (i := 62) (by decide +kernel))
theorem nw1220 : (Jvm.Cond.classLink "HeelHoundsLaw" (10 : Nat) "HeelHoundsModel") ∈ lw_tbl := lw_in5 (List.mem_of_getElem? (i := 87) (by decide +kernel))
theorem nw1221 : (Jvm.Cond.instantiable "HeelHoundsModel" (56 : Nat)) ∈ lw_tbl := lw_in5 (List.mem_of_getElem? (i := 88) (by decide +kernel))
theorem nw1222 : (Jvm.Cond.methodLink "HeelHoundsLaw" (12 : Nat) ({ cls := "HeelHoundsModel", name := "<init>", desc := "()V" } : Jvm.MethodName)) ∈ lw_tbl := lw_in5 (List.mem_of_getElem? (i := 89) (by decide +kernel))
theorem nw1223 : (Jvm.Cond.instanceMethod ({ cls := "HeelHoundsModel", name := "<init>", desc := "()V" } : Jvm.MethodName)) ∈ lw_tbl := lw_in5 (List.mem_of_getElem? (i := 90) (by decide +kernel))
theorem nw1224 : (Jvm.Cond.code ({ cls := "HeelHoundsModel", name := "<init>", desc := "()V" } : Jvm.MethodName) prog_14_method_1_code (1 : Nat) (Option.none : Option Jvm.ClassFile.FieldType)) ∈ lw_tbl := lw_in5 (List.mem_of_getElem? (i := 91) (by decide +kernel))
theorem nw1395 : (Jvm.Cond.arrayClass Jvm.ClassFile.FieldType.byte) ∈ lw_tbl := lw_in6 (List.mem_of_getElem? (i := 22) (by decide +kernel))
theorem nw1396 : (Jvm.Cond.arrayClass Jvm.ClassFile.FieldType.boolean) ∈ lw_tbl := lw_in6 (List.mem_of_getElem? (i := 23) (by decide +kernel))
theorem mi_L_9 : MLi RL 9 iX11_init 0 := ⟨nw195, nw174, ⟨by decide, by decide, by decide +kernel⟩, by decide, rfl, Or.inl nw193⟩
theorem mi_L_12 : MLi RL 12 iX12_init 0 := ⟨nw1224, nw187, ⟨by decide, by decide, by decide +kernel⟩, by decide, rfl, Or.inl nw1222⟩
theorem w_ctor {p : Program} {l : Launch} {e : Env} {s : State} {m : MethodId} {args : Array Value} {below : List Frame} {meth : Method} {c : Code} {H : Heap} {locs : List Loc} {Q : State → Prop} {ls : Array Slot} {lv : List (Nat × Value)} {cs dC : Nat → ClassId} {dI : Nat → Nat → Nat} {A : Nat → Prop} {pc cells slots J0 n idx d' mc' ms' b : Nat} {x : va_E} {L : va_W} {J : HI} {As rest st0 : List Value} {G' : va_W → Prop} (hx : p.tables.exec = Jvm.exec) (hb : c.code = code) (hml : c.maxLocals = 4) (hown : s.vm.findClass RL = some m.cls) (hg : nge s) (hK : va_K (dC, dI) vwCl (hty cs) s) (hA' : ∀ q, s.heap.size ≤ q → A q) (hP : va_P (dC, dI) vwCl (L ++ [(b, x)]) H) (hD : va_D A (L ++ [(b, x)])) (hS : va_S A s.heap H locs) (hl : lv_has ls 4 lv) (ml : MLi RL idx J n) (hin : J.1.name = "<init>" ∧ Cond.instanceMethod J.1 ∈ lw_tbl) (hM : NM J d' mc' ms' (.ref b :: As) cs [(b, x)] G') (hd0 : d' ≤ 100) (hn : As.length = n) (hst : st0 = As.reverse ++ .ref b :: rest) (h8 : (rest.map fun v => v.category).sum ≤ 8) (hc : cells + mc' ≤ 600000) (hs : slots + ms' ≤ 7302250) (hd : decode code pc = .ok (.invokespecial idx, 3))
    (kk : ∀ (w1 : va_W) (H1 : Heap) (locs1 : List Loc), G' w1 → va_P (dC, dI) vwCl (L ++ w1) H1 → va_D A (L ++ w1) → va_S A s.heap H1 locs1 → W p l e room_1 s m args below meth c H1 locs1 (cells + mc') (slots + ms') Q (F0 m (pc + 3) ls rest)) : W p l e room_1 s m args below meth c H locs cells slots Q (F0 m pc ls st0) := by
  obtain ⟨w1, w2, w3, w4, w5, w6⟩ := ml
  have hPc : va_P (dC, dI) vwCl [(b, x)] H := hP.sub [L.length] (by simp)
  have hDc : va_D A [(b, x)] := hD.sub [L.length] (by rfl) (last_C L (b, x))
  have hFc := va_free (wc := [(b, x)]) hD hS hA' [L.length] (last_C L (b, x))
  have hGI : GoodIn [Cond.code J.1 J.2.1 J.2.2.1 J.2.2.2] [Cond.code J.1 J.2.1 J.2.2.1 J.2.2.2] := fun w hw => ⟨hw, by cases List.mem_singleton.mp hw; exact Or.inl rfl⟩
  have hTs : ∀ w ∈ [Cond.code J.1 J.2.1 J.2.2.1 J.2.2.2], w.before args s = true := fun w hw => by cases List.mem_singleton.mp hw; exact hg.1.use w1 rfl
  have hRm : (nrm d' mc' ms').frames + 1 ≤ room_1.frames ∧ 8 + (J.2.2.1 + 11) + (nrm d' mc' ms').locals ≤ room_1.locals := ⟨by show d' + 1 ≤ 2048; omega, by show 8 + (J.2.2.1 + 11) + 40 * d' ≤ 84000; omega⟩
  have hpre : PreS s H (va_Pc (.ref b :: As) (fun U => U.heap.size = H.size ∧ nge U ∧ va_K (dC, dI) vwCl (hty cs) U ∧ va_P (dC, dI) vwCl [(b, x)] U.heap ∧ va_D (fun _ => True) [(b, x)])) (.ref b :: As) := ⟨nblind, fun U hU hW => ⟨rfl, by rw [hU], nge_same hg (hg.1.warm hW) hW.alike, va_K.moved hW.alike hK, by rw [hU]; exact hPc, hDc.weaken (fun _ _ _ _ => trivial)⟩⟩
  have hstk : (F0 m pc ls st0).stack = As.reverse ++ .ref b :: rest := hst
  have hfit : cells + mc' ≤ room_1.cells ∧ slots + ms' ≤ room_1.slots := ⟨hc, hs⟩
  have go : ∀ (hr1 : va_Run p l e room_1 s m args below meth c H locs cells slots mc' ms' (F0 m pc ls st0) rest (nQ dC dI G' (va_A [(b, x)] H.size) (Value.ref b :: As).toArray) (va_A [(b, x)] H.size)), W p l e room_1 s m args below meth c H locs cells slots Q (F0 m pc ls st0) := fun hr1 => by
    refine va_callv hr1 hS (fun q _ h => hFc q h) hFc (fun w1 t H1 locs1 ht hvm hw hB hz1 hk1 hS1 => ?_)
    obtain ⟨hP1, hD1⟩ := hB
    rw [ht] at hP1
    obtain ⟨hP2, hD2⟩ := va_join (wr := L) (w1 := w1) hP hD [L.length] (List.range L.length) (last_C L (b, x)) (last_R L (b, x)) (nd_range _) (fun i hi hj => by rw [List.mem_range] at hi; rw [List.mem_singleton] at hj; omega) hk1 hFc hP1 hD1
    exact kk w1 H1 locs1 hw hP2 hD2 hS1
  have hcd : J.2.2.2 = none := w5
  obtain ⟨J1, J2, J3, J4⟩ := J
  obtain rfl : J4 = none := hcd
  rcases w6 with w6 | ⟨host, w6⟩
  · exact go (va_runI (As := As) (rest := rest) ⟨hx, hb, hml, hown, hTs⟩ (hM l dC dI H.size) ⟨callB_of n hTs hGI rfl rfl rfl (hg.1.use w2 rfl) (hg.1.use w6 rfl) w3 hRm, hin.1, hg.1.use hin.2 rfl⟩ hpre rfl hn hl.1 hstk (lv_room h8) hd hfit)
  · exact go (va_runIN (As := As) (rest := rest) ⟨hx, hb, hml, hown, hTs⟩ (hM l dC dI H.size) ⟨va_cnB n hTs hGI rfl rfl rfl (hg.1 _ w6 rfl) (hg.1.use w2 rfl) w3 hRm, hin.1, hg.1.use hin.2 rfl⟩ hpre rfl hn hl.1 hstk (lv_room h8) hd hfit)
theorem known_all {s : State} {A : Array Value} (hts : ∀ w ∈ lw_tbl, w.before A s = true) : ∀ k : Nat, ∃ (c0 : ClassId) (i0 : Nat → Nat), ∀ q : vw_C, vwCl[k]? = some q → u_Kn s q.1 q.2.1 q.2.2 c0 i0 := by
  intro k
  by_cases hk : 13 ≤ k
  · exact ⟨0, fun _ => 0, fun q hq => by rw [List.getElem?_eq_none (show vwCl.length ≤ k from hk)] at hq; cases hq⟩
  rcases (show k = 0 ∨ k = 1 ∨ k = 2 ∨ k = 3 ∨ k = 4 ∨ k = 5 ∨ k = 6 ∨ k = 7 ∨ k = 8 ∨ k = 9 ∨ k = 10 ∨ k = 11 ∨ k = 12 by omega) with rfl | rfl | rfl | rfl | rfl | rfl | rfl | rfl | rfl | rfl | rfl | rfl | rfl
  · obtain ⟨c0, i0, h⟩ := u_known (C := RX0) (T := TX0) (N := 3) (n := 3) (fun w hw => hts _ (uX0 w hw).1) (fun _ h => h) (hts _ nw229)
    exact ⟨c0, i0, fun q hq => by cases hq; exact h⟩
  · obtain ⟨c0, i0, h⟩ := u_known (C := RX1) (T := TX1) (N := 5) (n := 5) (fun w hw => hts _ (uX1 w hw).1) (fun _ h => h) (hts _ nw254)
    exact ⟨c0, i0, fun q hq => by cases hq; exact h⟩
  · obtain ⟨c0, i0, h⟩ := u_known (C := RX2) (T := TX2) (N := 6) (n := 6) (fun w hw => hts _ (uX2 w hw).1) (fun _ h => h) (hts _ nw382)
    exact ⟨c0, i0, fun q hq => by cases hq; exact h⟩
  · obtain ⟨c0, i0, h⟩ := u_known (C := RX3) (T := TX3) (N := 3) (n := 3) (fun w hw => hts _ (uX3 w hw).1) (fun _ h => h) (hts _ nw237)
    exact ⟨c0, i0, fun q hq => by cases hq; exact h⟩
  · obtain ⟨c0, i0, h⟩ := u_known (C := RX4) (T := TX4) (N := 2) (n := 2) (fun w hw => hts _ (uX4 w hw).1) (fun _ h => h) (hts _ nw314)
    exact ⟨c0, i0, fun q hq => by cases hq; exact h⟩
  · obtain ⟨c0, i0, h⟩ := u_known (C := RX5) (T := TX5) (N := 9) (n := 9) (fun w hw => hts _ (uX5 w hw).1) (fun _ h => h) (hts _ nw336)
    exact ⟨c0, i0, fun q hq => by cases hq; exact h⟩
  · obtain ⟨c0, i0, h⟩ := u_known (C := RX6) (T := TX6) (N := 2) (n := 2) (fun w hw => hts _ (uX6 w hw).1) (fun _ h => h) (hts _ nw330)
    exact ⟨c0, i0, fun q hq => by cases hq; exact h⟩
  · obtain ⟨c0, i0, h⟩ := u_known (C := RX7) (T := TX7) (N := 3) (n := 3) (fun w hw => hts _ (uX7 w hw).1) (fun _ h => h) (hts _ nw296)
    exact ⟨c0, i0, fun q hq => by cases hq; exact h⟩
  · obtain ⟨c0, i0, h⟩ := u_known (C := RX8) (T := TX8) (N := 6) (n := 6) (fun w hw => hts _ (uX8 w hw).1) (fun _ h => h) (hts _ nw423)
    exact ⟨c0, i0, fun q hq => by cases hq; exact h⟩
  · obtain ⟨c0, i0, h⟩ := u_known (C := RX9) (T := TX9) (N := 3) (n := 3) (fun w hw => hts _ (uX9 w hw).1) (fun _ h => h) (hts _ nw407)
    exact ⟨c0, i0, fun q hq => by cases hq; exact h⟩
  · obtain ⟨c0, i0, h⟩ := u_known (C := RX10) (T := TX10) (N := 6) (n := 6) (fun w hw => hts _ (uX10 w hw).1) (fun _ h => h) (hts _ nw200)
    exact ⟨c0, i0, fun q hq => by cases hq; exact h⟩
  · obtain ⟨c0, i0, h⟩ := u_known (C := RX11) (T := TX11) (N := 12) (n := 12) (fun w hw => hts _ (uX11 w hw).1) (fun _ h => h) (hts _ nw192)
    exact ⟨c0, i0, fun q hq => by cases hq; exact h⟩
  · obtain ⟨c0, i0, h⟩ := u_known (C := RX12) (T := TX12) (N := 56) (n := 56) (fun w hw => hts _ (uX12 w hw).1) (fun _ h => h) (hts _ nw1221)
    exact ⟨c0, i0, fun q hq => by cases hq; exact h⟩
theorem arr_all {s : State} {A : Array Value} (hts : ∀ w ∈ lw_tbl, w.before A s = true) : ∃ cs : Nat → ClassId, ∀ (k : Nat) (q : ClassId × FieldType), (hty cs)[k]? = some q → ArrOfT s q.1 q.2 ∧ va_RA s q.1 q.2 := by
  obtain ⟨c0, k0, p0, a0, b0, d0⟩ := Cond.arrayClass_spec (hts _ nw227)
  obtain ⟨c1, k1, p1, a1, b1, d1⟩ := Cond.arrayClass_spec (hts _ nw1395)
  obtain ⟨c2, k2, p2, a2, b2, d2⟩ := Cond.arrayClass_spec (hts _ nw1396)
  obtain ⟨p3, c3, k3, a3, -, b3, d3, e3⟩ := Cond.arrayOver_spec (hts _ nw235)
  refine ⟨fun k => if k = 0 then c0 else if k = 1 then c1 else if k = 2 then c2 else c3, fun k q hq => ?_⟩
  match k with
  | 0 => cases hq; exact ⟨fun n z => ⟨fun k h => (by cases h), k0, b0, p0, d0⟩, a0⟩
  | 1 => cases hq; exact ⟨fun n z => ⟨fun k h => (by cases h), k1, b1, p1, d1⟩, a1⟩
  | 2 => cases hq; exact ⟨fun n z => ⟨fun k h => (by cases h), k2, b2, p2, d2⟩, a2⟩
  | 3 => cases hq; exact ⟨fun n z => ⟨fun k h => (by cases h), k3, b3, p3, d3⟩, k3, p3, b3, d3, a3, e3⟩
  | n + 4 => cases hq
set_option maxRecDepth 100000 in
set_option maxHeartbeats 4000000 in
/-- from the entry, for every script of at most 3072 ints, the law comes to its end with true -/
theorem whole_start {p : Program} {e : Env} {s : State} {m : MethodId} {below : List Frame} {meth : Method} {c : Code} (l : Launch) (hflags : l.flags = flags0) {b L : Nat} {xs : Nat → Int32} (hL : L ≤ 3072) (C0 : lw_At p s m meth c b L xs) : W p l e room_1 s m #[Value.ref b] below meth c s.heap [] 0 0 (lw_Z below #[Value.ref b] s) (entryFrame m ([Value.ref b] : List Value).toArray 4) := by
  obtain ⟨hx, hb, hr, hml, hown0, hts, hX, hbl, hlocks, hgv⟩ := C0
  have hown : s.vm.findClass RL = some m.cls := hown0
  obtain ⟨cs, hcs⟩ := arr_all hts
  obtain ⟨dC, hdC⟩ := Classical.axiomOfChoice (known_all hts)
  obtain ⟨dI, hdI⟩ := Classical.axiomOfChoice hdC
  have hK : va_K (dC, dI) vwCl (hty cs) s := ⟨fun k q hq => hdI k q hq, hcs⟩
  have hg : nge s := ⟨fun w hw ho => va_Nw.of (hok_on ho) (hts w hw), hts _ nw235, ac_al (Vm.Alike.refl _) (hts _ nw227), ac_al (Vm.Alike.refl _) (hts _ nw1395), ac_al (Vm.Alike.refl _) (hts _ nw1396)⟩
  have hP : va_P (dC, dI) vwCl [] s.heap := fun k q h => by simp at h
  have hD : va_D (fun q => s.heap.size ≤ q) [] := ⟨fun i j x y h => by simp at h, fun k q h => by simp at h⟩
  have hS : va_S (fun q => s.heap.size ≤ q) s.heap s.heap [] := va_S.rf
  have hl := lv_entry ([Value.ref b]) (n := 4) (Nat.le_of_ble_eq_true rfl)
  rw [lg_entry_eq]
  generalize (lg_sl ([Value.ref b]) ++ List.replicate (4 - (lg_sl ([Value.ref b])).length) Slot.unset).toArray = ls at hl ⊢
  have hl : lv_has ls 4 [(0, .ref b)] := hl
  refine va_new (ci := 11) (fs := [.null, .null, .null, .null, .null, .null, .null, .null, .null, .null, .null, .int 0]) (C := RX11) (T := TX11) (N := 12) hx hb (fun w hw => hg.1.use (uX11 w hw).1 (uX11 w hw).2) (fun _ h => h) tyX11 tyX11_ok hown (hg.1.use nw191 rfl) (hg.1.use nw192 rfl) (hg.1.use nw174 rfl) hK hP hD hS (fun _ h => h) rfl (fun j hj => by rcases (show j = 0 ∨ j = 1 ∨ j = 2 ∨ j = 3 ∨ j = 4 ∨ j = 5 ∨ j = 6 ∨ j = 7 ∨ j = 8 ∨ j = 9 ∨ j = 10 ∨ j = 11 by omega) with rfl | rfl | rfl | rfl | rfl | rfl | rfl | rfl | rfl | rfl | rfl | rfl <;> rfl) (Nat.le_of_ble_eq_true rfl) (Nat.le_of_ble_eq_true rfl) dL_law_0 (fun h0 H hP hD hS => ?_)
  refine lv_dup hx hb dL_law_3 rfl ?_
  refine w_ctor (J0 := 0) (As := []) (L := []) hx hb hml hown hg hK (fun _ h => h) hP hD hS hl mi_L_9 ⟨rfl, nw194⟩ (nm_X11_init cs h0) (by decide) rfl rfl (Nat.le_of_ble_eq_true rfl) (Nat.le_of_ble_eq_true rfl) (Nat.le_of_ble_eq_true rfl) dL_law_4 (fun w1 H locs hw hP hD hS => ?_)
  obtain ⟨a, rfl⟩ := hw
  refine lv_astore_n (lv' := [(1, .ref h0), (0, .ref b)]) hx hb dL_law_7 rfl hl (by decide) rfl (fun ls hl => ?_)
  refine va_new (ci := 12) (fs := [.null, .null, .null, .null, .null, .null, .null, .null, .null, .int 0, .int 0, .null, .int 0, .int 0, .int 0, .int 0, .int 0, .int 0, .int 0, .int 0, .int 0, .int 0, .null, .null, .null, .null, .null, .null, .null, .null, .null, .null, .null, .null, .null, .null, .null, .null, .null, .int 0, .int 0, .int 0, .int 0, .null, .null, .int 0, .int 0, .int 0, .int 0, .int 0, .null, .null, .null, .null, .null, .int 0]) (C := RX12) (T := TX12) (N := 56) hx hb (fun w hw => hg.1.use (uX12 w hw).1 (uX12 w hw).2) (fun _ h => h) tyX12 tyX12_ok hown (hg.1.use nw1220 rfl) (hg.1.use nw1221 rfl) (hg.1.use nw187 rfl) hK hP hD hS (fun _ h => h) rfl (fun j hj => by rcases (show j = 0 ∨ j = 1 ∨ j = 2 ∨ j = 3 ∨ j = 4 ∨ j = 5 ∨ j = 6 ∨ j = 7 ∨ j = 8 ∨ j = 9 ∨ j = 10 ∨ j = 11 ∨ j = 12 ∨ j = 13 ∨ j = 14 ∨ j = 15 ∨ j = 16 ∨ j = 17 ∨ j = 18 ∨ j = 19 ∨ j = 20 ∨ j = 21 ∨ j = 22 ∨ j = 23 ∨ j = 24 ∨ j = 25 ∨ j = 26 ∨ j = 27 ∨ j = 28 ∨ j = 29 ∨ j = 30 ∨ j = 31 ∨ j = 32 ∨ j = 33 ∨ j = 34 ∨ j = 35 ∨ j = 36 ∨ j = 37 ∨ j = 38 ∨ j = 39 ∨ j = 40 ∨ j = 41 ∨ j = 42 ∨ j = 43 ∨ j = 44 ∨ j = 45 ∨ j = 46 ∨ j = 47 ∨ j = 48 ∨ j = 49 ∨ j = 50 ∨ j = 51 ∨ j = 52 ∨ j = 53 ∨ j = 54 ∨ j = 55 by omega) with rfl | rfl | rfl | rfl | rfl | rfl | rfl | rfl | rfl | rfl | rfl | rfl | rfl | rfl | rfl | rfl | rfl | rfl | rfl | rfl | rfl | rfl | rfl | rfl | rfl | rfl | rfl | rfl | rfl | rfl | rfl | rfl | rfl | rfl | rfl | rfl | rfl | rfl | rfl | rfl | rfl | rfl | rfl | rfl | rfl | rfl | rfl | rfl | rfl | rfl | rfl | rfl | rfl | rfl | rfl | rfl <;> rfl) (Nat.le_of_ble_eq_true rfl) (Nat.le_of_ble_eq_true rfl) dL_law_8 (fun h1 H hP hD hS => ?_)
  refine lv_dup hx hb dL_law_11 rfl ?_
  refine w_ctor (J0 := 0) (As := []) (L := [] ++ w_X11 cs h0 a) hx hb hml hown hg hK (fun _ h => h) hP hD hS hl mi_L_12 ⟨rfl, nw1223⟩ (nm_X12_init cs h1) (by decide) rfl rfl (Nat.le_of_ble_eq_true rfl) (Nat.le_of_ble_eq_true rfl) (Nat.le_of_ble_eq_true rfl) dL_law_12 (fun w1 H locs hw hP hD hS => ?_)
  obtain ⟨a', rfl⟩ := hw
  refine lv_astore_n (lv' := [(2, .ref h1), (1, .ref h0), (0, .ref b)]) hx hb dL_law_15 rfl hl (by decide) rfl (fun ls hl => ?_)
  refine lv_iconst (v := 0) hx hb dL_law_16 (by decide) ?_
  refine lv_istore_n (lv' := [(3, .int 0), (2, .ref h1), (1, .ref h0), (0, .ref b)]) hx hb dL_law_17 rfl hl (by decide) rfl (fun ls hl => ?_)
  obtain ⟨q1, q2, q3⟩ := start_pic (a := a) (a' := a') hP hD
  have C : LC p s m meth c b L xs cs dC dI (alS h0 h1 a a') := ⟨hx, hb, hr, hml, hown, hg.1, hX, hbl, hlocks, hK, q2, q3, hL⟩
  exact law_loop (l := l) (e := e) (below := below) C (L + 1) 0 M0 inv_0 (by omega) (by omega) H locs ls q1 hS (lv_sub hl [3, 2, 1, 0] rfl)

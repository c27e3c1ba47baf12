/-! MAKING: constructors, over worlds that grow -/
theorem ac_al {ty : FieldType} {args args' : Array Value} {s U : State} (hal : s.vm.Alike U.vm) (h : (Cond.arrayClass ty).before args s = true) : (Cond.arrayClass ty).before args' U = true := by
  obtain ⟨c, k, comp, h1, h2, h3⟩ := Cond.arrayClass_spec h
  obtain ⟨k', hk', he⟩ := hal.2.2 _ _ h2
  have f1 : U.vm.findClass ("[" ++ ty.toString) = some c := by rw [hal.findClass]; exact h1
  have f2 : k'.kind = .array comp ty := by rw [he]; exact h3
  simp [Cond.before, Cond.holds, Cond.value, f1, hk', f2]
theorem nge_same {u U : State} (h : hge u ∧ va_AO "HeelHounds$Course" u ∧ (Cond.arrayClass .int).before #[] u = true ∧ (Cond.arrayClass .byte).before #[] u = true ∧ (Cond.arrayClass .boolean).before #[] u = true) (hg : hge U) (hal : u.vm.Alike U.vm) : hge U ∧ va_AO "HeelHounds$Course" U ∧ (Cond.arrayClass .int).before #[] U = true ∧ (Cond.arrayClass .byte).before #[] U = true ∧ (Cond.arrayClass .boolean).before #[] U = true := ⟨hg, va_AO.moved hal h.2.1, ac_al hal h.2.2.1, ac_al hal h.2.2.2.1, ac_al hal h.2.2.2.2⟩
def nrm (d mc ms : Nat) : Room := { frames := d, cells := mc, slots := ms, locals := 40 * d }
def nge (U : State) : Prop := hge U ∧ va_AO "HeelHounds$Course" U ∧ (Cond.arrayClass .int).before #[] U = true ∧ (Cond.arrayClass .byte).before #[] U = true ∧ (Cond.arrayClass .boolean).before #[] U = true
def nQ (dC : Nat → ClassId) (dI : Nat → Nat → Nat) (G : va_W → Prop) (A : Nat → Prop) : Array Value → State → Outcome → State → Prop := va_Qv G (fun ws t => va_P (dC, dI) vwCl ws t.heap ∧ va_D A ws) A
def nCx (I : HI) (p : Program) (s : State) (m : MethodId) (meth : Method) (c : Code) (cs : Nat → ClassId) (dC : Nat → ClassId) (dI : Nat → Nat → Nat) (sz : Nat) : Prop := p.tables.exec = Jvm.exec ∧ c.code = I.2.1 ∧ c.maxLocals = I.2.2.1 ∧ s.vm.findClass I.1.cls = some m.cls ∧ meth.sig.returnType = none ∧ meth.locks = false ∧ meth.name = I.1.name ∧ nge s ∧ va_K (dC, dI) vwCl (hty cs) s ∧ s.heap.size = sz
def NG (I : HI) (R : Room) (mc ms : Nat) (cs : Nat → ClassId) (dC : Nat → ClassId) (dI : Nat → Nat → Nat) (G : va_W → Prop) (A : Nat → Prop) (sz cells slots : Nat) (ws : va_W) (pc : Nat) (lv : List (Nat × Value)) (st : List Value) : Prop :=
  (∀ q, sz ≤ q → A q) → ∀ (p : Program) (l : Launch) (e : Env) (s : State) (m : MethodId) (args : Array Value) (below : List Frame) (meth : Method) (c : Code) (H : Heap) (locs : List Loc) (ls : Array Slot), nCx I p s m meth c cs dC dI sz → va_P (dC, dI) vwCl ws H → va_D A ws → va_S A s.heap H locs → lv_has ls I.2.2.1 lv →
    W p l e R s m args below meth c H locs cells slots (MQ below (nQ dC dI G A) args s mc ms A) (F0 m pc ls st)
/-- a field of the class's own -/
def FLp (own : String) (idx ci j : Nat) (fin : Bool) (ty : FieldType) : Prop := ∃ q : vw_C, vwCl[ci]? = some q ∧ j < q.2.2 ∧ (q.2.1 j).1 = q.1 ∧ q.1 = own ∧ (∀ w ∈ u_ws q.1 q.2.1 q.2.2, w ∈ lw_tbl ∧ hok w = true) ∧ Cond.fieldLink own idx q.1 (q.2.1 j).2.1 (q.2.1 j).2.2.1 ∈ lw_tbl ∧ (∃ ty0 : Nat → FieldType, (∀ k, k < q.2.2 → parseFieldDescriptor (q.2.1 k).2.2.1 = some (ty0 k)) ∧ (∀ a, a < q.2.2 → ∀ b, b < q.2.2 → a ≠ b → (q.2.1 a).2.1 ≠ (q.2.1 b).2.1)) ∧ (q.2.1 j).2.2.2 = fin ∧ parseFieldDescriptor (q.2.1 j).2.2.1 = some ty
section NGR
variable {I : HI} {R : Room} {mc ms : Nat} {cs : Nat → ClassId} {dC : Nat → ClassId} {dI : Nat → Nat → Nat} {G : va_W → Prop} {A : Nat → Prop} {sz cells slots : Nat} {ws : va_W} {pc : Nat} {lv : List (Nat × Value)} {st : List Value}
theorem ng_aload {j : Fin 4} {x : Nat} (k : Nat) (hk : lv[k]? = some ((j : Nat), .ref x)) (hd : decode I.2.1 pc = .ok (.aload_n j, 1)) (kk : NG I R mc ms cs dC dI G A sz cells slots ws (pc + 1) lv (.ref x :: st)) : NG I R mc ms cs dC dI G A sz cells slots ws pc lv st := fun hA p l e s m args below meth c H locs ls C hP hD hS hl => lv_aload_n C.1 C.2.1 hd rfl (lv_at hl k hk) (kk hA p l e s m args below meth c H locs ls C hP hD hS hl)
theorem ng_iload {j : Fin 4} {x : Int32} (k : Nat) (hk : lv[k]? = some ((j : Nat), .int x)) (hd : decode I.2.1 pc = .ok (.iload_n j, 1)) (kk : NG I R mc ms cs dC dI G A sz cells slots ws (pc + 1) lv (.int x :: st)) : NG I R mc ms cs dC dI G A sz cells slots ws pc lv st := fun hA p l e s m args below meth c H locs ls C hP hD hS hl => lv_iload_n C.1 C.2.1 hd rfl (lv_at hl k hk) (kk hA p l e s m args below meth c H locs ls C hP hD hS hl)
theorem ng_iloadw {j : Nat} {x : Int32} (k : Nat) (hk : lv[k]? = some (j, .int x)) (hd : decode I.2.1 pc = .ok (.iload j, 2)) (kk : NG I R mc ms cs dC dI G A sz cells slots ws (pc + 2) lv (.int x :: st)) : NG I R mc ms cs dC dI G A sz cells slots ws pc lv st := fun hA p l e s m args below meth c H locs ls C hP hD hS hl => lv_iload C.1 C.2.1 hd (lv_at hl k hk) (kk hA p l e s m args below meth c H locs ls C hP hD hS hl)
theorem ng_istore {j : Fin 4} {x : Int32} {lv' : List (Nat × Value)} (hn : (j : Nat) < I.2.2.1) (hq : ((j : Nat), Value.int x) :: lv.filter (fun q => !(q.1 == (j : Nat)) && !(q.1 + 1 == (j : Nat) && q.2.category == 2)) = lv') (hd : decode I.2.1 pc = .ok (.istore_n j, 1)) (kk : NG I R mc ms cs dC dI G A sz cells slots ws (pc + 1) lv' st) : NG I R mc ms cs dC dI G A sz cells slots ws pc lv (.int x :: st) := fun hA p l e s m args below meth c H locs ls C hP hD hS hl => lv_istore_n C.1 C.2.1 hd rfl hl hn hq (fun ls hl => kk hA p l e s m args below meth c H locs ls C hP hD hS hl)
theorem ng_iinc {j k : Nat} {n : Int} {x y : Int32} {lv' : List (Nat × Value)} (hk : lv[k]? = some (j, .int x)) (hy : x + Int32.ofInt n = y) (hn : j < I.2.2.1) (hq : (j, Value.int y) :: lv.filter (fun q => !(q.1 == j) && !(q.1 + 1 == j && q.2.category == 2)) = lv') (hd : decode I.2.1 pc = .ok (.iinc j n, 3)) (kk : NG I R mc ms cs dC dI G A sz cells slots ws (pc + 3) lv' st) : NG I R mc ms cs dC dI G A sz cells slots ws pc lv st := fun hA p l e s m args below meth c H locs ls C hP hD hS hl => lv_iinc C.1 C.2.1 hd hl hk hy hn hq (fun ls hl => kk hA p l e s m args below meth c H locs ls C hP hD hS hl)
theorem ng_goto {off : Int} {tgt : Nat} (hd : decode I.2.1 pc = .ok (.goto off, 3)) (ht : (pc : Int) + off = (tgt : Int)) (kk : NG I R mc ms cs dC dI G A sz cells slots ws tgt lv st) : NG I R mc ms cs dC dI G A sz cells slots ws pc lv st := fun hA p l e s m args below meth c H locs ls C hP hD hS hl => lv_goto C.1 C.2.1 hd ht (kk hA p l e s m args below meth c H locs ls C hP hD hS hl)
theorem ng_geT {x y : Int32} {off : Int} {tgt : Nat} (hd : decode I.2.1 pc = .ok (.if_icmp .ge off, 3)) (ht : (pc : Int) + off = (tgt : Int)) (h : y ≤ x) (kk : NG I R mc ms cs dC dI G A sz cells slots ws tgt lv st) : NG I R mc ms cs dC dI G A sz cells slots ws pc lv (.int y :: .int x :: st) := fun hA p l e s m args below meth c H locs ls C hP hD hS hl => lv_icmp_ge C.1 C.2.1 hd ht (fun _ => kk hA p l e s m args below meth c H locs ls C hP hD hS hl) (fun h' => absurd h h')
theorem ng_geF {x y : Int32} {off : Int} {tgt : Nat} (hd : decode I.2.1 pc = .ok (.if_icmp .ge off, 3)) (ht : (pc : Int) + off = (tgt : Int)) (h : ¬ y ≤ x) (kk : NG I R mc ms cs dC dI G A sz cells slots ws (pc + 3) lv st) : NG I R mc ms cs dC dI G A sz cells slots ws pc lv (.int y :: .int x :: st) := fun hA p l e s m args below meth c H locs ls C hP hD hS hl => lv_icmp_ge C.1 C.2.1 hd ht (fun h' => absurd h' h) (fun _ => kk hA p l e s m args below meth c H locs ls C hP hD hS hl)
theorem ng_dup {v : Value} (hv : v.category = 1) (hd : decode I.2.1 pc = .ok (.dup, 1)) (kk : NG I R mc ms cs dC dI G A sz cells slots ws (pc + 1) lv (v :: v :: st)) : NG I R mc ms cs dC dI G A sz cells slots ws pc lv (v :: st) := fun hA p l e s m args below meth c H locs ls C hP hD hS hl => lv_dup C.1 C.2.1 hd hv (kk hA p l e s m args below meth c H locs ls C hP hD hS hl)
theorem ng_iconst {n : Int} {x : Int32} (hx : Int32.ofInt n = x) (hd : decode I.2.1 pc = .ok (.iconst n, 1)) (kk : NG I R mc ms cs dC dI G A sz cells slots ws (pc + 1) lv (.int x :: st)) : NG I R mc ms cs dC dI G A sz cells slots ws pc lv st := fun hA p l e s m args below meth c H locs ls C hP hD hS hl => lv_iconst C.1 C.2.1 hd hx (kk hA p l e s m args below meth c H locs ls C hP hD hS hl)
theorem ng_bipush {n : Int} {x : Int32} (hx : (Int8.ofInt n).toInt32 = x) (hd : decode I.2.1 pc = .ok (.bipush n, 2)) (kk : NG I R mc ms cs dC dI G A sz cells slots ws (pc + 2) lv (.int x :: st)) : NG I R mc ms cs dC dI G A sz cells slots ws pc lv st := fun hA p l e s m args below meth c H locs ls C hP hD hS hl => lv_bipush C.1 C.2.1 hd hx (kk hA p l e s m args below meth c H locs ls C hP hD hS hl)
theorem ng_sipush {n : Int} {x : Int32} (hx : (Int16.ofInt n).toInt32 = x) (hd : decode I.2.1 pc = .ok (.sipush n, 3)) (kk : NG I R mc ms cs dC dI G A sz cells slots ws (pc + 3) lv (.int x :: st)) : NG I R mc ms cs dC dI G A sz cells slots ws pc lv st := fun hA p l e s m args below meth c H locs ls C hP hD hS hl => lv_sipush C.1 C.2.1 hd hx (kk hA p l e s m args below meth c H locs ls C hP hD hS hl)
theorem ng_obj {a idx : Nat} (w1 : Cond.methodLink I.1.cls idx objectInit ∈ lw_tbl) (w2 : Cond.instanceMethod objectInit ∈ lw_tbl) (w3 : Cond.code objectInit ⟨#[0xb1]⟩ 1 none ∈ lw_tbl) (hR : 1 ≤ R.frames ∧ 20 ≤ R.locals) (h8 : (st.map fun v => v.category).sum ≤ 8) (hd : decode I.2.1 pc = .ok (.invokespecial idx, 3)) (kk : NG I R mc ms cs dC dI G A sz cells slots ws (pc + 3) lv st) : NG I R mc ms cs dC dI G A sz cells slots ws pc lv (.ref a :: st) := fun hA p l e s m args below meth c H locs ls C hP hD hS hl => by
  obtain ⟨hx, hb, hml, hown, hr, hlk, hnm, hg, hK, hz⟩ := id C
  have h9 := lv_room (m := m) (pc := pc) (ls := ls) (rest := .ref a :: st) h8
  refine W.objInit hx hb hown (hg.1.use w1 rfl) (hg.1.use w2 rfl) (hg.1.use w3 rfl) rfl (by rw [hml]; exact hl.1) rfl hd hR.1 (by omega) ?_
  exact W.eq (g2 := F0 m (pc + 3) ls st) rfl (kk hA p l e s m args below meth c H locs ls C hP hD hS hl)
theorem ng_new {ci idx : Nat} {q : vw_C} {fs : List Value} {ty : Nat → FieldType} (hq : vwCl[ci]? = some q) (hu : ∀ w ∈ u_ws q.1 q.2.1 q.2.2, w ∈ lw_tbl ∧ hok w = true) (hty : ∀ k, k < q.2.2 → parseFieldDescriptor (q.2.1 k).2.2.1 = some (ty k)) (w1 : Cond.classLink I.1.cls idx q.1 ∈ lw_tbl) (w2 : Cond.instantiable q.1 q.2.2 ∈ lw_tbl) (w3 : Cond.initialized q.1 ∈ lw_tbl) (hfs : ∀ j, j < q.2.2 → defaultValue (ty j) = vp_V fs j) (hc : cells + 1 ≤ R.cells) (hs : slots + q.2.2 ≤ R.slots) (hd : decode I.2.1 pc = .ok (.new idx, 3)) (kk : ∀ a, NG I R mc ms cs dC dI G A sz (cells + 1) (slots + q.2.2) (ws ++ [(a, .inr (ci, fs))]) (pc + 3) lv (.ref a :: st)) : NG I R mc ms cs dC dI G A sz cells slots ws pc lv st := fun hA p l e s m args below meth c H locs ls C hP hD hS hl => by
  obtain ⟨hx, hb, hml, hown, hr, hlk, hnm, hg, hK, hz⟩ := id C
  obtain ⟨C0, T, N⟩ := q
  have hts : ∀ w ∈ u_ws C0 T N, w.before args s = true := fun w hw => hg.1.use (hu w hw).1 (hu w hw).2
  exact va_new hx hb hts (fun _ h => h) ty hty hown (hg.1.use w1 rfl) (hg.1.use w2 rfl) (hg.1.use w3 rfl) hK hP hD hS (fun q hq' => hA q (by rw [← hz]; exact hq')) hq hfs hc hs hd (fun a H1 hP1 hD1 hS1 => kk a hA p l e s m args below meth c H1 locs ls C hP1 hD1 hS1 hl)
theorem ng_newi {n : Int32} {n' : Nat} (hn : ¬ n < 0) (hN : n.toNatClampNeg = n') (hby : n' * componentBytes .int ≤ 536870912) (hc : cells + 1 ≤ R.cells) (hs : slots + n' ≤ R.slots) (hd : decode I.2.1 pc = .ok (.newarray .int, 2)) (kk : ∀ a, NG I R mc ms cs dC dI G A sz (cells + 1) (slots + n') (ws ++ [(a, .inl (cs 0, n', .inl (fun _ => 0)))]) (pc + 2) lv (.ref a :: st)) : NG I R mc ms cs dC dI G A sz cells slots ws pc lv (.int n :: st) := fun hA p l e s m args below meth c H locs ls C hP hD hS hl => by
  obtain ⟨hx, hb, hml, hown, hr, hlk, hnm, hg, hK, hz⟩ := id C
  refine va_newa (atype := .int) (ty := .int) (a0 := (n', .inl (fun _ => 0))) hx hb (ac_al (Vm.Alike.refl _) hg.2.2.1) rfl hK hP hD hS (fun q hq' => hA q (by rw [← hz]; exact hq')) (fun cA => rfl) hn hN hby hc hs hd (fun a cA H1 hK1 hP1 hD1 hS1 => ?_)
  obtain rfl : cA = cs 0 := by
    have h1 : s.vm.findClass ("[" ++ FieldType.int.toString) = some cA := (hK1.2 4 (cA, .int) rfl).2
    have h2 : s.vm.findClass ("[" ++ FieldType.int.toString) = some (cs 0) := (hK.2 0 (cs 0, .int) rfl).2
    exact Option.some.inj (h1.symm.trans h2)
  exact kk a hA p l e s m args below meth c H1 locs ls C hP1 hD1 hS1 hl
theorem ng_newb {n : Int32} {n' : Nat} (hn : ¬ n < 0) (hN : n.toNatClampNeg = n') (hby : n' * componentBytes .byte ≤ 536870912) (hc : cells + 1 ≤ R.cells) (hs : slots + n' ≤ R.slots) (hd : decode I.2.1 pc = .ok (.newarray .byte, 2)) (kk : ∀ a, NG I R mc ms cs dC dI G A sz (cells + 1) (slots + n') (ws ++ [(a, .inl (cs 1, n', .inl (fun _ => 0)))]) (pc + 2) lv (.ref a :: st)) : NG I R mc ms cs dC dI G A sz cells slots ws pc lv (.int n :: st) := fun hA p l e s m args below meth c H locs ls C hP hD hS hl => by
  obtain ⟨hx, hb, hml, hown, hr, hlk, hnm, hg, hK, hz⟩ := id C
  refine va_newa (atype := .byte) (ty := .byte) (a0 := (n', .inl (fun _ => 0))) hx hb (ac_al (Vm.Alike.refl _) hg.2.2.2.1) rfl hK hP hD hS (fun q hq' => hA q (by rw [← hz]; exact hq')) (fun cA => rfl) hn hN hby hc hs hd (fun a cA H1 hK1 hP1 hD1 hS1 => ?_)
  obtain rfl : cA = cs 1 := by
    have h1 : s.vm.findClass ("[" ++ FieldType.byte.toString) = some cA := (hK1.2 4 (cA, .byte) rfl).2
    have h2 : s.vm.findClass ("[" ++ FieldType.byte.toString) = some (cs 1) := (hK.2 1 (cs 1, .byte) rfl).2
    exact Option.some.inj (h1.symm.trans h2)
  exact kk a hA p l e s m args below meth c H1 locs ls C hP1 hD1 hS1 hl
theorem ng_newz {n : Int32} {n' : Nat} (hn : ¬ n < 0) (hN : n.toNatClampNeg = n') (hby : n' * componentBytes .boolean ≤ 536870912) (hc : cells + 1 ≤ R.cells) (hs : slots + n' ≤ R.slots) (hd : decode I.2.1 pc = .ok (.newarray .boolean, 2)) (kk : ∀ a, NG I R mc ms cs dC dI G A sz (cells + 1) (slots + n') (ws ++ [(a, .inl (cs 2, n', .inl (fun _ => 0)))]) (pc + 2) lv (.ref a :: st)) : NG I R mc ms cs dC dI G A sz cells slots ws pc lv (.int n :: st) := fun hA p l e s m args below meth c H locs ls C hP hD hS hl => by
  obtain ⟨hx, hb, hml, hown, hr, hlk, hnm, hg, hK, hz⟩ := id C
  refine va_newa (atype := .boolean) (ty := .boolean) (a0 := (n', .inl (fun _ => 0))) hx hb (ac_al (Vm.Alike.refl _) hg.2.2.2.2) rfl hK hP hD hS (fun q hq' => hA q (by rw [← hz]; exact hq')) (fun cA => rfl) hn hN hby hc hs hd (fun a cA H1 hK1 hP1 hD1 hS1 => ?_)
  obtain rfl : cA = cs 2 := by
    have h1 : s.vm.findClass ("[" ++ FieldType.boolean.toString) = some cA := (hK1.2 4 (cA, .boolean) rfl).2
    have h2 : s.vm.findClass ("[" ++ FieldType.boolean.toString) = some (cs 2) := (hK.2 2 (cs 2, .boolean) rfl).2
    exact Option.some.inj (h1.symm.trans h2)
  exact kk a hA p l e s m args below meth c H1 locs ls C hP1 hD1 hS1 hl
theorem ng_newq {idx : Nat} {n : Int32} {n' : Nat} (w1 : Cond.classLink I.1.cls idx "HeelHounds$Course" ∈ lw_tbl) (hn : ¬ n < 0) (hN : n.toNatClampNeg = n') (hby : n' * 4 ≤ 536870912) (hc : cells + 1 ≤ R.cells) (hs : slots + n' ≤ R.slots) (hd : decode I.2.1 pc = .ok (.anewarray idx, 3)) (kk : ∀ a, NG I R mc ms cs dC dI G A sz (cells + 1) (slots + n') (ws ++ [(a, .inl (cs 3, n', .inr (.inr (.inr (.inr (fun _ => none))))))]) (pc + 3) lv (.ref a :: st)) : NG I R mc ms cs dC dI G A sz cells slots ws pc lv (.int n :: st) := fun hA p l e s m args below meth c H locs ls C hP hD hS hl => by
  obtain ⟨hx, hb, hml, hown, hr, hlk, hnm, hg, hK, hz⟩ := id C
  refine va_newq hx hb hown (hg.1.use w1 rfl) hg.2.1 hK hP hD hS (fun q hq' => hA q (by rw [← hz]; exact hq')) hn hN hby hc hs hd (fun a cA H1 hK1 hP1 hD1 hS1 => ?_)
  obtain rfl : cA = cs 3 := by
    obtain ⟨_, _, _, _, _, h1⟩ := (hK1.2 4 (cA, .object "HeelHounds$Course") rfl).2
    obtain ⟨_, _, _, _, _, h2⟩ := (hK.2 3 (cs 3, .object "HeelHounds$Course") rfl).2
    exact Option.some.inj (h1.symm.trans h2)
  exact kk a hA p l e s m args below meth c H1 locs ls C hP1 hD1 hS1 hl
theorem ng_put {idx ci j q0 a : Nat} {fin : Bool} {ty : FieldType} {fs : List Value} {v : Value} {ws' : va_W} (fl : FLp I.1.cls idx ci j fin ty) (hi : I.1.name = "<init>") (he : ws[q0]? = some (a, .inr (ci, fs))) (hn : narrow ty v = v) (hfit : fits ty v = true) (hj : j < fs.length) (hw : ws.set q0 (a, .inr (ci, fs.set j v)) = ws') (hd : decode I.2.1 pc = .ok (.putfield idx, 3)) (kk : NG I R mc ms cs dC dI G A sz cells slots ws' (pc + 3) lv st) : NG I R mc ms cs dC dI G A sz cells slots ws pc lv (v :: .ref a :: st) := fun hA p l e s m args below meth c H locs ls C hP hD hS hl => by
  obtain ⟨hx, hb, hml, hown, hr, hlk, hnm, hg, hK, hz⟩ := id C
  obtain ⟨⟨C0, T, N⟩, h1, h2, h3, h4, h5, h6, ⟨ty0, h7, h8⟩, h9, h10⟩ := fl
  have hts : ∀ w ∈ u_ws C0 T N, w.before args s = true := fun w hw => hg.1.use (h5 w hw).1 (h5 w hw).2
  subst hw
  cases fin with
  | false => exact va_put (ref := C0) hx hb hts (fun _ h => h) ty0 h7 h8 hown hK hP hD hS q0 he h1 j h2 (hg.1.use h6 rfl) (fun _ h => by rw [show (T j).1 = C0 from h3] at h; exact h) h9 h10 hn hfit hj hd (fun H1 locs1 hP1 hD1 hS1 => kk hA p l e s m args below meth c H1 locs1 ls C hP1 hD1 hS1 hl)
  | true => exact va_putF (ref := C0) hx hb hts (fun _ h => h) ty0 h7 h8 hown hK hP hD hS q0 he h1 j h2 (hg.1.use h6 rfl) (fun _ h => by rw [show (T j).1 = C0 from h3] at h; exact h) h9 (hnm.trans hi) (h3.trans h4) h10 hn hfit hj hd (fun H1 locs1 hP1 hD1 hS1 => kk hA p l e s m args below meth c H1 locs1 ls C hP1 hD1 hS1 hl)
theorem ng_get {idx ci j q0 a : Nat} {fin : Bool} {ty : FieldType} {fs : List Value} {v : Value} (fl : FLp I.1.cls idx ci j fin ty) (he : ws[q0]? = some (a, .inr (ci, fs))) (hv : fs[j]? = some v) (hd : decode I.2.1 pc = .ok (.getfield idx, 3)) (kk : NG I R mc ms cs dC dI G A sz cells slots ws (pc + 3) lv (v :: st)) : NG I R mc ms cs dC dI G A sz cells slots ws pc lv (.ref a :: st) := fun hA p l e s m args below meth c H locs ls C hP hD hS hl => by
  obtain ⟨hx, hb, hml, hown, hr, hlk, hnm, hg, hK, hz⟩ := id C
  obtain ⟨⟨C0, T, N⟩, h1, h2, h3, h4, h5, h6, -, -, -⟩ := fl
  have hts : ∀ w ∈ u_ws C0 T N, w.before args s = true := fun w hw => hg.1.use (h5 w hw).1 (h5 w hw).2
  exact va_get (ref := C0) hx hb hts (fun _ h => h) hown hK hP q0 he h1 j h2 (hg.1.use h6 rfl) (fun _ h => by rw [show (T j).1 = C0 from h3] at h; exact h) hv hd (kk hA p l e s m args below meth c H locs ls C hP hD hS hl)
theorem ng_iast {q0 a n j : Nat} {f : Nat → Int32} {i x : Int32} {ws' : va_W} (he : ws[q0]? = some (a, .inl (cs 0, n, .inl f))) (hi : hib i n = true) (hj : i.toNatClampNeg = j) (hw : ws.set q0 (a, .inl (cs 0, n, .inl (upd f j x))) = ws') (hd : decode I.2.1 pc = .ok (.iastore, 1)) (kk : NG I R mc ms cs dC dI G A sz cells slots ws' (pc + 1) lv st) : NG I R mc ms cs dC dI G A sz cells slots ws pc lv (.int x :: .int i :: .ref a :: st) := fun hA p l e s m args below meth c H locs ls C hP hD hS hl => by
  obtain ⟨hx, hb, hml, hown, hr, hlk, hnm, hg, hK, hz⟩ := id C
  subst hj
  subst hw
  exact va_iast hx hb hK hP hD hS q0 0 he rfl (hib_in hi) hd (fun H1 locs1 hP1 hD1 hS1 => kk hA p l e s m args below meth c H1 locs1 ls C hP1 hD1 hS1 hl)
theorem ng_alen {q0 a n : Nat} {f : Nat → Int32} {x : Int32} (he : ws[q0]? = some (a, .inl (cs 0, n, .inl f))) (hx' : Int32.ofNat n = x) (hd : decode I.2.1 pc = .ok (.arraylength, 1)) (kk : NG I R mc ms cs dC dI G A sz cells slots ws (pc + 1) lv (.int x :: st)) : NG I R mc ms cs dC dI G A sz cells slots ws pc lv (.ref a :: st) := fun hA p l e s m args below meth c H locs ls C hP hD hS hl => by
  obtain ⟨hx, hb, hml, hown, hr, hlk, hnm, hg, hK, hz⟩ := id C
  exact va_alen hx hb hK hP q0 0 he rfl hx' hd (kk hA p l e s m args below meth c H locs ls C hP hD hS hl)
theorem ng_astq {q0 qk a v n j : Nat} {f : Nat → Option Nat} {vs : List Value} {i : Int32} {ws' : va_W} (he : ws[q0]? = some (a, .inl (cs 3, n, .inr (.inr (.inr (.inr f)))))) (hv : ws[qk]? = some (v, .inr (1, vs))) (hi : hib i n = true) (hj : i.toNatClampNeg = j) (hw : ws.set q0 (a, .inl (cs 3, n, .inr (.inr (.inr (.inr (va_up f j (some v))))))) = ws') (hd : decode I.2.1 pc = .ok (.aastore, 1)) (kk : NG I R mc ms cs dC dI G A sz cells slots ws' (pc + 1) lv st) : NG I R mc ms cs dC dI G A sz cells slots ws pc lv (.ref v :: .int i :: .ref a :: st) := fun hA p l e s m args below meth c H locs ls C hP hD hS hl => by
  obtain ⟨hx, hb, hml, hown, hr, hlk, hnm, hg, hK, hz⟩ := id C
  subst hj
  subst hw
  exact va_astq (r := (RX1, TX1, 5)) hx hb hK hP hD hS q0 3 qk 1 he rfl hv rfl (hib_in hi) hd (fun H1 locs1 hP1 hD1 hS1 => kk hA p l e s m args below meth c H1 locs1 ls C hP1 hD1 hS1 hl)
theorem ng_vret (hG : G ws) (hc : cells ≤ mc) (hs : slots ≤ ms) (hd : decode I.2.1 pc = .ok (.return_, 1)) : NG I R mc ms cs dC dI G A sz cells slots ws pc lv [] := fun hA p l e s m args below meth c H locs ls C hP hD hS hl => by
  obtain ⟨hx, hb, hml, hown, hr, hlk, hnm, hg, hK, hz⟩ := id C
  refine W.widen (k := mc) (n := ms) hc hs ?_
  exact W.vret hx hb hr (fun t ht _ => ⟨⟨ws, rfl, hG, by rw [ht]; exact hP, hD⟩, hS.F ht⟩) hS.2.2 hd hlk
end NGR
/-- a constructor's contract -/
def NM (J : HI) (d mc ms : Nat) (av : List Value) (cs : Nat → ClassId) (w0 : va_W) (G : va_W → Prop) : Prop := ∀ (l : Launch) (dC : Nat → ClassId) (dI : Nat → Nat → Nat) (sz : Nat), Met l J.1 [.code J.1 J.2.1 J.2.2.1 J.2.2.2] (nrm d mc ms) (va_Pc av (fun U => U.heap.size = sz ∧ nge U ∧ va_K (dC, dI) vwCl (hty cs) U ∧ va_P (dC, dI) vwCl w0 U.heap ∧ va_D (fun _ => True) w0)) (nQ dC dI G (va_A w0 sz)) mc ms (va_A w0 sz)
theorem nm_of {J : HI} {d mc ms : Nat} {av : List Value} {cs : Nat → ClassId} {w0 : va_W} {G : va_W → Prop} (hpl : plainName J.1.cls = true) (hr : J.2.2.2 = none) (hn : (lg_sl av).length ≤ J.2.2.1) (k : ∀ dC dI sz, NG J (nrm d mc ms) mc ms cs dC dI G (va_A w0 sz) sz 0 0 w0 0 (lv_args 0 av) []) : NM J d mc ms av cs w0 G := by
  intro l dC dI sz
  refine Met.ofW (cc := J.2.1) (maxL := J.2.2.1) (ret := J.2.2.2) hpl rfl ?_
  intro p e s m args below meth c s₁ B hml hv
  obtain ⟨rfl, hz, hg, hK, hP, hD⟩ := hv
  have hl := lv_entry av (n := J.2.2.1) hn
  rw [lg_entry_eq]
  exact k dC dI sz (fun q hq => Or.inr hq) p l e s m _ below meth c s.heap [] _ ⟨B.exec, B.bytes, hml, findClass_of_methodNamed B.named, B.returns.trans hr, B.notSynchronized, (name_of_methodNamed B.named B.method).1, hg, hK, hz⟩ hP hD.self va_S.rf hl
theorem nblind {av : List Value} {cs : Nat → ClassId} {dC : Nat → ClassId} {dI : Nat → Nat → Nat} {sz : Nat} {w0 : va_W} : FrameBlind (va_Pc av (fun U => U.heap.size = sz ∧ nge U ∧ va_K (dC, dI) vwCl (hty cs) U ∧ va_P (dC, dI) vwCl w0 U.heap ∧ va_D (fun _ => True) w0)) := by
  intro a U g mk q
  obtain ⟨q0, q1, q2, q3, q4, q5⟩ := q
  exact ⟨q0, q1, nge_same q2 (q2.1.same rfl) (Vm.Alike.refl U.vm), va_K.moved (u := U) (U := U.calling g mk a) (Vm.Alike.refl U.vm) q3, q4, q5⟩
/-- a method's link, of a constructor or of a static method -/
def MLi (own : String) (idx : Nat) (J : HI) (n : Nat) : Prop := (Cond.code J.1 J.2.1 J.2.2.1 J.2.2.2 ∈ lw_tbl) ∧ Cond.initialized J.1.cls ∈ lw_tbl ∧ (J.1.cls ≠ "java/lang/invoke/MethodHandle" ∧ J.1.cls ≠ "java/lang/invoke/VarHandle" ∧ (parseMethodDescriptor J.1.desc).map (fun d => d.parameters.length) = some n) ∧ J.2.2.1 ≤ 21 ∧ J.2.2.2 = none ∧ (Cond.methodLink own idx J.1 ∈ lw_tbl ∨ ∃ host, Cond.methodLinkNest own idx J.1 host ∈ lw_tbl)
section NGC
variable {I : HI} {d mc ms : Nat} {cs : Nat → ClassId} {dC : Nat → ClassId} {dI : Nat → Nat → Nat} {G : va_W → Prop} {A : Nat → Prop} {sz cells slots mcR msR : Nat} {pc : Nat} {lv : List (Nat × Value)}
theorem last_C (L : va_W) (x : Nat × va_E) : [L.length].map (fun i => (L ++ [x])[i]?) = [x].map some := by
  simp
theorem last_R (L : va_W) (x : Nat × va_E) : (List.range L.length).map (fun i => (L ++ [x])[i]?) = L.map some := by
  apply List.ext_getElem?
  intro i
  rw [List.getElem?_map, List.getElem?_map]
  by_cases h : i < L.length
  · rw [List.getElem?_range h, Option.map_some, List.getElem?_append_left h]
    rw [List.getElem?_eq_getElem h]; rfl
  · rw [List.getElem?_eq_none (by rw [List.length_range]; omega), List.getElem?_eq_none (by omega)]; rfl
theorem nd_range : ∀ n, va_nd (List.range n) = true := by
  have key : ∀ l : List Nat, l.Nodup → va_nd l = true := by
    intro l
    induction l with
    | nil => intro _; rfl
    | cons a l ih =>
      intro h
      rw [List.nodup_cons] at h
      simp only [va_nd, Bool.and_eq_true, decide_eq_true_eq]
      exact ⟨h.1, ih h.2⟩
  exact fun n => key _ List.nodup_range
/-- a call of a constructor, of the cell that is the last -/
theorem ng_call {J : HI} {n idx d' mc' ms' b : Nat} {x : va_E} {L : va_W} {As rest st0 : List Value} {G' : va_W → Prop} (ml : MLi I.1.cls idx J n) (hin : J.1.name = "<init>" ∧ Cond.instanceMethod J.1 ∈ lw_tbl) (hM : NM J d' mc' ms' (.ref b :: As) cs [(b, x)] G') (hd0 : d' + 1 ≤ d) (hn : As.length = n) (hst : st0 = As.reverse ++ .ref b :: rest) (h8 : (rest.map fun v => v.category).sum ≤ 8) (hc : cells + mc' ≤ mcR) (hs : slots + ms' ≤ msR) (hd : decode I.2.1 pc = .ok (.invokespecial idx, 3))
    (kk : ∀ w1, G' w1 → NG I (nrm d mcR msR) mc ms cs dC dI G A sz (cells + mc') (slots + ms') (L ++ w1) (pc + 3) lv rest) : NG I (nrm d mcR msR) mc ms cs dC dI G A sz cells slots (L ++ [(b, x)]) pc lv st0 := fun hA p l e s m args below meth c H locs ls C hP hD hS hl => by
  obtain ⟨hx, hb, hml, hown, hr, hlk, hnm, hg, hK, hz⟩ := id C
  obtain ⟨w1, w2, w3, w4, w5, w6⟩ := ml
  have hA' : ∀ q, s.heap.size ≤ q → A q := fun q hq' => hA q (by rw [← hz]; exact hq')
  have hPc : va_P (dC, dI) vwCl [(b, x)] H := hP.sub [L.length] (by simp)
  have hDc : va_D A [(b, x)] := hD.sub [L.length] (by rfl) (last_C L (b, x))
  have hFc := va_free (wc := [(b, x)]) hD hS hA' [L.length] (last_C L (b, x))
  have hGI : GoodIn [Cond.code J.1 J.2.1 J.2.2.1 J.2.2.2] [Cond.code J.1 J.2.1 J.2.2.1 J.2.2.2] := fun w hw => ⟨hw, by cases List.mem_singleton.mp hw; exact Or.inl rfl⟩
  have hTs : ∀ w ∈ [Cond.code J.1 J.2.1 J.2.2.1 J.2.2.2], w.before args s = true := fun w hw => by cases List.mem_singleton.mp hw; exact hg.1.use w1 rfl
  have hRm : (nrm d' mc' ms').frames + 1 ≤ (nrm d mcR msR).frames ∧ 8 + (J.2.2.1 + 11) + (nrm d' mc' ms').locals ≤ (nrm d mcR msR).locals := ⟨hd0, by show 8 + (J.2.2.1 + 11) + 40 * d' ≤ 40 * d; omega⟩
  have hpre : PreS s H (va_Pc (.ref b :: As) (fun U => U.heap.size = H.size ∧ nge U ∧ va_K (dC, dI) vwCl (hty cs) U ∧ va_P (dC, dI) vwCl [(b, x)] U.heap ∧ va_D (fun _ => True) [(b, x)])) (.ref b :: As) := ⟨nblind, fun U hU hW => ⟨rfl, by rw [hU], nge_same hg (hg.1.warm hW) hW.alike, va_K.moved hW.alike hK, by rw [hU]; exact hPc, hDc.weaken (fun _ _ _ _ => trivial)⟩⟩
  have hstk : (F0 m pc ls st0).stack = As.reverse ++ .ref b :: rest := hst
  have hfit : cells + mc' ≤ (nrm d mcR msR).cells ∧ slots + ms' ≤ (nrm d mcR msR).slots := ⟨hc, hs⟩
  have go : ∀ (hr1 : va_Run p l e (nrm d mcR msR) s m args below meth c H locs cells slots mc' ms' (F0 m pc ls st0) rest (nQ dC dI G' (va_A [(b, x)] H.size) (Value.ref b :: As).toArray) (va_A [(b, x)] H.size)), W p l e (nrm d mcR msR) s m args below meth c H locs cells slots (MQ below (nQ dC dI G A) args s mc ms A) (F0 m pc ls st0) := fun hr1 => by
    refine va_callv hr1 hS (fun q _ h => hFc q h) hFc (fun w1 t H1 locs1 ht hvm hw hB hz1 hk1 hS1 => ?_)
    obtain ⟨hP1, hD1⟩ := hB
    rw [ht] at hP1
    obtain ⟨hP2, hD2⟩ := va_join (wr := L) (w1 := w1) hP hD [L.length] (List.range L.length) (last_C L (b, x)) (last_R L (b, x)) (nd_range _) (fun i hi hj => by rw [List.mem_range] at hi; rw [List.mem_singleton] at hj; omega) hk1 hFc hP1 hD1
    exact kk w1 hw hA p l e s m args below meth c H1 locs1 ls C hP2 hD2 hS1 hl
  have hcd : J.2.2.2 = none := w5
  obtain ⟨J1, J2, J3, J4⟩ := J
  obtain rfl : J4 = none := hcd
  rcases w6 with w6 | ⟨host, w6⟩
  · exact go (va_runI (As := As) (rest := rest) ⟨hx, hb, hml, hown, hTs⟩ (hM l dC dI H.size) ⟨callB_of n hTs hGI rfl rfl rfl (hg.1.use w2 rfl) (hg.1.use w6 rfl) w3 hRm, hin.1, hg.1.use hin.2 rfl⟩ hpre rfl hn hl.1 hstk (lv_room h8) hd hfit)
  · exact go (va_runIN (As := As) (rest := rest) ⟨hx, hb, hml, hown, hTs⟩ (hM l dC dI H.size) ⟨va_cnB n hTs hGI rfl rfl rfl (hg.1 _ w6 rfl) (hg.1.use w2 rfl) w3 hRm, hin.1, hg.1.use hin.2 rfl⟩ hpre rfl hn hl.1 hstk (lv_room h8) hd hfit)
/-- a call of a static method, of the cell that is the last -/
theorem ng_stat {J : HI} {n idx d' mc' ms' : Nat} {x : Nat × va_E} {L : va_W} {As rest st0 : List Value} {G' : va_W → Prop} (ml : MLi I.1.cls idx J n) (hin : Cond.static J.1 ∈ lw_tbl) (hM : NM J d' mc' ms' As cs [x] G') (hd0 : d' + 1 ≤ d) (hn : As.length = n) (hst : st0 = As.reverse ++ rest) (h8 : (rest.map fun v => v.category).sum ≤ 8) (hc : cells + mc' ≤ mcR) (hs : slots + ms' ≤ msR) (hd : decode I.2.1 pc = .ok (.invokestatic idx, 3))
    (kk : ∀ w1, G' w1 → NG I (nrm d mcR msR) mc ms cs dC dI G A sz (cells + mc') (slots + ms') (L ++ w1) (pc + 3) lv rest) : NG I (nrm d mcR msR) mc ms cs dC dI G A sz cells slots (L ++ [x]) pc lv st0 := fun hA p l e s m args below meth c H locs ls C hP hD hS hl => by
  obtain ⟨hx, hb, hml, hown, hr, hlk, hnm, hg, hK, hz⟩ := id C
  obtain ⟨w1, w2, w3, w4, w5, w6⟩ := ml
  have hA' : ∀ q, s.heap.size ≤ q → A q := fun q hq' => hA q (by rw [← hz]; exact hq')
  have hPc : va_P (dC, dI) vwCl [x] H := hP.sub [L.length] (by simp)
  have hDc : va_D A [x] := hD.sub [L.length] (by rfl) (last_C L x)
  have hFc := va_free (wc := [x]) hD hS hA' [L.length] (last_C L x)
  have hGI : GoodIn [Cond.code J.1 J.2.1 J.2.2.1 J.2.2.2] [Cond.code J.1 J.2.1 J.2.2.1 J.2.2.2] := fun w hw => ⟨hw, by cases List.mem_singleton.mp hw; exact Or.inl rfl⟩
  have hTs : ∀ w ∈ [Cond.code J.1 J.2.1 J.2.2.1 J.2.2.2], w.before args s = true := fun w hw => by cases List.mem_singleton.mp hw; exact hg.1.use w1 rfl
  have hRm : (nrm d' mc' ms').frames + 1 ≤ (nrm d mcR msR).frames ∧ 8 + (J.2.2.1 + 11) + (nrm d' mc' ms').locals ≤ (nrm d mcR msR).locals := ⟨hd0, by show 8 + (J.2.2.1 + 11) + 40 * d' ≤ 40 * d; omega⟩
  have hpre : PreS s H (va_Pc As (fun U => U.heap.size = H.size ∧ nge U ∧ va_K (dC, dI) vwCl (hty cs) U ∧ va_P (dC, dI) vwCl [x] U.heap ∧ va_D (fun _ => True) [x])) As := ⟨nblind, fun U hU hW => ⟨rfl, by rw [hU], nge_same hg (hg.1.warm hW) hW.alike, va_K.moved hW.alike hK, by rw [hU]; exact hPc, hDc.weaken (fun _ _ _ _ => trivial)⟩⟩
  have hfit : cells + mc' ≤ (nrm d mcR msR).cells ∧ slots + ms' ≤ (nrm d mcR msR).slots := ⟨hc, hs⟩
  have go : ∀ (hr1 : va_Run p l e (nrm d mcR msR) s m args below meth c H locs cells slots mc' ms' (F0 m pc ls st0) rest (nQ dC dI G' (va_A [x] H.size) As.toArray) (va_A [x] H.size)), W p l e (nrm d mcR msR) s m args below meth c H locs cells slots (MQ below (nQ dC dI G A) args s mc ms A) (F0 m pc ls st0) := fun hr1 => by
    refine va_callv hr1 hS (fun q _ h => hFc q h) hFc (fun w1 t H1 locs1 ht hvm hw hB hz1 hk1 hS1 => ?_)
    obtain ⟨hP1, hD1⟩ := hB
    rw [ht] at hP1
    obtain ⟨hP2, hD2⟩ := va_join (wr := L) (w1 := w1) hP hD [L.length] (List.range L.length) (last_C L x) (last_R L x) (nd_range _) (fun i hi hj => by rw [List.mem_range] at hi; rw [List.mem_singleton] at hj; omega) hk1 hFc hP1 hD1
    exact kk w1 hw hA p l e s m args below meth c H1 locs1 ls C hP2 hD2 hS1 hl
  rcases w6 with w6 | ⟨host, w6⟩
  · exact go (va_runS (As := As) (rest := rest) ⟨hx, hb, hml, hown, hTs⟩ (hM l dC dI H.size) ⟨callB_of n hTs hGI rfl rfl rfl (hg.1.use w2 rfl) (hg.1.use w6 rfl) w3 hRm, hg.1.use hin rfl⟩ hpre rfl hn hl.1 hst (lv_room h8) hd hfit)
  · exact go (va_runSN (As := As) (rest := rest) ⟨hx, hb, hml, hown, hTs⟩ (hM l dC dI H.size) ⟨va_cnB n hTs hGI rfl rfl rfl (hg.1 _ w6 rfl) (hg.1.use w2 rfl) w3 hRm, hg.1.use hin rfl, trivial⟩ hpre rfl hn hl.1 hst (lv_room h8) hd hfit)
end NGC

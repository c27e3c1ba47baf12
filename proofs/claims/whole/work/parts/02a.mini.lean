/-! THE MINI MACHINE: one memory of ints over a fixed shape of cells; a judgement GX over it, sound for the machine -/
abbrev HMem : Type := Nat → Nat → Int32
abbrev HV : Type := Int32 ⊕ Option Nat
abbrev HI : Type := MethodName × ByteArray × Nat × Option FieldType
abbrev HS : Type := (Nat × List (Option Nat)) ⊕ (Nat × Nat) ⊕ List Nat
def hval (al : Nat → Nat) (v : HV) : Value := match v with
  | .inl i => .int i
  | .inr r => va_rf (r.map al)
theorem hval_cat (al : Nat → Nat) (v : HV) : (hval al v).category = 1 := by
  rcases v with i | (_ | k) <;> rfl
def hshp : List HS := [
  .inl (11, [some 1, some 3, some 8, some 10, some 14, some 23, some 31, some 32, some 35, some 40, some 45, none]),
  .inl (10, [some 2, none, none, none, none, none]),
  .inr (.inl (0, 260)),
  .inl (0, [some 4, some 5, none]),
  .inr (.inr [50, 53, 56, 59, 62, 65, 68, 71]),
  .inl (3, [some 6, some 7, none]),
  .inr (.inl (0, 192)),
  .inr (.inl (0, 192)),
  .inl (7, [some 1, some 9, none]),
  .inr (.inl (0, 96)),
  .inl (4, [some 1, some 11]),
  .inl (3, [some 12, some 13, none]),
  .inr (.inl (0, 192)),
  .inr (.inl (0, 192)),
  .inl (6, [some 1, some 15]),
  .inl (5, [some 16, some 17, some 18, none, some 19, some 20, none, some 21, some 22]),
  .inr (.inl (0, 16)),
  .inr (.inl (0, 16)),
  .inr (.inl (0, 16)),
  .inr (.inl (0, 240)),
  .inr (.inl (0, 240)),
  .inr (.inl (0, 8)),
  .inr (.inl (0, 32)),
  .inl (5, [some 24, some 25, some 26, none, some 27, some 28, none, some 29, some 30]),
  .inr (.inl (0, 16)),
  .inr (.inl (0, 16)),
  .inr (.inl (0, 16)),
  .inr (.inl (0, 240)),
  .inr (.inl (0, 240)),
  .inr (.inl (0, 8)),
  .inr (.inl (0, 32)),
  .inl (2, [some 3, some 23, none, none, none, none]),
  .inl (9, [some 3, some 33, some 34]),
  .inr (.inl (0, 192)),
  .inr (.inl (0, 192)),
  .inl (8, [some 36, some 37, some 38, some 39, none, none]),
  .inr (.inl (0, 6)),
  .inr (.inl (0, 6)),
  .inr (.inl (0, 6)),
  .inr (.inl (0, 6)),
  .inl (8, [some 41, some 42, some 43, some 44, none, none]),
  .inr (.inl (0, 6)),
  .inr (.inl (0, 6)),
  .inr (.inl (0, 6)),
  .inr (.inl (0, 6)),
  .inl (8, [some 46, some 47, some 48, some 49, none, none]),
  .inr (.inl (0, 6)),
  .inr (.inl (0, 6)),
  .inr (.inl (0, 6)),
  .inr (.inl (0, 6)),
  .inl (1, [some 51, some 52, none, none, none]),
  .inr (.inl (0, 96)),
  .inr (.inl (0, 97)),
  .inl (1, [some 54, some 55, none, none, none]),
  .inr (.inl (0, 96)),
  .inr (.inl (0, 97)),
  .inl (1, [some 57, some 58, none, none, none]),
  .inr (.inl (0, 96)),
  .inr (.inl (0, 97)),
  .inl (1, [some 60, some 61, none, none, none]),
  .inr (.inl (0, 96)),
  .inr (.inl (0, 97)),
  .inl (1, [some 63, some 64, none, none, none]),
  .inr (.inl (0, 96)),
  .inr (.inl (0, 97)),
  .inl (1, [some 66, some 67, none, none, none]),
  .inr (.inl (0, 96)),
  .inr (.inl (0, 97)),
  .inl (1, [some 69, some 70, none, none, none]),
  .inr (.inl (0, 96)),
  .inr (.inl (0, 97)),
  .inl (1, [some 72, some 73, none, none, none]),
  .inr (.inl (0, 96)),
  .inr (.inl (0, 97)),
  .inl (12, [some 75, some 76, some 77, some 78, some 79, some 80, some 81, some 82, some 83, none, none, some 84, none, none, none, none, none, none, none, none, none, none, some 85, some 86, some 87, some 88, some 89, some 90, some 91, some 92, some 93, some 94, some 95, some 96, some 97, some 98, some 99, some 100, some 101, none, none, none, none, some 102, some 103, none, none, none, none, none, some 104, some 105, some 106, some 107, some 108, none]),
  .inr (.inl (0, 32)),
  .inr (.inl (0, 32)),
  .inr (.inl (0, 32)),
  .inr (.inl (0, 8)),
  .inr (.inl (0, 8)),
  .inr (.inl (0, 768)),
  .inr (.inl (0, 776)),
  .inr (.inl (0, 192)),
  .inr (.inl (0, 192)),
  .inr (.inl (1, 260)),
  .inr (.inl (0, 260)),
  .inr (.inl (0, 260)),
  .inr (.inl (0, 16)),
  .inr (.inl (0, 16)),
  .inr (.inl (0, 16)),
  .inr (.inl (0, 16)),
  .inr (.inl (0, 260)),
  .inr (.inl (0, 16)),
  .inr (.inl (0, 16)),
  .inr (.inl (0, 16)),
  .inr (.inl (0, 16)),
  .inr (.inl (0, 260)),
  .inr (.inl (0, 8)),
  .inr (.inl (0, 96)),
  .inr (.inl (0, 2)),
  .inr (.inl (0, 2)),
  .inr (.inl (0, 2)),
  .inr (.inl (0, 192)),
  .inr (.inl (0, 192)),
  .inr (.inl (0, 97)),
  .inr (.inl (0, 10)),
  .inr (.inl (0, 192)),
  .inr (.inl (0, 192)),
  .inr (.inl (2, 192))]
def hfld (al : Nat → Nat) (M : HMem) (k j : Nat) (f : Option Nat) : Value := match f with
  | none => .int (M k j)
  | some t => .ref (al t)
def hcell (al : Nat → Nat) (cs : Nat → ClassId) (M : HMem) (k : Nat) (e : HS) : va_E := match e with
  | .inl (ci, fs) => .inr (ci, fs.mapIdx (hfld al M k))
  | .inr (.inl (t, n)) => .inl (cs t, n, .inl (M k))
  | .inr (.inr ts) => .inl (cs 3, ts.length, .inr (.inr (.inr (.inr (fun j => (ts[j]?).map al)))))
def hpic (al : Nat → Nat) (cs : Nat → ClassId) (M : HMem) : va_W := hshp.mapIdx (fun k e => (al k, hcell al cs M k e))
theorem hpic_get {al : Nat → Nat} {cs : Nat → ClassId} {M : HMem} {k : Nat} {e : HS} (h : hshp[k]? = some e) : (hpic al cs M)[k]? = some (al k, hcell al cs M k e) := by
  rw [hpic, List.getElem?_mapIdx, h]; rfl
def hput (M : HMem) (k : Nat) (f : Nat → Int32) : HMem := fun k' => if k' = k then f else M k'
def hset (M : HMem) (k j : Nat) (v : Int32) : HMem := hput M k (upd (M k) j v)
theorem hput_self (M : HMem) (k : Nat) (f : Nat → Int32) : hput M k f k = f := if_pos rfl
theorem hput_ne (M : HMem) {k k' : Nat} (f : Nat → Int32) (h : k' ≠ k) : hput M k f k' = M k' := if_neg h
theorem hcell_congr {al : Nat → Nat} {cs : Nat → ClassId} {M M' : HMem} {k : Nat} {e : HS} (h : M k = M' k) : hcell al cs M k e = hcell al cs M' k e := by
  have hf : hfld al M k = hfld al M' k := by funext j f; cases f <;> simp [hfld, h]
  rcases e with ⟨ci, fs⟩ | ⟨t, n⟩ | ts
  · simp only [hcell, hf]
  · simp only [hcell, h]
  · rfl
theorem hpic_put {al : Nat → Nat} {cs : Nat → ClassId} {M : HMem} {k : Nat} {f : Nat → Int32} {e : HS} {e' : va_E} (h : hshp[k]? = some e) (he : hcell al cs (hput M k f) k e = e') : (hpic al cs M).set k (al k, e') = hpic al cs (hput M k f) := by
  apply List.ext_getElem?
  intro i
  by_cases hi : i = k
  · subst hi
    have hg := hpic_get (al := al) (cs := cs) (M := M) h
    rw [hpic_get h, List.getElem?_set_self (List.getElem?_eq_some_iff.mp hg).1, he]
  · rw [List.getElem?_set_ne (Ne.symm hi), hpic, hpic, List.getElem?_mapIdx, List.getElem?_mapIdx]
    cases hshp[i]? with
    | none => rfl
    | some x =>
      show some (al i, _) = some (al i, _)
      rw [hcell_congr (hput_ne M f hi)]
theorem hfld_set {al : Nat → Nat} {M : HMem} {k j : Nat} {v : Int32} {fs : List (Option Nat)} (h : fs[j]? = some none) : (fs.mapIdx (hfld al M k)).set j (.int v) = fs.mapIdx (hfld al (hset M k j v) k) := by
  apply List.ext_getElem?
  intro i
  by_cases hi : i = j
  · subst hi
    have hl : i < (fs.mapIdx (hfld al M k)).length := by rw [List.length_mapIdx]; exact (List.getElem?_eq_some_iff.mp h).1
    rw [List.getElem?_set_self hl, List.getElem?_mapIdx, h]
    show some _ = some (Value.int _)
    rw [hset, hput_self]
    simp [upd]
  · rw [List.getElem?_set_ne (Ne.symm hi), List.getElem?_mapIdx, List.getElem?_mapIdx]
    cases fs[i]? with
    | none => rfl
    | some x =>
      cases x with
      | none =>
        show some (Value.int _) = some (Value.int _)
        rw [hset, hput_self]
        simp [upd, hi]
      | some t => rfl
def hal (al : Nat → Nat) : Prop := ∀ i j, i < 109 → j < 109 → al i = al j → i = j
def hin (al : Nat → Nat) : Nat → Prop := fun q => ∃ k, k < 109 ∧ q = al k
theorem hshp_len : hshp.length = 109 := by decide +kernel
theorem hpic_addr {al : Nat → Nat} {cs : Nat → ClassId} {M : HMem} {i : Nat} {q : Nat × va_E} (h : (hpic al cs M)[i]? = some q) : i < 109 ∧ q.1 = al i := by
  have hl := (List.getElem?_eq_some_iff.mp h).1
  rw [hpic, List.length_mapIdx, hshp_len] at hl
  rw [hpic, List.getElem?_mapIdx] at h
  refine ⟨hl, ?_⟩
  cases hx : hshp[i]? with
  | none => rw [hx] at h; cases h
  | some x => rw [hx] at h; cases h; rfl
theorem hpic_D {al : Nat → Nat} (cs : Nat → ClassId) (M : HMem) (h : hal al) : va_D (hin al) (hpic al cs M) := by
  refine ⟨fun i j p q hi hj hpq => ?_, fun k q hk => ?_⟩
  · obtain ⟨a1, a2⟩ := hpic_addr hi
    obtain ⟨b1, b2⟩ := hpic_addr hj
    exact h i j a1 b1 (by rw [← a2, ← b2]; exact hpq)
  · obtain ⟨a1, a2⟩ := hpic_addr hk
    exact ⟨k, a1, a2⟩
def hty (cs : Nat → ClassId) : List (ClassId × FieldType) := [(cs 0, .int), (cs 1, .byte), (cs 2, .boolean), (cs 3, .object "HeelHounds$Course")]
-- locals
def hlps (al : Nat → Nat) (lv : List (Option HV)) : List (Nat × Value) := (List.range lv.length).filterMap (fun i => (lv[i]?.bind id).map (fun v => (i, hval al v)))
theorem hlps_mem {al : Nat → Nat} {lv : List (Option HV)} {i : Nat} {w : Value} : (i, w) ∈ hlps al lv ↔ ∃ v, lv[i]? = some (some v) ∧ w = hval al v := by
  rw [hlps, List.mem_filterMap]
  constructor
  · rintro ⟨j, -, hj⟩
    cases hv : lv[j]? with
    | none => rw [hv] at hj; cases hj
    | some x =>
      cases x with
      | none => rw [hv] at hj; cases hj
      | some v => rw [hv] at hj; cases hj; exact ⟨v, hv, rfl⟩
  · rintro ⟨v, hv, rfl⟩
    exact ⟨i, List.mem_range.mpr (List.getElem?_eq_some_iff.mp hv).1, by rw [hv]; rfl⟩
theorem hl_at {al : Nat → Nat} {ls : Array Slot} {nL : Nat} {lv : List (Option HV)} (h : lv_has ls nL (hlps al lv)) {i : Nat} {v : HV} (hi : lv[i]? = some (some v)) : ls[i]? = some (.val (hval al v)) := h.2.2 (i, hval al v) (hlps_mem.mpr ⟨v, hi, rfl⟩)
theorem hl_set {al : Nat → Nat} {ls : Array Slot} {nL : Nat} {lv : List (Option HV)} {i : Nat} {v : HV} (h : lv_has ls nL ((i, hval al v) :: (hlps al lv).filter (fun q => !(q.1 == i) && !(q.1 + 1 == i && q.2.category == 2)))) : lv_has ls nL (hlps al (lv.set i (some v))) := by
  refine ⟨h.1, h.2.1, fun q hq => ?_⟩
  obtain ⟨j, w⟩ := q
  obtain ⟨x, hx, rfl⟩ := hlps_mem.mp hq
  by_cases hj : j = i
  · subst hj
    have hlt : j < lv.length := by
      have := (List.getElem?_eq_some_iff.mp hx).1
      simpa using this
    rw [List.getElem?_set_self hlt] at hx
    cases hx
    exact h.2.2 _ List.mem_cons_self
  · rw [List.getElem?_set_ne (Ne.symm hj)] at hx
    refine h.2.2 _ (List.mem_cons_of_mem _ (List.mem_filter.mpr ⟨hlps_mem.mpr ⟨x, hx, rfl⟩, ?_⟩))
    simp [hj, hval_cat]
def hmask (ms : List Bool) (lv : List (Option HV)) : List (Option HV) := lv.mapIdx (fun i x => if ms[i]? = some true then x else none)
theorem hl_mask {al : Nat → Nat} {ls : Array Slot} {nL : Nat} {lv : List (Option HV)} (ms : List Bool) (h : lv_has ls nL (hlps al lv)) : lv_has ls nL (hlps al (hmask ms lv)) := by
  refine ⟨h.1, h.2.1, fun q hq => ?_⟩
  obtain ⟨j, w⟩ := q
  obtain ⟨x, hx, rfl⟩ := hlps_mem.mp hq
  rw [hmask, List.getElem?_mapIdx] at hx
  cases hv : lv[j]? with
  | none => rw [hv] at hx; cases hx
  | some y =>
    rw [hv] at hx
    have hx' : (if ms[j]? = some true then y else none) = some x := Option.some.inj hx
    split at hx'
    · subst hx'; exact hl_at h hv
    · cases hx'
-- the judgement
def hrm (d : Nat) : Room := { frames := d, cells := 0, slots := 0, locals := 40 * d }
def hnest (w : Cond) : Bool := match w with
  | .fieldLinkNest .. => true
  | .methodLinkNest .. => true
  | _ => false
def hok (w : Cond) : Bool := w.onTables && (w.keeps || hnest w)
def hge (U : State) : Prop := ∀ w ∈ lw_tbl, hok w = true → va_Nw w U
theorem hnest_warm {w : Cond} (hn : hnest w = true) {s U : State} (hW : s.WarmedH U.vm) (h : va_Nw w s) : va_Nw w U := by
  cases w <;> first | (exact va_Nw.warmF hW h) | (exact va_Nw.warmM hW h) | (simp [hnest] at hn)
theorem hge.warm {s U : State} (h : hge s) (hW : s.WarmedH U.vm) : hge U := by
  intro w hw ho
  have h1 := ho
  simp only [hok, Bool.and_eq_true, Bool.or_eq_true] at h1
  obtain ⟨h0, h1⟩ := h1
  rcases h1 with h1 | h1
  · exact word_at hW (Or.inl (by rw [h0, h1]; rfl)) (h w hw ho)
  · exact hnest_warm h1 hW (h w hw ho)
theorem hok_on {w : Cond} (h : hok w = true) : w.onTables = true := by
  simp only [hok, Bool.and_eq_true] at h
  exact h.1
theorem hge.use {s : State} (h : hge s) {w : Cond} (hw : w ∈ lw_tbl) (ho : hok w = true) {A : Array Value} : w.before A s = true := va_Nw.use (hok_on ho) (h w hw ho)
theorem hge.same {u U : State} (h : hge u) (e : u.vm = U.vm) : hge U := fun w hw ho => va_Nw.same (hok_on ho) e (h w hw ho)
def hQ (al : Nat → Nat) (cs : Nat → ClassId) (dC : Nat → ClassId) (dI : Nat → Nat → Nat) (r : Option HV × HMem) : Array Value → State → Outcome → State → Prop := fun _ st oc t => oc = .returned (r.1.map (hval al)) ∧ va_P (dC, dI) vwCl (hpic al cs r.2) t.heap ∧ va_F (hin al) st t
def hCx (I : HI) (p : Program) (s : State) (m : MethodId) (meth : Method) (c : Code) (al : Nat → Nat) (cs : Nat → ClassId) (dC : Nat → ClassId) (dI : Nat → Nat → Nat) : Prop := p.tables.exec = Jvm.exec ∧ c.code = I.2.1 ∧ c.maxLocals = I.2.2.1 ∧ s.vm.findClass I.1.cls = some m.cls ∧ meth.sig.returnType = I.2.2.2 ∧ meth.locks = false ∧ hge s ∧ va_K (dC, dI) vwCl (hty cs) s ∧ hal al
def GG (I : HI) (d : Nat) (r : Option HV × HMem) (pc : Nat) (lv : List (Option HV)) (st : List HV) (M : HMem) : Prop :=
  ∀ (p : Program) (l : Launch) (e : Env) (s : State) (m : MethodId) (args : Array Value) (below : List Frame) (meth : Method) (c : Code) (al : Nat → Nat) (cs : Nat → ClassId) (dC : Nat → ClassId) (dI : Nat → Nat → Nat) (H : Heap) (locs : List Loc) (ls : Array Slot),
    hCx I p s m meth c al cs dC dI → va_P (dC, dI) vwCl (hpic al cs M) H → va_S (hin al) s.heap H locs → lv_has ls I.2.2.1 (hlps al lv) →
    W p l e (hrm d) s m args below meth c H locs 0 0 (MQ below (hQ al cs dC dI r) args s 0 0 (hin al)) (F0 m pc ls (st.map (hval al)))
def GX (I : HI) (d : Nat) {ρ : Type} (emb : ρ → Option HV × HMem) (E : Option ρ) (pc : Nat) (lv : List (Option HV)) (st : List HV) (M : HMem) : Prop := ∀ v, E = some v → GG I d (emb v) pc lv st M
def MC (I : HI) (d : Nat) (av : List HV) (M : HMem) (r : Option HV × HMem) : Prop :=
  ∀ (l : Launch) (al : Nat → Nat) (cs : Nat → ClassId) (dC : Nat → ClassId) (dI : Nat → Nat → Nat), Met l I.1 [.code I.1 I.2.1 I.2.2.1 I.2.2.2] (hrm d) (va_Pc (av.map (hval al)) (fun U => hge U ∧ va_K (dC, dI) vwCl (hty cs) U ∧ hal al ∧ va_P (dC, dI) vwCl (hpic al cs M) U.heap)) (hQ al cs dC dI r) 0 0 (hin al)
def MX (I : HI) (d : Nat) (av : List HV) (M : HMem) {ρ : Type} (emb : ρ → Option HV × HMem) (E : Option ρ) : Prop := ∀ v, E = some v → MC I d av M (emb v)
theorem hargs (al : Nat → Nat) : ∀ (vs : List HV) (k : Nat), lv_args k (vs.map (hval al)) = vs.mapIdx (fun i v => (k + i, hval al v))
  | [], _ => rfl
  | v :: vs, k => by
    show (k, hval al v) :: lv_args (if (hval al v).category = 2 then k + 2 else k + 1) (vs.map (hval al)) = _
    rw [hval_cat, if_neg (by decide), hargs al vs (k + 1), List.mapIdx_cons]
    have e : (fun (i : Nat) (v : HV) => (k + 1 + i, hval al v)) = (fun (i : Nat) (v : HV) => (k + (i + 1), hval al v)) := by
      funext i v; rw [Nat.add_assoc, Nat.add_comm 1 i]
    rw [e]; rfl
theorem hsl_len (al : Nat → Nat) : ∀ (vs : List HV), (lg_sl (vs.map (hval al))).length = vs.length
  | [] => rfl
  | v :: vs => by
    have ih := hsl_len al vs
    unfold lg_sl at ih ⊢
    rw [List.map_cons, List.flatMap_cons, List.length_append, ih, hval_cat, if_neg (by decide), List.length_singleton, List.length_cons, Nat.add_comm]
theorem hl_entry {al : Nat → Nat} {ls : Array Slot} {nL : Nat} {av : List HV} (h : lv_has ls nL (lv_args 0 (av.map (hval al)))) : lv_has ls nL (hlps al (av.map some)) := by
  refine ⟨h.1, h.2.1, fun q hq => ?_⟩
  obtain ⟨j, w⟩ := q
  obtain ⟨x, hx, rfl⟩ := hlps_mem.mp hq
  rw [List.getElem?_map] at hx
  cases hv : av[j]? with
  | none => rw [hv] at hx; cases hx
  | some y =>
    rw [hv] at hx
    cases hx
    have := h.2.2 (j, hval al x) (by
      rw [hargs]
      exact List.mem_of_getElem? (i := j) (by rw [List.getElem?_mapIdx, hv]; simp))
    exact this
theorem hl_entry2 {al : Nat → Nat} {ls : Array Slot} {nL : Nat} {lv : List (Option HV)} (k : Nat) (h : lv_has ls nL (hlps al lv)) : lv_has ls nL (hlps al (lv ++ List.replicate k none)) := by
  refine ⟨h.1, h.2.1, fun q hq => ?_⟩
  obtain ⟨j, w⟩ := q
  obtain ⟨x, hx, rfl⟩ := hlps_mem.mp hq
  by_cases hj : j < lv.length
  · rw [List.getElem?_append_left hj] at hx
    exact hl_at h hx
  · rw [List.getElem?_append_right (Nat.le_of_not_lt hj), List.getElem?_replicate] at hx
    split at hx <;> cases hx
/-- a method's contract out of the walk of its body -/
theorem mc_of {I : HI} {d : Nat} {av : List HV} {M : HMem} {r : Option HV × HMem} (hpl : plainName I.1.cls = true) (hn : av.length ≤ I.2.2.1) (k : GG I d r 0 (av.map some ++ List.replicate (I.2.2.1 - av.length) none) [] M) : MC I d av M r := by
  intro l al cs dC dI
  refine Met.ofW (cc := I.2.1) (maxL := I.2.2.1) (ret := I.2.2.2) hpl rfl ?_
  intro p e s m args below meth c s₁ B hml hv
  obtain ⟨rfl, hg, hK, ha, hP⟩ := hv
  have hl := lv_entry (av.map (hval al)) (n := I.2.2.1) (by rw [hsl_len]; exact hn)
  rw [lg_entry_eq]
  exact k p l e s m _ below meth c al cs dC dI s.heap [] _ ⟨B.exec, B.bytes, hml, findClass_of_methodNamed B.named, B.returns, B.notSynchronized, hg, hK, ha⟩ hP va_S.rf (hl_entry2 _ (hl_entry hl))
theorem mx_of {I : HI} {d : Nat} {av : List HV} {M : HMem} {ρ : Type} {emb : ρ → Option HV × HMem} {E : Option ρ} {lv : List (Option HV)} (hpl : plainName I.1.cls = true) (hn : av.length ≤ I.2.2.1) (hlv : av.map some ++ List.replicate (I.2.2.1 - av.length) none = lv) (k : GX I d emb E 0 lv [] M) : MX I d av M emb E := fun v hv => mc_of hpl hn (by rw [hlv]; exact k v hv)
def hib (i : Int32) (n : Nat) : Bool := decide (¬ i < 0) && decide (i.toNatClampNeg < n)
theorem hib_in {i : Int32} {n : Nat} (h : hib i n = true) : vp_in i n := by
  simp only [hib, Bool.and_eq_true, decide_eq_true_eq] at h
  exact fun q => q.elim h.1 (fun q => absurd h.2 (Nat.not_lt.mpr q))
/-- a field's link: the class that names it, the entry, the field's class and slot -/
def FL (own : String) (idx ci j : Nat) : Prop := ∃ q : vw_C, vwCl[ci]? = some q ∧ j < q.2.2 ∧ (q.2.1 j).1 = q.1 ∧ (∀ w ∈ u_ws q.1 q.2.1 q.2.2, w ∈ lw_tbl ∧ hok w = true) ∧ (Cond.fieldLink own idx q.1 (q.2.1 j).2.1 (q.2.1 j).2.2.1 ∈ lw_tbl ∨ ∃ host, Cond.fieldLinkNest own idx q.1 (q.2.1 j).2.1 (q.2.1 j).2.2.1 host ∈ lw_tbl)
/-- what a store into it needs besides -/
def FP (ci j : Nat) (ty : FieldType) : Prop := ∃ q : vw_C, vwCl[ci]? = some q ∧ ∃ ty0 : Nat → FieldType, (∀ k, k < q.2.2 → parseFieldDescriptor (q.2.1 k).2.2.1 = some (ty0 k)) ∧ (∀ a, a < q.2.2 → ∀ b, b < q.2.2 → a ≠ b → (q.2.1 a).2.1 ≠ (q.2.1 b).2.1) ∧ (q.2.1 j).2.2.2 = false ∧ parseFieldDescriptor (q.2.1 j).2.2.1 = some ty
/-- a method's link -/
def MLk (own : String) (idx : Nat) (I : HI) (n : Nat) : Prop := (Cond.code I.1 I.2.1 I.2.2.1 I.2.2.2 ∈ lw_tbl) ∧ Cond.initialized I.1.cls ∈ lw_tbl ∧ (I.1.cls ≠ "java/lang/invoke/MethodHandle" ∧ I.1.cls ≠ "java/lang/invoke/VarHandle" ∧ (parseMethodDescriptor I.1.desc).map (fun d => d.parameters.length) = some n) ∧ I.2.2.1 ≤ 21 ∧ (Cond.methodLink own idx I.1 ∈ lw_tbl ∨ ∃ host, Cond.methodLinkNest own idx I.1 host ∈ lw_tbl)
def MLV (own : String) (idx ci : Nat) (I : HI) (n : Nat) : Prop := MLk own idx I n ∧ (∃ q : vw_C, vwCl[ci]? = some q ∧ q.1 = I.1.cls) ∧ Cond.instanceMethod I.1 ∈ lw_tbl ∧ Cond.selects I.1.cls I.1 I.1 ∈ lw_tbl
def MLS (own : String) (idx : Nat) (I : HI) (n : Nat) : Prop := MLk own idx I n ∧ Cond.static I.1 ∈ lw_tbl
section GXR
variable {I : HI} {d : Nat} {ρ : Type} {emb : ρ → Option HV × HMem} {E E1 E2 : Option ρ} {pc : Nat} {lv : List (Option HV)} {st : List HV} {M : HMem}
theorem gx_none : GX I d emb none pc lv st M := fun _ h => by cases h
theorem gx_mask {lv' : List (Option HV)} (ms : List Bool) (h : hmask ms lv = lv') (k : GX I d emb E pc lv' st M) : GX I d emb E pc lv st M := fun v hv p l e s m args below meth c al cs dC dI H locs ls C hP hS hl => k v hv p l e s m args below meth c al cs dC dI H locs ls C hP hS (h ▸ hl_mask ms hl)
theorem gx_eqE (h : E1 = E2) (k : GX I d emb E2 pc lv st M) : GX I d emb E1 pc lv st M := h ▸ k

theorem gx_iconst {n : Int} {x : Int32} (hx : Int32.ofInt n = x) (hd : decode I.2.1 pc = .ok (.iconst n, 1)) (k : GX I d emb E (pc + 1) lv (.inl x :: st) M) : GX I d emb E pc lv st M := fun v hv p l e s m args below meth c al cs dC dI H locs ls C hP hS hl => lv_iconst C.1 C.2.1 hd hx (k v hv p l e s m args below meth c al cs dC dI H locs ls C hP hS hl)
theorem gx_bipush {n : Int} {x : Int32} (hx : (Int8.ofInt n).toInt32 = x) (hd : decode I.2.1 pc = .ok (.bipush n, 2)) (k : GX I d emb E (pc + 2) lv (.inl x :: st) M) : GX I d emb E pc lv st M := fun v hv p l e s m args below meth c al cs dC dI H locs ls C hP hS hl => lv_bipush C.1 C.2.1 hd hx (k v hv p l e s m args below meth c al cs dC dI H locs ls C hP hS hl)
theorem gx_sipush {n : Int} {x : Int32} (hx : (Int16.ofInt n).toInt32 = x) (hd : decode I.2.1 pc = .ok (.sipush n, 3)) (k : GX I d emb E (pc + 3) lv (.inl x :: st) M) : GX I d emb E pc lv st M := fun v hv p l e s m args below meth c al cs dC dI H locs ls C hP hS hl => lv_sipush C.1 C.2.1 hd hx (k v hv p l e s m args below meth c al cs dC dI H locs ls C hP hS hl)
theorem gx_ldc {idx : Nat} {x : Int32} (hw : Cond.constant I.1.cls idx x ∈ lw_tbl) (hd : decode I.2.1 pc = .ok (.ldc idx, 2)) (k : GX I d emb E (pc + 2) lv (.inl x :: st) M) : GX I d emb E pc lv st M := fun v hv p l e s m args below meth c al cs dC dI H locs ls C hP hS hl => lv_ldc C.1 C.2.1 C.2.2.2.1 (C.2.2.2.2.2.2.1.use hw rfl) hd (k v hv p l e s m args below meth c al cs dC dI H locs ls C hP hS hl)
theorem gx_ldcw {idx : Nat} {x : Int32} (hw : Cond.constant I.1.cls idx x ∈ lw_tbl) (hd : decode I.2.1 pc = .ok (.ldc_w idx, 3)) (k : GX I d emb E (pc + 3) lv (.inl x :: st) M) : GX I d emb E pc lv st M := fun v hv p l e s m args below meth c al cs dC dI H locs ls C hP hS hl => lv_ldcw C.1 C.2.1 C.2.2.2.1 (C.2.2.2.2.2.2.1.use hw rfl) hd (k v hv p l e s m args below meth c al cs dC dI H locs ls C hP hS hl)
theorem gx_iload_n {j : Fin 4} {x : Int32} (hd : decode I.2.1 pc = .ok (.iload_n j, 1)) (h : lv[(j : Nat)]? = some (some (.inl x))) (k : GX I d emb E (pc + 1) lv (.inl x :: st) M) : GX I d emb E pc lv st M := fun v hv p l e s m args below meth c al cs dC dI H locs ls C hP hS hl => lv_iload_n C.1 C.2.1 hd rfl (hl_at hl h) (k v hv p l e s m args below meth c al cs dC dI H locs ls C hP hS hl)
theorem gx_iload {j : Nat} {x : Int32} (hd : decode I.2.1 pc = .ok (.iload j, 2)) (h : lv[j]? = some (some (.inl x))) (k : GX I d emb E (pc + 2) lv (.inl x :: st) M) : GX I d emb E pc lv st M := fun v hv p l e s m args below meth c al cs dC dI H locs ls C hP hS hl => lv_iload C.1 C.2.1 hd (hl_at hl h) (k v hv p l e s m args below meth c al cs dC dI H locs ls C hP hS hl)
theorem gx_aload_n {j : Fin 4} {x : Nat} (hd : decode I.2.1 pc = .ok (.aload_n j, 1)) (h : lv[(j : Nat)]? = some (some (.inr (some x)))) (k : GX I d emb E (pc + 1) lv (.inr (some x) :: st) M) : GX I d emb E pc lv st M := fun v hv p l e s m args below meth c al cs dC dI H locs ls C hP hS hl => lv_aload_n C.1 C.2.1 hd rfl (hl_at hl h) (k v hv p l e s m args below meth c al cs dC dI H locs ls C hP hS hl)
theorem gx_aload {j : Nat} {x : Nat} (hd : decode I.2.1 pc = .ok (.aload j, 2)) (h : lv[j]? = some (some (.inr (some x)))) (k : GX I d emb E (pc + 2) lv (.inr (some x) :: st) M) : GX I d emb E pc lv st M := fun v hv p l e s m args below meth c al cs dC dI H locs ls C hP hS hl => lv_aload C.1 C.2.1 hd (hl_at hl h) (k v hv p l e s m args below meth c al cs dC dI H locs ls C hP hS hl)
theorem gx_istore_n {j : Fin 4} {x : Int32} {lv' : List (Option HV)} (hd : decode I.2.1 pc = .ok (.istore_n j, 1)) (hn : (j : Nat) < I.2.2.1) (hq : lv.set j (some (.inl x)) = lv') (k : GX I d emb E (pc + 1) lv' st M) : GX I d emb E pc lv (.inl x :: st) M := fun v hv p l e s m args below meth c al cs dC dI H locs ls C hP hS hl => lv_istore_n C.1 C.2.1 hd rfl hl hn rfl (fun ls hl => k v hv p l e s m args below meth c al cs dC dI H locs ls C hP hS (hq ▸ hl_set hl))
theorem gx_istore {j : Nat} {x : Int32} {lv' : List (Option HV)} (hd : decode I.2.1 pc = .ok (.istore j, 2)) (hn : j < I.2.2.1) (hq : lv.set j (some (.inl x)) = lv') (k : GX I d emb E (pc + 2) lv' st M) : GX I d emb E pc lv (.inl x :: st) M := fun v hv p l e s m args below meth c al cs dC dI H locs ls C hP hS hl => lv_istore C.1 C.2.1 hd hl hn rfl (fun ls hl => k v hv p l e s m args below meth c al cs dC dI H locs ls C hP hS (hq ▸ hl_set hl))
theorem gx_astore_n {j : Fin 4} {x : Nat} {lv' : List (Option HV)} (hd : decode I.2.1 pc = .ok (.astore_n j, 1)) (hn : (j : Nat) < I.2.2.1) (hq : lv.set j (some (.inr (some x))) = lv') (k : GX I d emb E (pc + 1) lv' st M) : GX I d emb E pc lv (.inr (some x) :: st) M := fun v hv p l e s m args below meth c al cs dC dI H locs ls C hP hS hl => lv_astore_n C.1 C.2.1 hd rfl hl hn rfl (fun ls hl => k v hv p l e s m args below meth c al cs dC dI H locs ls C hP hS (hq ▸ hl_set hl))
theorem gx_astore {j : Nat} {x : Nat} {lv' : List (Option HV)} (hd : decode I.2.1 pc = .ok (.astore j, 2)) (hn : j < I.2.2.1) (hq : lv.set j (some (.inr (some x))) = lv') (k : GX I d emb E (pc + 2) lv' st M) : GX I d emb E pc lv (.inr (some x) :: st) M := fun v hv p l e s m args below meth c al cs dC dI H locs ls C hP hS hl => lv_astore C.1 C.2.1 hd hl hn rfl (fun ls hl => k v hv p l e s m args below meth c al cs dC dI H locs ls C hP hS (hq ▸ hl_set hl))
theorem lv_iinc2 {p : Program} {l : Launch} {e : Env} {R : Room} {s : State} {m : MethodId} {args : Array Value} {below : List Frame} {meth : Method} {c : Code} {H : Heap} {locs : List Loc} {cells slots : Nat} {Q : State → Prop} {cc : ByteArray} {pc : Nat} {ls : Array Slot} {rest : List Value} (hexec : p.tables.exec = Jvm.exec) (hb : c.code = cc) {i nL : Nat} {n : Int} {x v : Int32} {lv : List (Nat × Value)} (hdg : decode cc pc = .ok (.iinc i n, 3)) (h : lv_has ls nL lv) (hk : (i, Value.int x) ∈ lv) (hv : x + Int32.ofInt n = v) (hn : i < nL)
    (kk : ∀ ls' : Array Slot, lv_has ls' nL ((i, Value.int v) :: lv.filter (fun q => !(q.1 == i) && !(q.1 + 1 == i && q.2.category == 2))) → W p l e R s m args below meth c H locs cells slots Q (F0 m (pc + 3) ls' rest)) : W p l e R s m args below meth c H locs cells slots Q (F0 m pc ls rest) := by
  obtain ⟨k, hk⟩ := List.getElem?_of_mem hk
  exact lv_iinc hexec hb hdg h hk hv hn rfl kk
theorem gx_iinc {j : Nat} {n : Int} {x y : Int32} {lv' : List (Option HV)} (hd : decode I.2.1 pc = .ok (.iinc j n, 3)) (h : lv[j]? = some (some (.inl x))) (hy : x + Int32.ofInt n = y) (hn : j < I.2.2.1) (hq : lv.set j (some (.inl y)) = lv') (k : GX I d emb E (pc + 3) lv' st M) : GX I d emb E pc lv st M := fun v hv p l e s m args below meth c al cs dC dI H locs ls C hP hS hl => lv_iinc2 C.1 C.2.1 hd hl (hlps_mem.mpr ⟨.inl x, h, rfl⟩) hy hn (fun ls hl => k v hv p l e s m args below meth c al cs dC dI H locs ls C hP hS (hq ▸ hl_set hl))
theorem gx_iadd {x y : Int32} (hd : decode I.2.1 pc = .ok (.iadd, 1)) (k : GX I d emb E (pc + 1) lv (.inl (x + y) :: st) M) : GX I d emb E pc lv (.inl y :: .inl x :: st) M := fun v hv p l e s m args below meth c al cs dC dI H locs ls C hP hS hl => lv_iadd C.1 C.2.1 hd (k v hv p l e s m args below meth c al cs dC dI H locs ls C hP hS hl)
theorem gx_isub {x y : Int32} (hd : decode I.2.1 pc = .ok (.isub, 1)) (k : GX I d emb E (pc + 1) lv (.inl (x - y) :: st) M) : GX I d emb E pc lv (.inl y :: .inl x :: st) M := fun v hv p l e s m args below meth c al cs dC dI H locs ls C hP hS hl => lv_isub C.1 C.2.1 hd (k v hv p l e s m args below meth c al cs dC dI H locs ls C hP hS hl)
theorem gx_imul {x y : Int32} (hd : decode I.2.1 pc = .ok (.imul, 1)) (k : GX I d emb E (pc + 1) lv (.inl (x * y) :: st) M) : GX I d emb E pc lv (.inl y :: .inl x :: st) M := fun v hv p l e s m args below meth c al cs dC dI H locs ls C hP hS hl => lv_imul C.1 C.2.1 hd (k v hv p l e s m args below meth c al cs dC dI H locs ls C hP hS hl)
theorem gx_iand {x y : Int32} (hd : decode I.2.1 pc = .ok (.iand, 1)) (k : GX I d emb E (pc + 1) lv (.inl (x &&& y) :: st) M) : GX I d emb E pc lv (.inl y :: .inl x :: st) M := fun v hv p l e s m args below meth c al cs dC dI H locs ls C hP hS hl => lv_iand C.1 C.2.1 hd (k v hv p l e s m args below meth c al cs dC dI H locs ls C hP hS hl)
theorem gx_ior {x y : Int32} (hd : decode I.2.1 pc = .ok (.ior, 1)) (k : GX I d emb E (pc + 1) lv (.inl (x ||| y) :: st) M) : GX I d emb E pc lv (.inl y :: .inl x :: st) M := fun v hv p l e s m args below meth c al cs dC dI H locs ls C hP hS hl => lv_ior C.1 C.2.1 hd (k v hv p l e s m args below meth c al cs dC dI H locs ls C hP hS hl)
theorem gx_ishl {x y : Int32} (hd : decode I.2.1 pc = .ok (.ishl, 1)) (k : GX I d emb E (pc + 1) lv (.inl (x <<< (y &&& 31)) :: st) M) : GX I d emb E pc lv (.inl y :: .inl x :: st) M := fun v hv p l e s m args below meth c al cs dC dI H locs ls C hP hS hl => lv_ishl C.1 C.2.1 hd (k v hv p l e s m args below meth c al cs dC dI H locs ls C hP hS hl)
theorem gx_ishr {x y : Int32} (hd : decode I.2.1 pc = .ok (.ishr, 1)) (k : GX I d emb E (pc + 1) lv (.inl (x >>> (y &&& 31)) :: st) M) : GX I d emb E pc lv (.inl y :: .inl x :: st) M := fun v hv p l e s m args below meth c al cs dC dI H locs ls C hP hS hl => lv_ishr C.1 C.2.1 hd (k v hv p l e s m args below meth c al cs dC dI H locs ls C hP hS hl)
theorem gx_iushr {x y : Int32} (hd : decode I.2.1 pc = .ok (.iushr, 1)) (k : GX I d emb E (pc + 1) lv (.inl (x.toUInt32 >>> (y.toUInt32 &&& Int32.toUInt32 31)).toInt32 :: st) M) : GX I d emb E pc lv (.inl y :: .inl x :: st) M := fun v hv p l e s m args below meth c al cs dC dI H locs ls C hP hS hl => lv_iushr C.1 C.2.1 hd rfl (k v hv p l e s m args below meth c al cs dC dI H locs ls C hP hS hl)
theorem gx_ineg {x : Int32} (hd : decode I.2.1 pc = .ok (.ineg, 1)) (k : GX I d emb E (pc + 1) lv (.inl (-x) :: st) M) : GX I d emb E pc lv (.inl x :: st) M := fun v hv p l e s m args below meth c al cs dC dI H locs ls C hP hS hl => lv_ineg C.1 C.2.1 hd (k v hv p l e s m args below meth c al cs dC dI H locs ls C hP hS hl)
theorem gx_i2b {x : Int32} (hd : decode I.2.1 pc = .ok (.i2b, 1)) (k : GX I d emb E (pc + 1) lv (.inl x.toInt8.toInt32 :: st) M) : GX I d emb E pc lv (.inl x :: st) M := fun v hv p l e s m args below meth c al cs dC dI H locs ls C hP hS hl => lv_i2b C.1 C.2.1 hd rfl (k v hv p l e s m args below meth c al cs dC dI H locs ls C hP hS hl)
theorem gx_idivL {x y : Int32} (hy : ¬ y = 0) (hd : decode I.2.1 pc = .ok (.idiv, 1)) (k : GX I d emb E (pc + 1) lv (.inl (x / y) :: st) M) : GX I d emb E pc lv (.inl y :: .inl x :: st) M := fun v hv p l e s m args below meth c al cs dC dI H locs ls C hP hS hl => lv_idiv C.1 C.2.1 hd hy (k v hv p l e s m args below meth c al cs dC dI H locs ls C hP hS hl)
theorem gx_iremL {x y : Int32} (hy : ¬ y = 0) (hd : decode I.2.1 pc = .ok (.irem, 1)) (k : GX I d emb E (pc + 1) lv (.inl (x - x / y * y) :: st) M) : GX I d emb E pc lv (.inl y :: .inl x :: st) M := fun v hv p l e s m args below meth c al cs dC dI H locs ls C hP hS hl => lv_irem C.1 C.2.1 hd hy (k v hv p l e s m args below meth c al cs dC dI H locs ls C hP hS hl)
theorem gx_idiv {x y : Int32} (hd : decode I.2.1 pc = .ok (.idiv, 1)) (k : GX I d emb E (pc + 1) lv (.inl (x / y) :: st) M) : GX I d emb (if y = 0 then none else E) pc lv (.inl y :: .inl x :: st) M := by
  by_cases hy : y = 0
  · rw [if_pos hy]; exact gx_none
  · rw [if_neg hy]; exact gx_idivL hy hd k
theorem gx_irem {x y : Int32} (hd : decode I.2.1 pc = .ok (.irem, 1)) (k : GX I d emb E (pc + 1) lv (.inl (x - x / y * y) :: st) M) : GX I d emb (if y = 0 then none else E) pc lv (.inl y :: .inl x :: st) M := by
  by_cases hy : y = 0
  · rw [if_pos hy]; exact gx_none
  · rw [if_neg hy]; exact gx_iremL hy hd k
theorem gx_dup {a : HV} (hd : decode I.2.1 pc = .ok (.dup, 1)) (k : GX I d emb E (pc + 1) lv (a :: a :: st) M) : GX I d emb E pc lv (a :: st) M := fun v hv p l e s m args below meth c al cs dC dI H locs ls C hP hS hl => lv_dup C.1 C.2.1 hd (hval_cat al a) (k v hv p l e s m args below meth c al cs dC dI H locs ls C hP hS hl)
theorem gx_pop {a : HV} (hd : decode I.2.1 pc = .ok (.pop, 1)) (k : GX I d emb E (pc + 1) lv (st) M) : GX I d emb E pc lv (a :: st) M := fun v hv p l e s m args below meth c al cs dC dI H locs ls C hP hS hl => lv_pop C.1 C.2.1 hd (hval_cat al a) (k v hv p l e s m args below meth c al cs dC dI H locs ls C hP hS hl)
theorem gx_dup2 {a b : HV} (hd : decode I.2.1 pc = .ok (.dup2, 1)) (k : GX I d emb E (pc + 1) lv (a :: b :: a :: b :: st) M) : GX I d emb E pc lv (a :: b :: st) M := fun v hv p l e s m args below meth c al cs dC dI H locs ls C hP hS hl => lv_dup2_11 C.1 C.2.1 hd (hval_cat al a) (hval_cat al b) (k v hv p l e s m args below meth c al cs dC dI H locs ls C hP hS hl)
theorem gx_null  (hd : decode I.2.1 pc = .ok (.aconst_null, 1)) (k : GX I d emb E (pc + 1) lv (.inr none :: st) M) : GX I d emb E pc lv st M := fun v hv p l e s m args below meth c al cs dC dI H locs ls C hP hS hl => lv_null C.1 C.2.1 hd (k v hv p l e s m args below meth c al cs dC dI H locs ls C hP hS hl)
theorem gx_icmp_ge {x y : Int32} {off : Int} {tgt : Nat} (hd : decode I.2.1 pc = .ok (.if_icmp .ge off, 3)) (ht : (pc : Int) + off = (tgt : Int)) (kt : GX I d emb E1 tgt lv st M) (kf : GX I d emb E2 (pc + 3) lv st M) : GX I d emb (if y ≤ x then E1 else E2) pc lv (.inl y :: .inl x :: st) M := fun v hv p l e s m args below meth c al cs dC dI H locs ls C hP hS hl => lv_icmp_ge C.1 C.2.1 hd ht (fun h => kt v (by rw [if_pos h] at hv; exact hv) p l e s m args below meth c al cs dC dI H locs ls C hP hS hl) (fun h => kf v (by rw [if_neg h] at hv; exact hv) p l e s m args below meth c al cs dC dI H locs ls C hP hS hl)
theorem gx_icmp_lt {x y : Int32} {off : Int} {tgt : Nat} (hd : decode I.2.1 pc = .ok (.if_icmp .lt off, 3)) (ht : (pc : Int) + off = (tgt : Int)) (kt : GX I d emb E1 tgt lv st M) (kf : GX I d emb E2 (pc + 3) lv st M) : GX I d emb (if x < y then E1 else E2) pc lv (.inl y :: .inl x :: st) M := fun v hv p l e s m args below meth c al cs dC dI H locs ls C hP hS hl => lv_icmp_lt C.1 C.2.1 hd ht (fun h => kt v (by rw [if_pos h] at hv; exact hv) p l e s m args below meth c al cs dC dI H locs ls C hP hS hl) (fun h => kf v (by rw [if_neg h] at hv; exact hv) p l e s m args below meth c al cs dC dI H locs ls C hP hS hl)
theorem gx_icmp_gt {x y : Int32} {off : Int} {tgt : Nat} (hd : decode I.2.1 pc = .ok (.if_icmp .gt off, 3)) (ht : (pc : Int) + off = (tgt : Int)) (kt : GX I d emb E1 tgt lv st M) (kf : GX I d emb E2 (pc + 3) lv st M) : GX I d emb (if y < x then E1 else E2) pc lv (.inl y :: .inl x :: st) M := fun v hv p l e s m args below meth c al cs dC dI H locs ls C hP hS hl => lv_icmp_gt C.1 C.2.1 hd ht (fun h => kt v (by rw [if_pos h] at hv; exact hv) p l e s m args below meth c al cs dC dI H locs ls C hP hS hl) (fun h => kf v (by rw [if_neg h] at hv; exact hv) p l e s m args below meth c al cs dC dI H locs ls C hP hS hl)
theorem gx_icmp_le {x y : Int32} {off : Int} {tgt : Nat} (hd : decode I.2.1 pc = .ok (.if_icmp .le off, 3)) (ht : (pc : Int) + off = (tgt : Int)) (kt : GX I d emb E1 tgt lv st M) (kf : GX I d emb E2 (pc + 3) lv st M) : GX I d emb (if x ≤ y then E1 else E2) pc lv (.inl y :: .inl x :: st) M := fun v hv p l e s m args below meth c al cs dC dI H locs ls C hP hS hl => lv_icmp_le C.1 C.2.1 hd ht (fun h => kt v (by rw [if_pos h] at hv; exact hv) p l e s m args below meth c al cs dC dI H locs ls C hP hS hl) (fun h => kf v (by rw [if_neg h] at hv; exact hv) p l e s m args below meth c al cs dC dI H locs ls C hP hS hl)
theorem gx_icmp_eq {x y : Int32} {off : Int} {tgt : Nat} (hd : decode I.2.1 pc = .ok (.if_icmp .eq off, 3)) (ht : (pc : Int) + off = (tgt : Int)) (kt : GX I d emb E1 tgt lv st M) (kf : GX I d emb E2 (pc + 3) lv st M) : GX I d emb (if x = y then E1 else E2) pc lv (.inl y :: .inl x :: st) M := fun v hv p l e s m args below meth c al cs dC dI H locs ls C hP hS hl => lv_icmp_eq C.1 C.2.1 hd ht (fun h => kt v (by rw [if_pos h] at hv; exact hv) p l e s m args below meth c al cs dC dI H locs ls C hP hS hl) (fun h => kf v (by rw [if_neg h] at hv; exact hv) p l e s m args below meth c al cs dC dI H locs ls C hP hS hl)
theorem gx_icmp_ne {x y : Int32} {off : Int} {tgt : Nat} (hd : decode I.2.1 pc = .ok (.if_icmp .ne off, 3)) (ht : (pc : Int) + off = (tgt : Int)) (kt : GX I d emb E2 tgt lv st M) (kf : GX I d emb E1 (pc + 3) lv st M) : GX I d emb (if x = y then E1 else E2) pc lv (.inl y :: .inl x :: st) M := fun v hv p l e s m args below meth c al cs dC dI H locs ls C hP hS hl => lv_icmp_ne C.1 C.2.1 hd ht (fun h => kt v (by rw [if_neg h] at hv; exact hv) p l e s m args below meth c al cs dC dI H locs ls C hP hS hl) (fun h => kf v (by rw [if_pos h] at hv; exact hv) p l e s m args below meth c al cs dC dI H locs ls C hP hS hl)
theorem gx_if_ge {x : Int32} {off : Int} {tgt : Nat} (hd : decode I.2.1 pc = .ok (.ifCond .ge off, 3)) (ht : (pc : Int) + off = (tgt : Int)) (kt : GX I d emb E1 tgt lv st M) (kf : GX I d emb E2 (pc + 3) lv st M) : GX I d emb (if 0 ≤ x then E1 else E2) pc lv (.inl x :: st) M := fun v hv p l e s m args below meth c al cs dC dI H locs ls C hP hS hl => lv_if_ge C.1 C.2.1 hd ht (fun h => kt v (by rw [if_pos h] at hv; exact hv) p l e s m args below meth c al cs dC dI H locs ls C hP hS hl) (fun h => kf v (by rw [if_neg h] at hv; exact hv) p l e s m args below meth c al cs dC dI H locs ls C hP hS hl)
theorem gx_if_lt {x : Int32} {off : Int} {tgt : Nat} (hd : decode I.2.1 pc = .ok (.ifCond .lt off, 3)) (ht : (pc : Int) + off = (tgt : Int)) (kt : GX I d emb E1 tgt lv st M) (kf : GX I d emb E2 (pc + 3) lv st M) : GX I d emb (if x < 0 then E1 else E2) pc lv (.inl x :: st) M := fun v hv p l e s m args below meth c al cs dC dI H locs ls C hP hS hl => lv_if_lt C.1 C.2.1 hd ht (fun h => kt v (by rw [if_pos h] at hv; exact hv) p l e s m args below meth c al cs dC dI H locs ls C hP hS hl) (fun h => kf v (by rw [if_neg h] at hv; exact hv) p l e s m args below meth c al cs dC dI H locs ls C hP hS hl)
theorem gx_if_gt {x : Int32} {off : Int} {tgt : Nat} (hd : decode I.2.1 pc = .ok (.ifCond .gt off, 3)) (ht : (pc : Int) + off = (tgt : Int)) (kt : GX I d emb E1 tgt lv st M) (kf : GX I d emb E2 (pc + 3) lv st M) : GX I d emb (if 0 < x then E1 else E2) pc lv (.inl x :: st) M := fun v hv p l e s m args below meth c al cs dC dI H locs ls C hP hS hl => lv_if_gt C.1 C.2.1 hd ht (fun h => kt v (by rw [if_pos h] at hv; exact hv) p l e s m args below meth c al cs dC dI H locs ls C hP hS hl) (fun h => kf v (by rw [if_neg h] at hv; exact hv) p l e s m args below meth c al cs dC dI H locs ls C hP hS hl)
theorem gx_if_le {x : Int32} {off : Int} {tgt : Nat} (hd : decode I.2.1 pc = .ok (.ifCond .le off, 3)) (ht : (pc : Int) + off = (tgt : Int)) (kt : GX I d emb E1 tgt lv st M) (kf : GX I d emb E2 (pc + 3) lv st M) : GX I d emb (if x ≤ 0 then E1 else E2) pc lv (.inl x :: st) M := fun v hv p l e s m args below meth c al cs dC dI H locs ls C hP hS hl => lv_if_le C.1 C.2.1 hd ht (fun h => kt v (by rw [if_pos h] at hv; exact hv) p l e s m args below meth c al cs dC dI H locs ls C hP hS hl) (fun h => kf v (by rw [if_neg h] at hv; exact hv) p l e s m args below meth c al cs dC dI H locs ls C hP hS hl)
theorem gx_if_eq {x : Int32} {off : Int} {tgt : Nat} (hd : decode I.2.1 pc = .ok (.ifCond .eq off, 3)) (ht : (pc : Int) + off = (tgt : Int)) (kt : GX I d emb E1 tgt lv st M) (kf : GX I d emb E2 (pc + 3) lv st M) : GX I d emb (if x = 0 then E1 else E2) pc lv (.inl x :: st) M := fun v hv p l e s m args below meth c al cs dC dI H locs ls C hP hS hl => lv_if_eq C.1 C.2.1 hd ht (fun h => kt v (by rw [if_pos h] at hv; exact hv) p l e s m args below meth c al cs dC dI H locs ls C hP hS hl) (fun h => kf v (by rw [if_neg h] at hv; exact hv) p l e s m args below meth c al cs dC dI H locs ls C hP hS hl)
theorem gx_if_ne {x : Int32} {off : Int} {tgt : Nat} (hd : decode I.2.1 pc = .ok (.ifCond .ne off, 3)) (ht : (pc : Int) + off = (tgt : Int)) (kt : GX I d emb E2 tgt lv st M) (kf : GX I d emb E1 (pc + 3) lv st M) : GX I d emb (if x = 0 then E1 else E2) pc lv (.inl x :: st) M := fun v hv p l e s m args below meth c al cs dC dI H locs ls C hP hS hl => lv_if_ne C.1 C.2.1 hd ht (fun h => kt v (by rw [if_neg h] at hv; exact hv) p l e s m args below meth c al cs dC dI H locs ls C hP hS hl) (fun h => kf v (by rw [if_pos h] at hv; exact hv) p l e s m args below meth c al cs dC dI H locs ls C hP hS hl)
theorem gx_goto {off : Int} {tgt : Nat} (hd : decode I.2.1 pc = .ok (.goto off, 3)) (ht : (pc : Int) + off = (tgt : Int)) (k : GX I d emb E tgt lv st M) : GX I d emb E pc lv st M := fun v hv p l e s m args below meth c al cs dC dI H locs ls C hP hS hl => lv_goto C.1 C.2.1 hd ht (k v hv p l e s m args below meth c al cs dC dI H locs ls C hP hS hl)
theorem gx_ifnullS {x : Nat} {off : Int} (hd : decode I.2.1 pc = .ok (.ifnull off, 3)) (k : GX I d emb E (pc + 3) lv st M) : GX I d emb E pc lv (.inr (some x) :: st) M := fun v hv p l e s m args below meth c al cs dC dI H locs ls C hP hS hl => lv_ifnull C.1 C.2.1 hd (k v hv p l e s m args below meth c al cs dC dI H locs ls C hP hS hl)
theorem gx_ifnullN {off : Int} {tgt : Nat} (hd : decode I.2.1 pc = .ok (.ifnull off, 3)) (ht : (pc : Int) + off = (tgt : Int)) (k : GX I d emb E tgt lv st M) : GX I d emb E pc lv (.inr none :: st) M := fun v hv p l e s m args below meth c al cs dC dI H locs ls C hP hS hl => lv_ifnullN C.1 C.2.1 hd ht (k v hv p l e s m args below meth c al cs dC dI H locs ls C hP hS hl)
theorem gx_ifnonnullS {x : Nat} {off : Int} {tgt : Nat} (hd : decode I.2.1 pc = .ok (.ifnonnull off, 3)) (ht : (pc : Int) + off = (tgt : Int)) (k : GX I d emb E tgt lv st M) : GX I d emb E pc lv (.inr (some x) :: st) M := fun v hv p l e s m args below meth c al cs dC dI H locs ls C hP hS hl => lv_ifnonnull C.1 C.2.1 hd ht (k v hv p l e s m args below meth c al cs dC dI H locs ls C hP hS hl)
theorem gx_ifnonnullN {off : Int} (hd : decode I.2.1 pc = .ok (.ifnonnull off, 3)) (k : GX I d emb E (pc + 3) lv st M) : GX I d emb E pc lv (.inr none :: st) M := fun v hv p l e s m args below meth c al cs dC dI H locs ls C hP hS hl => lv_ifnonnullN C.1 C.2.1 hd (k v hv p l e s m args below meth c al cs dC dI H locs ls C hP hS hl)
end GXR

/-! THE LAW'S OWN STEPS -/
def LC (p : Program) (s : State) (m : MethodId) (meth : Method) (c : Code) (b L : Nat) (xs : Nat → Int32) (cs dC : Nat → ClassId) (dI : Nat → Nat → Nat) (al : Nat → Nat) : Prop := p.tables.exec = Jvm.exec ∧ c.code = code ∧ meth.sig.returnType = ret ∧ c.maxLocals = 4 ∧ s.vm.findClass RL = some m.cls ∧ hge s ∧ va_X b L xs s s.heap ∧ b < s.heap.size ∧ meth.locks = false ∧ va_K (dC, dI) vwCl (hty cs) s ∧ hal al ∧ (∀ k, k < 109 → s.heap.size ≤ al k) ∧ L ≤ 3072
def lwZ (below : List Frame) (a : Array Value) (s : State) : State → Prop := fun t => ∃ o, t.status = .running ∧ Ended t below o ∧ (o = .returned (some (.int 1)) ∧ Framed s o t [] 600000 7302250)
def LG (p : Program) (l : Launch) (e : Env) (s : State) (m : MethodId) (below : List Frame) (meth : Method) (c : Code) (b : Nat) (cs dC : Nat → ClassId) (dI : Nat → Nat → Nat) (al : Nat → Nat) (i : Int32) (M : HMem) (pc : Nat) (st : List Value) : Prop :=
  ∀ (H : Heap) (locs : List Loc) (ls : Array Slot), va_P (dC, dI) vwCl (hpic al cs M) H → va_S (fun q => s.heap.size ≤ q) s.heap H locs → lv_has ls 4 [(0, .ref b), (1, .ref (al 0)), (2, .ref (al 74)), (3, .int i)] → W p l e room_1 s m #[Value.ref b] below meth c H locs 109 9088 (lwZ below #[Value.ref b] s) (F0 m pc ls st)
theorem and31_nat (x : Int32) : ∃ b : Nat, b < 32 ∧ x &&& 31 = iI b := by
  refine ⟨x.toBitVec.toNat % 2 ^ 5, Nat.mod_lt _ (by decide), ?_⟩
  rw [pk_and x (m := 31) 5 (by decide +kernel), nI_iI]
section LGR
variable {p : Program} {l : Launch} {e : Env} {s : State} {m : MethodId} {below : List Frame} {meth : Method} {c : Code} {b L : Nat} {xs : Nat → Int32} {cs dC : Nat → ClassId} {dI : Nat → Nat → Nat} {al : Nat → Nat} {i : Int32} {M : HMem} {pc : Nat} {st : List Value}
theorem lg_al0 (C : LC p s m meth c b L xs cs dC dI al) (hd : decode code pc = .ok (.aload_n 0, 1)) (kk : LG p l e s m below meth c b cs dC dI al i M (pc + 1) (.ref b :: st)) : LG p l e s m below meth c b cs dC dI al i M pc st := fun H locs ls hP hS hl => lv_aload_n C.1 C.2.1 hd rfl (lv_at hl 0 rfl) (kk H locs ls hP hS hl)
theorem lg_al1 (C : LC p s m meth c b L xs cs dC dI al) (hd : decode code pc = .ok (.aload_n 1, 1)) (kk : LG p l e s m below meth c b cs dC dI al i M (pc + 1) (.ref (al 0) :: st)) : LG p l e s m below meth c b cs dC dI al i M pc st := fun H locs ls hP hS hl => lv_aload_n C.1 C.2.1 hd rfl (lv_at hl 1 rfl) (kk H locs ls hP hS hl)
theorem lg_al2 (C : LC p s m meth c b L xs cs dC dI al) (hd : decode code pc = .ok (.aload_n 2, 1)) (kk : LG p l e s m below meth c b cs dC dI al i M (pc + 1) (.ref (al 74) :: st)) : LG p l e s m below meth c b cs dC dI al i M pc st := fun H locs ls hP hS hl => lv_aload_n C.1 C.2.1 hd rfl (lv_at hl 2 rfl) (kk H locs ls hP hS hl)
theorem lg_il3 (C : LC p s m meth c b L xs cs dC dI al) (hd : decode code pc = .ok (.iload_n 3, 1)) (kk : LG p l e s m below meth c b cs dC dI al i M (pc + 1) (.int i :: st)) : LG p l e s m below meth c b cs dC dI al i M pc st := fun H locs ls hP hS hl => lv_iload_n C.1 C.2.1 hd rfl (lv_at hl 3 rfl) (kk H locs ls hP hS hl)
theorem lg_iconst {n : Int} {x : Int32} (C : LC p s m meth c b L xs cs dC dI al) (hx : Int32.ofInt n = x) (hd : decode code pc = .ok (.iconst n, 1)) (kk : LG p l e s m below meth c b cs dC dI al i M (pc + 1) (.int x :: st)) : LG p l e s m below meth c b cs dC dI al i M pc st := fun H locs ls hP hS hl => lv_iconst C.1 C.2.1 hd hx (kk H locs ls hP hS hl)
theorem lg_bipush {n : Int} {x : Int32} (C : LC p s m meth c b L xs cs dC dI al) (hx : (Int8.ofInt n).toInt32 = x) (hd : decode code pc = .ok (.bipush n, 2)) (kk : LG p l e s m below meth c b cs dC dI al i M (pc + 2) (.int x :: st)) : LG p l e s m below meth c b cs dC dI al i M pc st := fun H locs ls hP hS hl => lv_bipush C.1 C.2.1 hd hx (kk H locs ls hP hS hl)
theorem lg_iadd {x y : Int32} (C : LC p s m meth c b L xs cs dC dI al) (hd : decode code pc = .ok (.iadd, 1)) (kk : LG p l e s m below meth c b cs dC dI al i M (pc + 1) (.int (x + y) :: st)) : LG p l e s m below meth c b cs dC dI al i M pc (.int y :: .int x :: st) := fun H locs ls hP hS hl => lv_iadd C.1 C.2.1 hd (kk H locs ls hP hS hl)
theorem lg_isub {x y : Int32} (C : LC p s m meth c b L xs cs dC dI al) (hd : decode code pc = .ok (.isub, 1)) (kk : LG p l e s m below meth c b cs dC dI al i M (pc + 1) (.int (x - y) :: st)) : LG p l e s m below meth c b cs dC dI al i M pc (.int y :: .int x :: st) := fun H locs ls hP hS hl => lv_isub C.1 C.2.1 hd (kk H locs ls hP hS hl)
theorem lg_iand {x y : Int32} (C : LC p s m meth c b L xs cs dC dI al) (hd : decode code pc = .ok (.iand, 1)) (kk : LG p l e s m below meth c b cs dC dI al i M (pc + 1) (.int (x &&& y) :: st)) : LG p l e s m below meth c b cs dC dI al i M pc (.int y :: .int x :: st) := fun H locs ls hP hS hl => lv_iand C.1 C.2.1 hd (kk H locs ls hP hS hl)
theorem lg_slen (C : LC p s m meth c b L xs cs dC dI al) (hd : decode code pc = .ok (.arraylength, 1)) (kk : LG p l e s m below meth c b cs dC dI al i M (pc + 1) (.int (Int32.ofNat L) :: st)) : LG p l e s m below meth c b cs dC dI al i M pc (.ref b :: st) := fun H locs ls hP hS hl => va_slen C.1 C.2.1 C.2.2.2.2.2.2.1 C.2.2.2.2.2.2.2.1 (Nat.not_le.mpr C.2.2.2.2.2.2.2.1) hS hd (kk H locs ls hP hS hl)
theorem lg_sld {j : Nat} (C : LC p s m meth c b L xs cs dC dI al) (hj : j < L) (hd : decode code pc = .ok (.iaload, 1)) (kk : LG p l e s m below meth c b cs dC dI al i M (pc + 1) (.int (xs j) :: st)) : LG p l e s m below meth c b cs dC dI al i M pc (.int (iI (j : Int)) :: .ref b :: st) := fun H locs ls hP hS hl => by
  have hL : L ≤ 3072 := C.2.2.2.2.2.2.2.2.2.2.2.2
  have e : (iI (j : Int)).toNatClampNeg = j := iI_natc (by omega)
  refine va_sld C.1 C.2.1 C.2.2.2.2.2.2.1 C.2.2.2.2.2.2.2.1 (Nat.not_le.mpr C.2.2.2.2.2.2.2.1) hS (hib_in (hib_t (by omega) (by omega) (by omega))) hd ?_
  rw [e]
  exact kk H locs ls hP hS hl
/-- an argument: the script's int at i + t -/
theorem lg_arg {n t : Nat} {tt : Int} (C : LC p s m meth c b L xs cs dC dI al) (hi : i = iI (n : Int)) (ht : Int32.ofInt tt = iI (t : Int)) (hn : n + t < L) (d0 : decode code pc = .ok (.aload_n 0, 1)) (d1 : decode code (pc + 1) = .ok (.iload_n 3, 1)) (d2 : decode code (pc + 1 + 1) = .ok (.iconst tt, 1)) (d3 : decode code (pc + 1 + 1 + 1) = .ok (.iadd, 1)) (d4 : decode code (pc + 1 + 1 + 1 + 1) = .ok (.iaload, 1)) (kk : LG p l e s m below meth c b cs dC dI al i M (pc + 1 + 1 + 1 + 1 + 1) (.int (xs (n + t)) :: st)) : LG p l e s m below meth c b cs dC dI al i M pc st := by
  refine lg_al0 C d0 (lg_il3 C d1 (lg_iconst C ht d2 (lg_iadd C d3 ?_)))
  rw [hi, iI_add, show (n : Int) + (t : Int) = ((n + t : Nat) : Int) by omega, ← hi]
  exact lg_sld C hn d4 kk
theorem lg_call {J : HI} {n idx ci k : Nat} {fs : List (Option Nat)} {av : List HV} {st0 : List Value} {r : Int32} {M1 : HMem} (C : LC p s m meth c b L xs cs dC dI al) (ml : MLV RL idx ci J n) (hk : hshp[k]? = some (.inl (ci, fs))) (hk9 : k < 109) (hM : MC J dH (.inr (some k) :: av) M (some (.inl r), M1)) (hn : av.length = n) (hst : st0 = (av.map (hval al)).reverse ++ .ref (al k) :: st) (h8 : (st.map fun v => v.category).sum ≤ 8) (hd : decode code pc = .ok (.invokevirtual idx, 3)) (kk : LG p l e s m below meth c b cs dC dI al i M1 (pc + 3) (.int r :: st)) : LG p l e s m below meth c b cs dC dI al i M pc st0 := fun H locs ls hP hS hl => by
  obtain ⟨hx, hb, hr, hml, hown, hg, hX, hbl, hlk, hK, ha, hA, hL⟩ := id C
  obtain ⟨⟨w1, w2, w3, w4, w5⟩, ⟨qc, wc, wn⟩, w6, w7⟩ := ml
  have hGI : GoodIn [Cond.code J.1 J.2.1 J.2.2.1 J.2.2.2] [Cond.code J.1 J.2.1 J.2.2.1 J.2.2.2] := fun w hw => ⟨hw, by cases List.mem_singleton.mp hw; exact Or.inl rfl⟩
  have hTs : ∀ w ∈ [Cond.code J.1 J.2.1 J.2.2.1 J.2.2.2], w.before #[Value.ref b] s = true := fun w hw => by cases List.mem_singleton.mp hw; exact hg.use w1 rfl
  have hRm : (hrm dH).frames + 1 ≤ room_1.frames ∧ 8 + (J.2.2.1 + 11) + (hrm dH).locals ≤ room_1.locals := ⟨by decide, by show 8 + (J.2.2.1 + 11) + 40 * 80 ≤ 84000; omega⟩
  have hrcv := va_recv hK hP wc (hpic_get (al := al) (cs := cs) (M := M) hk)
  rw [wn] at hrcv
  have hpre : PreV s H J.1.cls (al k) (va_Pc ((.inr (some k) :: av).map (hval al)) (fun U => hge U ∧ va_K (dC, dI) vwCl (hty cs) U ∧ hal al ∧ va_P (dC, dI) vwCl (hpic al cs M) U.heap)) (av.map (hval al)) := ⟨hblind, hrcv, fun U hU hW => ⟨rfl, hg.warm hW, va_K.moved hW.alike hK, ha, by rw [hU]; exact hP⟩⟩
  have hlen : (av.map (hval al)).length = n := by rw [List.length_map, hn]
  have hin' : ∀ q, hin al q → s.heap.size ≤ q := fun q ⟨k', k1, k2⟩ => by rw [k2]; exact hA k' k1
  have go : va_Run p l e room_1 s m #[Value.ref b] below meth c H locs 109 9088 0 0 (F0 m pc ls st0) st (hQ al cs dC dI (some (.inl r), M1) (Value.ref (al k) :: av.map (hval al)).toArray) (hin al) := by
    rcases w5 with w5 | ⟨host, w5⟩
    · exact va_runV (As := av.map (hval al)) (rest := st) ⟨hx, hb, hml, hown, hTs⟩ (hM l al cs dC dI) ⟨callB_of n hTs hGI rfl rfl rfl (hg.use w2 rfl) (hg.use w5 rfl) w3 hRm, hg.use w6 rfl, hg.use w7 rfl⟩ hpre rfl hlen hl.1 hst (lv_room h8) hd ⟨by decide, by decide⟩
    · exact va_runVN (As := av.map (hval al)) (rest := st) ⟨hx, hb, hml, hown, hTs⟩ (hM l al cs dC dI) ⟨va_cnB n hTs hGI rfl rfl rfl (hg _ w5 rfl) (hg.use w2 rfl) w3 hRm, hg.use w6 rfl, hg.use w7 rfl⟩ hpre rfl hlen hl.1 hst (lv_room h8) hd ⟨by decide, by decide⟩
  intro T hT X
  obtain ⟨v, st₀, t, T', L', h0, X', hL', e1, e2, ⟨hv, hp, hz, hk'⟩, stp⟩ := go T hT X
  cases hv
  rw [h0] at hz hk'
  obtain ⟨t2, a1, b1⟩ := kk T'.heap (locs ++ L') ls (by rw [e1]; exact hp)
    ⟨Nat.le_trans hS.1 (by rw [e1]; exact hz), fun q h1 h2 => by rw [e1, hk' q (Nat.lt_of_lt_of_le h1 hS.1) (fun z => h2 (hin' q z))]; exact hS.2.1 q h1 h2, fun q hq => by
      rcases List.mem_append.mp hq with h | h
      · exact hS.2.2 q h
      · exact hin' _ (hL' q h)⟩ hl T' rfl X'
  exact ⟨t2, stp t2 a1, b1⟩
theorem lg_eq {r : Int32} {off : Int} {tgt : Nat} (C : LC p s m meth c b L xs cs dC dI al) (hd : decode code pc = .ok (.if_icmp .eq off, 3)) (ht : (pc : Int) + off = (tgt : Int)) (kk : LG p l e s m below meth c b cs dC dI al i M tgt st) : LG p l e s m below meth c b cs dC dI al i M pc (.int r :: .int r :: st) := fun H locs ls hP hS hl => lv_icmp_eq C.1 C.2.1 hd ht (fun _ => kk H locs ls hP hS hl) (fun h => absurd rfl h)
end LGR

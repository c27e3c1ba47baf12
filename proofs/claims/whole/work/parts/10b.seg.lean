/-! pieces of code -/
def TT (_ : Int32) : Prop := True
def BB (v : Int32) : Prop := v = 0 ∨ v = 1
theorem sim_cg {sg wt rc fc gc : Nat → Int32} {sz off to N : Nat} {P : Int32 → Prop} {i i' h : Nat} {S S' : Nat → Int32} (hS : SIM sg wt rc fc gc sz off to N P i i' h S) (e : ∀ j, j < h → S j = S' j) : SIM sg wt rc fc gc sz off to N P i i' h S' := by
  intro A B k k' ct a1 a2 a3 a4 b1 b2 hs
  exact hS A B k k' ct a1 a2 a3 a4 b1 b2 (fun j hj => by rw [e j hj]; exact hs j hj)
def SEG (sg wt rc : Nat → Int32) (off i j : Nat) (T : Int32 → Prop) (kk : Nat) : Prop := i ≤ j ∧ ∀ (sg' wt' rc' fc gc : Nat → Int32) (sz to N : Nat) (P : Int32 → Prop), (∀ q, i ≤ q → q < j → sg' (q + off) = sg (q + off) ∧ wt' (q + off) = wt (q + off) ∧ rc' q = rc q) → ENV sg' fc gc sz off to P → j ≤ to → ∀ (h : Nat) (S : Nat → Int32), h + kk ≤ 32 → (∀ v, T v → SIM sg' wt' rc' fc gc sz off to N P j j (h + 1) (upd S h v)) → SIM sg' wt' rc' fc gc sz off to N P i i h S
theorem SEG.cg {sg wt rc sg' wt' rc' : Nat → Int32} {off i j kk : Nat} {T : Int32 → Prop} (h : SEG sg wt rc off i j T kk) (e : ∀ q, i ≤ q → q < j → sg' (q + off) = sg (q + off) ∧ wt' (q + off) = wt (q + off) ∧ rc' q = rc q) : SEG sg' wt' rc' off i j T kk :=
  ⟨h.1, fun sg2 wt2 rc2 fc gc sz to N P e2 => h.2 sg2 wt2 rc2 fc gc sz to N P (fun q a b => ⟨(e2 q a b).1.trans (e q a b).1, (e2 q a b).2.1.trans (e q a b).2.1, (e2 q a b).2.2.trans (e q a b).2.2⟩)⟩
theorem SEG.up {sg wt rc : Nat → Int32} {off i j kk kk' : Nat} {T : Int32 → Prop} (h : SEG sg wt rc off i j T kk) (e : kk ≤ kk') : SEG sg wt rc off i j T kk' :=
  ⟨h.1, fun sg2 wt2 rc2 fc gc sz to N P e2 e3 e4 h' S hh => h.2 sg2 wt2 rc2 fc gc sz to N P e2 e3 e4 h' S (by omega)⟩
section
variable {sg wt rc : Nat → Int32} {off : Nat}
theorem seg_num {i v : Nat} (hv : v < 1048576) (h1 : sg (i + off) = 1) (h2 : wt (i + off) = iI (v : Int)) (h3 : rc i = iI ((1048576 * 0 + v : Nat) : Int)) : SEG sg wt rc off i (i + 1) TT 1 := by
  refine ⟨by omega, fun sg' wt' rc' fc gc sz to N P e hE hto h S hh hS => ?_⟩
  obtain ⟨a, b, c⟩ := e i (by omega) (by omega)
  exact sim_push (o := 0) (v := v) (w := iI (v : Int)) hE (by omega) (by omega) hv (c.trans h3) (b.trans h2) (Or.inl ⟨rfl, a.trans h1, rfl⟩) (hS _ trivial)
theorem seg_let {i v : Nat} (hv : v < 8) (h1 : sg (i + off) = 2) (h2 : wt (i + off) = iI (v : Int)) (h3 : rc i = iI ((1048576 * 1 + v : Nat) : Int)) : SEG sg wt rc off i (i + 1) TT 1 := by
  refine ⟨by omega, fun sg' wt' rc' fc gc sz to N P e hE hto h S hh hS => ?_⟩
  obtain ⟨a, b, c⟩ := e i (by omega) (by omega)
  exact sim_push (o := 1) (v := v) (w := fc v) hE (by omega) (by omega) (by omega) (c.trans h3) (b.trans h2) (Or.inr ⟨rfl, a.trans h1, hv, rfl⟩) (hS _ trivial)
theorem seg_bin {i m j o k1 k2 kk : Nat} {T : Int32 → Prop} (s1 : SEG sg wt rc off i m TT k1) (s2 : SEG sg wt rc off m j TT k2) (o1 : 2 ≤ o) (o2 : o ≤ 9) (h1 : sg (j + off) = iI (opS o)) (h3 : rc j = iI ((1048576 * o + 0 : Nat) : Int)) (hk1 : k1 ≤ kk) (hk2 : k2 + 1 ≤ kk) (hk3 : 2 ≤ kk) (hT : ∀ v, (7 ≤ o → v = 0 ∨ v = 1) → T v) : SEG sg wt rc off i (j + 1) T kk := by
  have q1 := s1.1
  have q2 := s2.1
  refine ⟨by omega, fun sg' wt' rc' fc gc sz to N P e hE hto h S hh hS => ?_⟩
  obtain ⟨a, b, c⟩ := e j (by omega) (by omega)
  refine s1.2 sg' wt' rc' fc gc sz to N P (fun q x y => e q x (by omega)) hE (by omega) h S (by omega) (fun v _ => ?_)
  refine s2.2 sg' wt' rc' fc gc sz to N P (fun q x y => e q (by omega) (by omega)) hE (by omega) (h + 1) _ (by omega) (fun w _ => ?_)
  refine sim_bin (o := o) hE (by omega) (by omega) o1 o2 (c.trans h3) (a.trans h1) (fun r hr => ?_)
  refine sim_cg (hS r (hT r hr)) (fun q hq => ?_)
  by_cases z : q = h
  · subst z; rw [upd_self, upd_self]
  · rw [upd_ne _ _ z, upd_ne _ _ z, upd_ne _ _ (by omega), upd_ne _ _ z]
theorem seg_not {i j kk : Nat} (s1 : SEG sg wt rc off i j BB kk) (h1 : sg (j + off) = 3) (h3 : rc j = iI ((1048576 * 10 + 0 : Nat) : Int)) (hk : 1 ≤ kk) : SEG sg wt rc off i (j + 1) BB kk := by
  have q1 := s1.1
  refine ⟨by omega, fun sg' wt' rc' fc gc sz to N P e hE hto h S hh hS => ?_⟩
  obtain ⟨a, b, c⟩ := e j (by omega) (by omega)
  refine s1.2 sg' wt' rc' fc gc sz to N P (fun q x y => e q x (by omega)) hE (by omega) h S (by omega) (fun v hv => ?_)
  refine sim_not hE (by omega) (by omega) (c.trans h3) (a.trans h1) ?_
  rw [upd_self, upd_upd]
  refine hS _ ?_
  rcases hv with rfl | rfl
  · exact Or.inr (by decide)
  · exact Or.inl (by decide)
/-- before the last one of a chain of jumps -/
def PRE (sg wt rc : Nat → Int32) (off s0 : Nat) : List Nat → Nat → Prop
  | [], cur => SEG sg wt rc off s0 cur BB 16
  | m :: r, cur => SEG sg wt rc off (m + 1) cur BB 16 ∧ PRE sg wt rc off s0 r m
/-- the class's jumps that wait: each holds the one ahead -/
def CHC (sg wt : Nat → Int32) (off : Nat) (a : Int32) : List Nat → Int32 → Prop
  | [], j => j = -1
  | m :: r, j => j = iI ((m + off : Nat) : Int) ∧ sg (m + off) = a ∧ CHC sg wt off a r (wt (m + off))
/-- the reference's jumps: each leads to the next -/
def RFN (rc : Nat → Int32) (o : Nat) : List Nat → Nat → Prop
  | [], _ => True
  | m :: r, nx => rc m = iI ((1048576 * o + nx : Nat) : Int) ∧ RFN rc o r m
theorem pre_le {s0 : Nat} : ∀ {js : List Nat} {cur : Nat}, PRE sg wt rc off s0 js cur → s0 ≤ cur ∧ ∀ m, m ∈ js → s0 ≤ m ∧ m < cur
  | [], cur, h => ⟨h.1, fun m hm => absurd hm List.not_mem_nil⟩
  | m :: r, cur, h => by
    have h1 := h.1.1
    have h2 := pre_le h.2
    refine ⟨by omega, fun m' hm => ?_⟩
    rcases List.mem_cons.mp hm with e | e
    · subst e; exact ⟨h2.1, by omega⟩
    · have := h2.2 m' e
      exact ⟨this.1, by omega⟩
theorem PRE.cg {sg' wt' rc' : Nat → Int32} {s0 : Nat} : ∀ {js : List Nat} {cur : Nat}, PRE sg wt rc off s0 js cur → (∀ q, s0 ≤ q → q < cur → ¬ q ∈ js → sg' (q + off) = sg (q + off) ∧ wt' (q + off) = wt (q + off) ∧ rc' q = rc q) → PRE sg' wt' rc' off s0 js cur
  | [], cur, h, e => SEG.cg h (fun q a b => e q a b List.not_mem_nil)
  | m :: r, cur, h, e => by
    have h2 := pre_le h.2
    have h1 := h.1.1
    refine ⟨SEG.cg h.1 (fun q a b => e q (by omega) b (fun hm => ?_)), PRE.cg h.2 (fun q a b hq => e q a (by omega) (fun hm => ?_))⟩
    · rcases List.mem_cons.mp hm with z | z
      · omega
      · have := (h2.2 q z).2; omega
    · rcases List.mem_cons.mp hm with z | z
      · omega
      · exact hq z
theorem chain_go {sg' wt' rc' fc gc : Nat → Int32} {sz to N s0 T o h : Nat} {S : Nat → Int32} {P : Int32 → Prop} (ho : o = 11 ∨ o = 12) (hE : ENV sg' fc gc sz off to P) (hT : T ≤ to) (hh : h + 16 ≤ 32) : ∀ (js : List Nat) (cur : Nat), PRE sg wt rc off s0 js cur → cur ≤ T → (∀ q, s0 ≤ q → q < T → sg' (q + off) = sg (q + off) ∧ wt' (q + off) = wt (q + off) ∧ rc' q = rc q) → (∀ m, m ∈ js → sg (m + off) = iI ((o - 7 : Nat) : Int) ∧ wt (m + off) = iI ((T + off : Nat) : Int)) → RFN rc o js cur → (∀ v, BB v → SIM sg' wt' rc' fc gc sz off to N P cur cur (h + 1) (upd S h v) ∧ (v = iI ((o - 11 : Nat) : Int) → SIM sg' wt' rc' fc gc sz off to N P T cur (h + 1) (upd S h v))) → SIM sg' wt' rc' fc gc sz off to N P s0 s0 h S
  | [], cur, hp, hc, e, hm, hr, hS => hp.2 sg' wt' rc' fc gc sz to N P (fun q a b => e q a (by omega)) hE (by omega) h S hh (fun v hv => (hS v hv).1)
  | m :: r, cur, hp, hc, e, hm, hr, hS => by
    have hp1 := hp.1.1
    have hp2 := pre_le hp.2
    obtain ⟨x1, x2, x3⟩ := e m hp2.1 (by omega)
    obtain ⟨y1, y2⟩ := hm m List.mem_cons_self
    have hr3 := x3.trans hr.1
    refine chain_go ho hE hT hh r m hp.2 (by omega) e (fun m' h' => hm m' (List.mem_cons_of_mem _ h')) hr.2 (fun v hv => ⟨?_, fun hv2 => ?_⟩)
    · refine sim_jmp (o := o) (t := cur) (T := T) hE (by omega) (by omega) ho ?_ hr3 (x1.trans y1) (x2.trans y2) (by omega) hT (by omega) (by omega) (fun z => ?_) (fun z => ?_)
      · rw [upd_self]; exact hv
      · rw [upd_self] at z
        exact (hS v hv).2 z
      · refine hp.1.2 sg' wt' rc' fc gc sz to N P (fun q a b => e q (by omega) (by omega)) hE (by omega) h _ hh (fun w hw => ?_)
        rw [upd_upd]
        exact (hS w hw).1
    · refine sim_jmpR (o := o) (t := cur) (T := T) hE (by omega) (by omega) ho ?_ hr3 (by omega) (by omega) ?_
      · rw [upd_self]; exact hv2
      · exact (hS v hv).2 hv2
theorem seg_chain {s0 T o : Nat} {js : List Nat} (ho : o = 11 ∨ o = 12) (hp : PRE sg wt rc off s0 js T) (hm : ∀ m, m ∈ js → sg (m + off) = iI ((o - 7 : Nat) : Int) ∧ wt (m + off) = iI ((T + off : Nat) : Int)) (hr : RFN rc o js T) : SEG sg wt rc off s0 T BB 16 := by
  refine ⟨(pre_le hp).1, fun sg' wt' rc' fc gc sz to N P e hE hto h S hh hS => ?_⟩
  exact chain_go ho hE hto hh js T hp (Nat.le_refl _) e hm hr (fun v hv => ⟨hS v hv, fun _ => hS v hv⟩)
end
/-- a whole code -/
theorem seg_run {A B : HMem} {off i j sz N kk : Nat} {T P : Int32 → Prop} (hs : SEG (A 27) (A 28) (B 91) off i j T kk) (hk : kk ≤ 32) (a3 : A 23 6 = iI sz) (hsz : sz ≤ 240) (hj : j + off < sz) (hl : A 27 (j + off) = 0) (hf : ∀ q, q < 8 → A 29 q = B 97 q) (hP : P 0) (hTP : ∀ v, T v → P v) (hN : 300 ≤ N) : ∃ r A' B', f_X5_run N 23 (iI ((i + off : Nat) : Int)) A = some (r, A') ∧ f_X12_comesTo N (iI i) (iI j) B = some (r, B') ∧ (∀ q, q ≠ 30 → A' q = A q) ∧ (∀ q, q ≠ 96 → B' q = B q) ∧ P r := by
  have hE : ENV (A 27) (A 29) (B 97) sz off j P := ⟨hf, hsz, hj, hl, hP⟩
  have hij := hs.1
  have go := hs.2 (A 27) (A 28) (B 91) (A 29) (B 97) sz j N P (fun q _ _ => ⟨rfl, rfl, rfl⟩) hE (Nat.le_refl _) 0 (fun _ => 0) (by omega) (fun v hv => sim_end hE (by omega) (by rw [upd_self]; exact hTP v hv))
  have e0 : (260 : Int32) * (iI (i : Int) / 260) = 0 := by
    have h := pk_div (a := i) (d := 260) (by omega) (by decide) (by decide)
    rw [nI_iI, nI_iI, nI_iI, show i / 260 = 0 by omega] at h
    rw [show (260 : Int32) = iI ((260 : Nat) : Int) from rfl, h]
    rfl
  obtain ⟨r, A', B', g1, g2, g3, g4, g5⟩ := go A B N N 0 rfl rfl a3 rfl rfl rfl (fun j hj => absurd hj (by omega)) (by omega) (by omega) (by omega)
  exact ⟨r, A', B', g1, by rw [f_X12_comesTo, e0]; exact g2, g3, g4, g5⟩

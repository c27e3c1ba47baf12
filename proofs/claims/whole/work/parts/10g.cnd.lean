/-! conditions: steps -/
theorem opens_sp {tb : Nat → Nat} {n p d c off wn : Nat} {A B : HMem} (o : Nat) (hS : SY tb n A B p d c off wn 0) (hd : d < 6) (hpn : p < n) : ∃ B1, f_X12_opens (iI (o : Int)) B = some (1, B1) ∧ SY tb n (f_X10_pass A) B1 (p + 1) (d + 1) c off (wn + 1) 0 ∧ oBD B B1 ∧ B1 85 = B 85 ∧ B1 86 = upd (B 86) wn (iI ((1048576 * o + 0 : Nat) : Int)) := by
  obtain ⟨hA, hB, hn, -, h17, h18, h6, h19, hc, hw⟩ := hS
  simp only [Nat.add_zero] at h6 h19 hc hw
  have h13 := hB.2.2.2.2
  obtain ⟨a1, a2⟩ := pass_ok hA hpn
  have x2 : ¬ B 74 17 = 6 := by rw [h17]; exact ne_i (b := 6) (by omega) (by omega) (by omega) (by omega) (by omega)
  have eu : (1048576 : Int32) * iI (o : Int) = iI ((1048576 * o + 0 : Nat) : Int) := by
    rw [show (1048576 : Int32) = iI 1048576 from rfl, iI_mul]; congr 1
  obtain ⟨B1, hB1⟩ : ∃ B1, B1 = hset (hset (hset (hset B 74 17 (iI ((d + 1 : Nat) : Int))) 86 wn (iI ((1048576 * o + 0 : Nat) : Int))) 74 19 (iI ((wn + 1 : Nat) : Int))) 74 13 (iI ((p + 1 : Nat) : Int)) := ⟨_, rfl⟩
  have b84 : ∀ i, i ≠ 74 → i ≠ 86 → B1 i = B i := fun i a b => by rw [hB1, hset_nek _ _ _ a, hset_nek _ _ _ a, hset_nek _ _ _ b, hset_nek _ _ _ a]
  have b74 : ∀ j, j ≠ 13 → j ≠ 17 → j ≠ 19 → B1 74 j = B 74 j := fun j a b e => by rw [hB1, hset_nej _ _ a, hset_nej _ _ e, hset_nek _ _ _ (by decide), hset_nej _ _ b]
  refine ⟨B1, ?_, ⟨a2, ⟨fun j hj => by rw [b84 84 (by decide) (by decide)]; exact hB.1 j hj, hB.2.1, by omega, by rw [b74 14 (by decide) (by decide) (by decide)]; exact hB.2.2.2.1, by rw [hB1, hset_self]⟩, hn, by omega, by rw [hB1, hset_nej _ _ (by decide), hset_nej _ _ (by decide), hset_nek _ _ _ (by decide), hset_self], by rw [b74 18 (by decide) (by decide) (by decide)]; exact h18, by rw [a1, hset_nek _ _ _ (by decide)]; exact h6, by rw [hB1, hset_nej _ _ (by decide), hset_self], by omega, by omega⟩, ⟨fun i a _ b => b84 i a b, fun j a _ _ b _ e => b74 j a b e⟩, b84 85 (by decide) (by decide), by rw [hB1, hset_nek _ _ _ (by decide), hset_nek _ _ _ (by decide), hset, hput_self, hset_nek _ _ _ (by decide)]⟩
  have e0 : hset B 74 17 (iI ((d + 1 : Nat) : Int)) 74 19 = iI (wn : Int) := by rw [hset_nej _ _ (by decide)]; exact h19
  have e1 : hset (hset B 74 17 (iI ((d + 1 : Nat) : Int))) 86 wn (iI ((1048576 * o + 0 : Nat) : Int)) 74 19 = iI (wn : Int) := by rw [hset_nek _ _ _ (by decide)]; exact e0
  have e2 : hset (hset (hset B 74 17 (iI ((d + 1 : Nat) : Int))) 86 wn (iI ((1048576 * o + 0 : Nat) : Int))) 74 19 (iI ((wn + 1 : Nat) : Int)) 74 13 = iI (p : Int) := by rw [hset_nej _ _ (by decide), hset_nek _ _ _ (by decide), hset_nej _ _ (by decide)]; exact h13
  rw [f_X12_opens, if_neg x2, h17, iI_s, e0, hib_t (n := 260) (by omega) (by omega) (by omega), if_pos rfl, hb1_some, iI_natc (k := wn) (by omega), eu, e1, iI_s, e2, iI_s, hB1]
theorem opens_6 {B : HMem} {p : Nat} (v : Int32) (h17 : B 74 17 = iI (6 : Nat)) (h13 : B 74 13 = iI (p : Int)) : f_X12_opens v B = some (0, hset B 74 15 (iI (-1000 * 5 - (p : Int)))) := by
  have x2 : B 74 17 = 6 := by rw [h17]; rfl
  rw [f_X12_opens, if_pos x2, show hb2 (f_X12_wrongAt 5 (B 74 13) B) (fun x M => if x &&& 1 = x then some (x, M) else none) = _ from wr_some (k := 5) h13]
  rfl
def TO (B : HMem) (wn : Nat) (P : Nat → Prop) : Prop := 0 < wn ∧ ∃ o v, o ≤ 20 ∧ v < 1048576 ∧ B 86 (wn - 1) = iI ((1048576 * o + v : Nat) : Int) ∧ P o
theorem TO.cg {B B' : HMem} {wn : Nat} {P : Nat → Prop} (h : TO B wn P) (e : ∀ q, q < wn → B' 86 q = B 86 q) : TO B' wn P := by
  obtain ⟨h0, o, v, h1, h2, h3, h4⟩ := h
  exact ⟨h0, o, v, h1, h2, by rw [e _ (by omega)]; exact h3, h4⟩
theorem TO.mono {B : HMem} {wn : Nat} {P Q : Nat → Prop} (h : TO B wn P) (e : ∀ o, P o → Q o) : TO B wn Q := by
  obtain ⟨h0, o, v, h1, h2, h3, h4⟩ := h
  exact ⟨h0, o, v, h1, h2, h3, e o h4⟩
theorem TO.tn {B : HMem} {wn : Nat} (h : TO B wn (fun o => 10 ≤ o)) : TN B wn 2 := by
  obtain ⟨h0, o, v, h1, h2, h3, h4⟩ := h
  exact Or.inr ⟨o, v, h1, h2, h3, by omega⟩
theorem TO.top {B : HMem} {wn : Nat} {P : Nat → Prop} (h : TO B wn P) (hw : B 74 19 = iI (wn : Int)) (h2 : wn ≤ 260) : ∃ o, o ≤ 20 ∧ P o ∧ f_X12_waitTop B = some (iI (o : Int)) := by
  obtain ⟨h0, o, v, h1, h5, h3, h4⟩ := h
  obtain ⟨w, rfl⟩ : ∃ w, wn = w + 1 := ⟨wn - 1, by omega⟩
  exact ⟨o, h1, h4, waitTop_ok hw (by omega) h1 h5 h3⟩
theorem TO_push {B : HMem} {wn o v : Nat} {P : Nat → Prop} (ho : o ≤ 20) (hv : v < 1048576) (e : B 86 wn = iI ((1048576 * o + v : Nat) : Int)) (h : P o) : TO B (wn + 1) P := ⟨by omega, o, v, ho, hv, e, h⟩
/-- jumps that wait, the last one first -/
def PJ (B : HMem) (wn : Nat) : List (Nat × Nat) → Prop
  | [] => True
  | x :: r => B 86 (wn + r.length) = iI ((1048576 * x.1 + x.2 : Nat) : Int) ∧ B 85 x.2 = iI ((1048576 * x.1 + 0 : Nat) : Int) ∧ x.2 < 240 ∧ (∀ y, y ∈ r → y.2 ≠ x.2) ∧ PJ B wn r
def LJ (rc : Nat → Int32) (T : Nat) : List (Nat × Nat) → Nat → Int32
  | [] => rc
  | x :: r => LJ (upd rc x.2 (iI ((1048576 * x.1 + T : Nat) : Int))) T r
theorem LJ_ne : ∀ (l : List (Nat × Nat)) (rc : Nat → Int32) (T q : Nat), (∀ x, x ∈ l → x.2 ≠ q) → LJ rc T l q = rc q
  | [], _, _, _, _ => rfl
  | x :: r, rc, T, q, h => by
    rw [LJ, LJ_ne r _ T q (fun y hy => h y (List.mem_cons_of_mem _ hy)), upd_ne _ _ (Ne.symm (h x List.mem_cons_self))]
theorem PJ.cg {B B' : HMem} {wn : Nat} : ∀ {l : List (Nat × Nat)}, PJ B wn l → (∀ q, q < wn + l.length → B' 86 q = B 86 q) → (∀ x, x ∈ l → B' 85 x.2 = B 85 x.2) → PJ B' wn l
  | [], _, _, _ => trivial
  | x :: r, h, e, e2 => ⟨by rw [e _ (by simp)]; exact h.1, by rw [e2 x List.mem_cons_self]; exact h.2.1, h.2.2.1, h.2.2.2.1, PJ.cg h.2.2.2.2 (fun q hq => e q (by simp only [List.length_cons]; omega)) (fun y hy => e2 y (List.mem_cons_of_mem _ hy))⟩
theorem lands_L {N wn c : Nat} {v1 : Int32} (hv : v1 = 0 ∨ v1 = 1) (hw2 : wn ≤ 240) (hc : c < 1048576) : ∀ (l : List (Nat × Nat)) (k : Nat) (B : HMem), (∀ x, x ∈ l → x.1 = 11 ∨ (x.1 = 12 ∧ v1 = 1)) → B 74 18 = iI (c : Int) → B 74 19 = iI ((wn + l.length : Nat) : Int) → PJ B wn l → TO B wn (fun o => o ≠ 11 ∧ (v1 = 1 → o ≠ 12)) → l.length < k → l.length ≤ 10 → ∃ B', f_X12_lands_L0 N v1 k B = some B' ∧ B' 74 19 = iI (wn : Int) ∧ B' 85 = LJ (B 85) c l ∧ (∀ i, i ≠ 74 → i ≠ 85 → B' i = B i) ∧ ∀ j, j ≠ 19 → B' 74 j = B 74 j
  | [], k, B, _, h18, h19, _, hT, hk, _ => by
    obtain ⟨k, rfl⟩ : ∃ q, k = q + 1 := ⟨k - 1, by simp at hk; omega⟩
    obtain ⟨o, o1, o2, o3⟩ := hT.top h19 (by omega)
    refine ⟨B, ?_, h19, rfl, fun _ _ _ => rfl, fun _ _ => rfl⟩
    have n11 : ¬ iI (o : Int) = 11 := ne_i (b := 11) (by have := o2.1; omega) (by omega) (by omega) (by omega) (by omega)
    rw [f_X12_lands_L0, o3, hb1_some, if_neg n11, hb1_some]
    rcases hv with rfl | rfl
    · rw [if_pos rfl]
    · have n12 : ¬ iI (o : Int) = 12 := ne_i (b := 12) (by have := o2.2 rfl; omega) (by omega) (by omega) (by omega) (by omega)
      rw [if_neg i10, if_neg n12]
  | x :: r, k, B, hx, h18, h19, hp, hT, hk, hl => by
    obtain ⟨o, m⟩ := x
    simp only [List.length_cons] at h19 hk hl
    obtain ⟨k, rfl⟩ : ∃ q, k = q + 1 := ⟨k - 1, by omega⟩
    have ho := hx (o, m) List.mem_cons_self
    dsimp only at ho
    obtain ⟨p1, p2, p3, p4, p5⟩ := hp
    dsimp only at p1 p2 p3 p4
    have wt := waitTop_ok (v := m) (show B 74 19 = iI ((wn + r.length + 1 : Nat) : Int) from h19) (by omega) (by omega) (by omega) p1
    obtain ⟨B1, hB1⟩ : ∃ B1, B1 = hset (hset B 85 m (iI ((1048576 * o + c : Nat) : Int))) 74 19 (iI ((wn + r.length : Nat) : Int)) := ⟨_, rfl⟩
    have eu : (1048576 : Int32) * iI (o : Int) + iI (c : Int) = iI ((1048576 * o + c : Nat) : Int) := by
      rw [show (1048576 : Int32) = iI 1048576 from rfl, iI_mul, iI_add]; congr 1
    have e19 : hset B 85 m (iI ((1048576 * o + c : Nat) : Int)) 74 19 = iI ((wn + r.length + 1 : Nat) : Int) := by rw [hset_nek _ _ _ (by decide)]; exact h19
    have j22 : f_X12_lands_J22 N (f_X12_lands_L0 N v1 k) v1 B = f_X12_lands_L0 N v1 k B1 := by
      rw [f_X12_lands_J22, h19, show wn + (r.length + 1) = wn + r.length + 1 from rfl, iI_pr, hib_t (n := 260) (by omega) (by omega) (by omega), if_pos rfl, iI_natc (k := wn + r.length) (by omega), p1, (cd_op (o := o) (v := m) (by omega) (by omega)).2, hb1_some, hib_t (n := 260) (by omega) (by omega) (by omega), if_pos rfl, if_pos rfl, iI_natc (k := m) (by omega), p2, (cd_op (o := o) (v := 0) (by omega) (by omega)).1, h18, eu, hb1_some, e19, iI_pr, hB1]
    have jj : f_X12_lands_L0 N v1 (k + 1) B = f_X12_lands_L0 N v1 k B1 := by
      rw [f_X12_lands_L0, wt, hb1_some, hb1_some, j22]
      rcases ho with rfl | ⟨rfl, rfl⟩
      · rw [if_pos (by rfl)]
      · rw [if_neg (by decide), if_neg i10, if_pos (by rfl)]
    have b86 : B1 86 = B 86 := by rw [hB1, hset_nek _ _ _ (by decide), hset_nek _ _ _ (by decide)]
    have b85 : B1 85 = upd (B 85) m (iI ((1048576 * o + c : Nat) : Int)) := by rw [hB1, hset_nek _ _ _ (by decide), hset, hput_self]
    obtain ⟨B', g1, g2, g3, g4, g5⟩ := lands_L hv hw2 hc r k B1 (fun y hy => hx y (List.mem_cons_of_mem _ hy)) (by rw [hB1, hset_nej _ _ (by decide), hset_nek _ _ _ (by decide)]; exact h18) (by rw [hB1, hset_self]) (p5.cg (fun q _ => by rw [b86]) (fun y hy => by rw [b85, upd_ne _ _ (p4 y hy)])) (hT.cg (fun q _ => by rw [b86])) (by omega) (by omega)
    refine ⟨B', by rw [jj]; exact g1, g2, by rw [g3, b85]; rfl, fun i a b => ?_, fun j a => ?_⟩
    · rw [g4 i a b, hB1, hset_nek _ _ _ a, hset_nek _ _ _ b]
    · rw [g5 j a, hB1, hset_nej _ _ a, hset_nek _ _ _ (by decide)]
/-- the class's chain of jumps is settled -/
def DSC : List Nat → Prop
  | [] => True
  | m :: r => (∀ x, x ∈ r → x < m) ∧ DSC r
theorem pre_dsc {sg wt rc : Nat → Int32} {off s0 : Nat} : ∀ {js : List Nat} {cur : Nat}, PRE sg wt rc off s0 js cur → DSC js
  | [], _, _ => trivial
  | m :: r, cur, h => ⟨fun x hx => ((pre_le h.2).2 x hx).2, pre_dsc h.2⟩
theorem CHC.cg {sg wt sg' wt' : Nat → Int32} {off : Nat} {a : Int32} : ∀ {js : List Nat} {j : Int32}, CHC sg wt off a js j → (∀ m, m ∈ js → sg' (m + off) = sg (m + off) ∧ wt' (m + off) = wt (m + off)) → CHC sg' wt' off a js j
  | [], _, h, _ => h
  | m :: r, j, h, e => ⟨h.1, by rw [(e m List.mem_cons_self).1]; exact h.2.1, by rw [(e m List.mem_cons_self).2]; exact CHC.cg h.2.2 (fun x hx => e x (List.mem_cons_of_mem _ hx))⟩
theorem CHC.sg {sg wt : Nat → Int32} {off : Nat} {a : Int32} : ∀ {js : List Nat} {j : Int32}, CHC sg wt off a js j → ∀ m, m ∈ js → sg (m + off) = a
  | [], _, _, m, hm => absurd hm List.not_mem_nil
  | m :: r, j, h, x, hx => by
    rcases List.mem_cons.mp hx with e | e
    · subst e; exact h.2.1
    · exact CHC.sg h.2.2 x e
theorem settle_ok {N off sz : Nat} {a : Int32} : ∀ (js : List Nat) (k v : Nat) (j : Int32) (A : HMem), CHC (A 19) (A 20) off a js j → DSC js → (∀ m, m ∈ js → m + off < 240) → A 15 6 = iI (sz : Int) → js.length + v < 240 → js.length < k → ∃ A', f_X5_settle_L4 N 15 k j (iI (v : Int)) A = some A' ∧ (∀ i, i ≠ 20 → A' i = A i) ∧ (∀ m, m ∈ js → A' 20 (m + off) = iI (sz : Int)) ∧ ∀ q, (∀ m, m ∈ js → q ≠ m + off) → A' 20 q = A 20 q
  | [], k, v, j, A, h, _, _, _, hv, hk => by
    obtain ⟨k, rfl⟩ : ∃ q, k = q + 1 := ⟨k - 1, by simp at hk; omega⟩
    have e : j = -1 := h
    refine ⟨A, ?_, fun _ _ => rfl, fun m hm => absurd hm List.not_mem_nil, fun _ _ => rfl⟩
    rw [f_X5_settle_L4, e, if_pos (show (-1 : Int32) < 0 by decide), ite_self]
  | m :: r, k, v, j, A, h, hd, hb, hz, hv, hk => by
    simp only [List.length_cons] at hv hk
    obtain ⟨k, rfl⟩ : ∃ q, k = q + 1 := ⟨k - 1, by omega⟩
    obtain ⟨h1, h2, h3⟩ := h
    have hm := hb m List.mem_cons_self
    have x1 : ¬ (240 : Int32) ≤ iI (v : Int) := nl_i (a := 240) (by omega) (by omega) (by omega)
    have x2 : ¬ iI ((m + off : Nat) : Int) < 0 := nlt_i (b := 0) (by omega) (by omega) (by omega)
    have x3 : ¬ (240 : Int32) ≤ iI ((m + off : Nat) : Int) := nl_i (a := 240) (by omega) (by omega) (by omega)
    obtain ⟨A1, hA1⟩ : ∃ A1, A1 = hset A 20 (m + off) (iI (sz : Int)) := ⟨_, rfl⟩
    have a20 : A1 20 = upd (A 20) (m + off) (iI (sz : Int)) := by rw [hA1, hset, hput_self]
    have ai : ∀ i, i ≠ 20 → A1 i = A i := fun i hi => by rw [hA1, hset_nek _ _ _ hi]
    have st : f_X5_settle_L4 N 15 (k + 1) j (iI (v : Int)) A = f_X5_settle_L4 N 15 k (A 20 (m + off)) (iI ((v + 1 : Nat) : Int)) A1 := by
      rw [f_X5_settle_L4, h1, if_neg x1, if_neg x2, if_neg x3, hib_t (n := 240) (by omega) (by omega) (by omega), if_pos rfl, if_pos rfl, iI_natc (k := m + off) (by omega), hz, iI_s, hA1]
    have hc : CHC (A1 19) (A1 20) off a r (A 20 (m + off)) := h3.cg (fun x hx => by
      have := hd.1 x hx
      rw [ai 19 (by decide), a20, upd_ne _ _ (by omega)]; exact ⟨rfl, rfl⟩)
    obtain ⟨A', g1, g2, g3, g4⟩ := settle_ok r k (v + 1) (A 20 (m + off)) A1 hc hd.2 (fun x hx => hb x (List.mem_cons_of_mem _ hx)) (by rw [ai 15 (by decide)]; exact hz) (by omega) (by omega)
    refine ⟨A', by rw [st]; exact g1, fun i hi => by rw [g2 i hi, ai i hi], fun x hx => ?_, fun q hq => ?_⟩
    · rcases List.mem_cons.mp hx with e | e
      · subst e
        rw [g4 _ (fun y hy => by have := hd.1 y hy; omega), a20, upd_self]
      · exact g3 x e
    · rw [g4 q (fun y hy => hq y (List.mem_cons_of_mem _ hy)), a20, upd_ne _ _ (hq m List.mem_cons_self)]
/-- the reference behind a piece -/
def DX (N kk k4 : Nat) (B : HMem) : Option (Int32 × HMem) := f_X12_readsCondition_L92 N (f_X12_readsCondition_L40 N k4) kk B
def EX (N ke kk k4 : Nat) (B : HMem) : Option (Int32 × HMem) := hb1 (f_X12_endsPiece_L0 N ke B) (fun M => DX N kk k4 M)
theorem ex_dx {N ke kk k4 wn : Nat} {B : HMem} (hT : TO B wn (fun o => o ≠ 10)) (hw : B 74 19 = iI (wn : Int)) (h2 : wn ≤ 260) (hk : 0 < ke) : EX N ke kk k4 B = DX N kk k4 B := by
  obtain ⟨o, o1, o2, o3⟩ := hT.top hw h2
  obtain ⟨k, rfl⟩ : ∃ q, ke = q + 1 := ⟨ke - 1, by omega⟩
  have n10 : ¬ iI (o : Int) = 10 := ne_i (b := 10) (by omega) (by omega) (by omega) (by omega) (by omega)
  rw [EX, f_X12_endsPiece_L0, o3, hb1_some, if_neg n10, hb1_some]
theorem cmp_ok {tb : Nat → Nat} {N n q k p d c off wn : Nat} {A B : HMem} (hN : 300 ≤ N) (hq : 4 + 3 * (6 - d) ≤ q) (hS : SY tb n A B p d c off wn 0) (hT : TN B wn 2) (z1 : sgn tb n p ≠ 33) (z2 : sgn tb n p ≠ 40) : ∃ A' B', g_X6 N q 3 (iI (d : Int)) A = some A' ∧ ocD A A' ∧ oBD B B' ∧ ((∃ p' c' : Nat, p < p' ∧ c' + p ≤ c + p' ∧ SY tb n A' B' p' d c' off wn 0 ∧ KP (c + off) c wn A A' B B' ∧ SEG (A' 19) (A' 20) (B' 85) off c c' BB 16 ∧ f_X12_readsCondition_L40 N (k + 1) B = EX N N N k B') ∨ (FT A' B' ∧ DD A' ∧ f_X12_readsCondition_L40 N (k + 1) B = some (0, B'))) := by
  obtain ⟨hA, hB, hn, hd, -⟩ := id hS
  have hz0 := sgn_rg hA
  obtain ⟨q, rfl⟩ : ∃ q', q = q' + 1 := ⟨q - 1, by omega⟩
  have eC : g_X6 N (q + 1) 3 (iI (d : Int)) A = f_X6_readComparison N (g_X6 N q) (iI (d : Int)) A := rfl
  have eR : f_X12_readsCondition_L40 N (k + 1) B = hb2 (f_X12_readsCompared N B) (fun x M => if x = 0 then some (0, M) else DX N N k M) := by
    rw [f_X12_readsCondition_L40, here_ok hB, hb1_some, if_neg (show ¬ iI (sgn tb n p) = 33 from ne_i (b := 33) z1 (by omega) (by omega) (by omega) (by omega)), hb1_some, if_neg (show ¬ iI (sgn tb n p) = 40 from ne_i (b := 40) z2 (by omega) (by omega) (by omega) (by omega))]
    rfl
  obtain ⟨A1, B1, g1, g2, g3, g4⟩ := sum_top (q := q) hN (by omega) hS hT
  rw [eC, f_X6_readComparison, g1, hb1_some, eR, f_X12_readsCompared]
  rcases g4 with ⟨p', c', r1, r2, r3, r4, r5, r6⟩ | ⟨r1, r2, r3⟩
  · obtain ⟨hA1, hB1, -, -, j17, j18, j6, j19, jc, jw⟩ := id r3
    simp only [Nat.add_zero] at j6 j19 jc jw
    have hz := sgn_rg hA1
    have hp1 := hA1.2.2.1
    have hcc := r5.1
    rw [sign_ok hA1, hb1_some, r6, hb2_some, if_neg i10, here_ok hB1, hb1_some, hb1_some, hb1_some]
    by_cases hc : ∃ o, 7 ≤ o ∧ o ≤ 9 ∧ sgn tb n p' = opS o
    · obtain ⟨o, o1, o2, o3⟩ := hc
      have hpn : p' < n := sgn_in (tb := tb) (by
        rcases (show o = 7 ∨ o = 8 ∨ o = 9 by omega) with rfl | rfl | rfl <;> rw [o3] <;> decide)
      have e1 : (if iI (sgn tb n p') = 60 then f_X6_readComparison_J40 N (g_X6 N q) (iI (d : Int)) (iI (sgn tb n p')) A1 else if iI (sgn tb n p') = 62 then f_X6_readComparison_J40 N (g_X6 N q) (iI (d : Int)) (iI (sgn tb n p')) A1 else if iI (sgn tb n p') = 61 then f_X6_readComparison_J40 N (g_X6 N q) (iI (d : Int)) (iI (sgn tb n p')) A1 else some (f_X10_failHere 1 A1)) = f_X6_readComparison_J40 N (g_X6 N q) (iI (d : Int)) (iI (sgn tb n p')) A1 := by
        rw [o3]
        rcases (show o = 7 ∨ o = 8 ∨ o = 9 by omega) with rfl | rfl | rfl
        · rw [if_pos (by decide)]
        · rw [if_neg (by decide), if_pos (by decide)]
        · rw [if_neg (by decide), if_neg (by decide), if_pos (by decide)]
      have e2 : (if iI (sgn tb n p') = 60 then f_X12_readsCompared_J52 N 7 B1 else if iI (sgn tb n p') = 62 then f_X12_readsCompared_J52 N 8 B1 else if iI (sgn tb n p') = 61 then f_X12_readsCompared_J52 N 9 B1 else f_X12_readsCompared_J52 N (-1) B1) = f_X12_readsCompared_J52 N (iI (o : Int)) B1 := by
        rw [o3]
        rcases (show o = 7 ∨ o = 8 ∨ o = 9 by omega) with rfl | rfl | rfl
        · rw [if_pos (by decide)]; rfl
        · rw [if_neg (by decide), if_pos (by decide)]; rfl
        · rw [if_neg (by decide), if_neg (by decide), if_pos (by decide)]; rfl
      have no : ¬ iI (o : Int) = -1 := by rw [qm1]; exact ne_i (by omega) (by omega) (by omega) (by omega) (by omega)
      obtain ⟨a1, a2⟩ := pass_ok hA1 hpn
      have pA : ∀ i, i ≠ 1 → f_X10_pass A1 i = A1 i := fun i hi => by rw [a1, hset_nek _ _ _ hi]
      have hB2 := hB1.step hpn
      have hS2 : SY tb n (f_X10_pass A1) (hset B1 74 13 (iI ((p' + 1 : Nat) : Int))) (p' + 1) d c' off wn 0 := ⟨a2, hB2, hn, hd, by rw [hset_nej _ _ (by decide)]; exact j17, by rw [hset_nej _ _ (by decide)]; exact j18, by rw [pA 15 (by decide)]; exact j6, by rw [hset_nej _ _ (by decide)]; exact j19, by omega, by omega⟩
      have e86 : ∀ i, hset B1 74 13 (iI ((p' + 1 : Nat) : Int)) 86 i = B1 86 i := fun i => by rw [hset_nek _ _ _ (by decide)]
      have e85 : hset B1 74 13 (iI ((p' + 1 : Nat) : Int)) 85 = B1 85 := hset_nek _ _ _ (by decide)
      obtain ⟨A3, B3, m1, m2, m3, m4⟩ := sum_top (q := q) hN (by omega) hS2 (hT.cg (fun i hi => by rw [e86]; exact r4.2.2 i hi))
      rw [e1, e2, f_X6_readComparison_J40, m1, hb1_some, f_X12_readsCompared_J52, if_neg no, hB1.2.2.2.2, iI_s]
      have oA : ocD A A3 := (g2.trans (oc1.D pA)).trans m2
      have oBB : oBD B B3 := (g3.trans (oBD_set _ _ (by decide))).trans m3
      rcases m4 with ⟨p2, c2, w1, w2, w3, w4, w5, w6⟩ | ⟨w1, w2, w3⟩
      · obtain ⟨hA3, hB3, -, -, l17, l18, l6, l19, lc, lw⟩ := id w3
        simp only [Nat.add_zero] at l6 l19 lc lw
        have hp3 := hA3.2.2.1
        have hc3 := w5.1
        obtain ⟨A4, u1, u2, u3, u4, u5, u6⟩ := add_sp (iI (sgn tb n p')) 0 l6 (by omega)
        obtain ⟨B4, v1, v2, v3, v4, v5⟩ := notes_sp o 0 l18 (by omega)
        rw [u1, hb2_some, w6, hb2_some, if_neg i10, show f_X12_notes (iI (o : Int)) 0 B3 = some B4 from v1, hb1_some]
        refine ⟨A4, B4, rfl, oA.trans ⟨fun i _ a b e => u5 i a b e, u6⟩, oBB.trans ⟨fun i a b _ => v4 i a b, fun j _ _ _ _ a _ => v5 j a⟩, Or.inl ⟨p2, c2 + 1, by omega, by omega, ⟨hA3.cg (u5 2 (by decide) (by decide) (by decide)) (u5 1 (by decide) (by decide) (by decide)), hB3.cg (v4 84 (by decide) (by decide)) (v5 13 (by decide)) (v5 14 (by decide)), hn, hd, by rw [v5 17 (by decide)]; exact l17, v3, by rw [u4]; congr 2; omega, by rw [v5 19 (by decide)]; exact l19, by omega, by omega⟩, ⟨fun i hi => ?_, fun i hi => ?_, fun i hi => ?_⟩, ?_, ?_⟩⟩
        · rw [u2, u3, upd_ne _ _ (by omega), upd_ne _ _ (by omega), (w4.1 i (by omega)).1, (w4.1 i (by omega)).2, pA 19 (by decide), pA 20 (by decide)]; exact r4.1 i hi
        · rw [v2, upd_ne _ _ (by omega), w4.2.1 i (by omega), e85]; exact r4.2.1 i hi
        · rw [v4 86 (by decide) (by decide), w4.2.2 i hi, e86]; exact r4.2.2 i hi
        · have s1 : SEG (A4 19) (A4 20) (B4 85) off c c' TT 15 := r5.cg (fun i i1 i2 => ⟨by rw [u2, upd_ne _ _ (by omega), (w4.1 _ (by omega)).1, pA 19 (by decide)], by rw [u3, upd_ne _ _ (by omega), (w4.1 _ (by omega)).2, pA 20 (by decide)], by rw [v2, upd_ne _ _ (by omega), w4.2.1 i (by omega), e85]⟩)
          have s2 : SEG (A4 19) (A4 20) (B4 85) off c' c2 TT 15 := w5.cg (fun i i1 i2 => ⟨by rw [u2, upd_ne _ _ (by omega)], by rw [u3, upd_ne _ _ (by omega)], by rw [v2, upd_ne _ _ (by omega)]⟩)
          exact seg_bin (o := o) s1 s2 (by omega) (by omega) (by rw [u2, upd_self, o3]) (by rw [v2, upd_self]) (by omega) (by omega) (by omega) (fun v hv => hv o1)
        · rw [EX, f_X12_endsPiece]
          cases f_X12_endsPiece_L0 N N B4 with
          | none => rfl
          | some M => rfl
      · obtain ⟨r, A4, u1, u2, u3, u4⟩ := add_dd (iI (sgn tb n p')) 0 w2
        rw [u1, hb2_some]
        exact ⟨A4, B3, rfl, oA.trans u3, oBB, Or.inr ⟨w1.dk (dk_of u4), u2, by rw [w3, hb2_some, if_pos rfl, hb2_some, if_pos rfl]⟩⟩
    · have y60 : sgn tb n p' ≠ 60 := fun e => hc ⟨7, by omega, by omega, e⟩
      have y62 : sgn tb n p' ≠ 62 := fun e => hc ⟨8, by omega, by omega, e⟩
      have y61 : sgn tb n p' ≠ 61 := fun e => hc ⟨9, by omega, by omega, e⟩
      have n60 : ¬ iI (sgn tb n p') = 60 := ne_i (b := 60) y60 (by omega) (by omega) (by omega) (by omega)
      have n62 : ¬ iI (sgn tb n p') = 62 := ne_i (b := 62) y62 (by omega) (by omega) (by omega) (by omega)
      have n61 : ¬ iI (sgn tb n p') = 61 := ne_i (b := 61) y61 (by omega) (by omega) (by omega) (by omega)
      obtain ⟨f1, f2, f3⟩ := FT_here (B := B1) 1 (p' : Int) hA1 (by omega) (by omega) (by omega) (by omega)
      have eA : f_X10_failHere 1 A1 = f_X10_failAt (iI 1) (iI (p' : Int)) A1 := by rw [fh_eq, hA1.2.2.2.2.1]; rfl
      rw [if_neg n60, if_neg n62, if_neg n61, if_neg n60, if_neg n62, if_neg n61, eA]
      refine ⟨_, _, rfl, g2.trans f2.D, g3.trans f3.D, Or.inr ⟨f1, ⟨c' + off, by omega, by rw [f2 15 (by decide)]; exact j6⟩, ?_⟩⟩
      rw [f_X12_readsCompared_J52, if_pos rfl, show hb2 (f_X12_wrongAt 1 (B1 74 13) B1) (fun x M => if x &&& 1 = x then some (x, M) else none) = _ from wr_some (k := 1) hB1.2.2.2.2, hb2_some, if_pos rfl]
      rfl
  · have dd := r1.dead
    rw [sign_dead dd, hb1_some, if_neg (by decide), if_neg (by decide), if_neg (by decide), fh_eq, fail_dead dd]
    exact ⟨A1, B1, rfl, g2, g3, Or.inr ⟨r1, r2, by rw [r3, hb2_some, if_pos rfl, hb2_some, if_pos rfl]⟩⟩

/-! reading THE LAW: what both sides do step by step -/
def ocD (A A' : HMem) : Prop := (∀ k, k ≠ 1 → k ≠ 15 → k ≠ 19 → k ≠ 20 → A' k = A k) ∧ ∀ j, j ≠ 6 → A' 15 j = A 15 j
def oBD (B B' : HMem) : Prop := (∀ k, k ≠ 74 → k ≠ 85 → k ≠ 86 → B' k = B k) ∧ ∀ j, j ≠ 13 → j ≠ 15 → j ≠ 16 → j ≠ 17 → j ≠ 18 → j ≠ 19 → B' 74 j = B 74 j
def KP (z c w : Nat) (A A' B B' : HMem) : Prop := (∀ q, q < z → A' 19 q = A 19 q ∧ A' 20 q = A 20 q) ∧ (∀ q, q < c → B' 85 q = B 85 q) ∧ ∀ q, q < w → B' 86 q = B 86 q
theorem ocD_rf (A : HMem) : ocD A A := ⟨fun _ _ _ _ _ => rfl, fun _ _ => rfl⟩
theorem oBD_rf (A : HMem) : oBD A A := ⟨fun _ _ _ _ => rfl, fun _ _ _ _ _ _ _ => rfl⟩
theorem ocD.trans {A A' A2 : HMem} (h : ocD A A') (h2 : ocD A' A2) : ocD A A2 := ⟨fun k a b c d => (h2.1 k a b c d).trans (h.1 k a b c d), fun j a => (h2.2 j a).trans (h.2 j a)⟩
theorem oBD.trans {A A' A2 : HMem} (h : oBD A A') (h2 : oBD A' A2) : oBD A A2 := ⟨fun k a b c => (h2.1 k a b c).trans (h.1 k a b c), fun j a b c d e f => (h2.2 j a b c d e f).trans (h.2 j a b c d e f)⟩
theorem KP.trans {z c w z' c' w' : Nat} {A A' A2 B B' B2 : HMem} (h : KP z c w A A' B B') (h2 : KP z' c' w' A' A2 B' B2) (hz : z ≤ z') (hc : c ≤ c') (hw : w ≤ w') : KP z c w A A2 B B2 :=
  ⟨fun q hq => ⟨(h2.1 q (by omega)).1.trans (h.1 q hq).1, (h2.1 q (by omega)).2.trans (h.1 q hq).2⟩, fun q hq => (h2.2.1 q (by omega)).trans (h.2.1 q hq), fun q hq => (h2.2.2 q (by omega)).trans (h.2.2 q hq)⟩
theorem KP_of {z c w : Nat} {A A' B B' : HMem} (h1 : A' 19 = A 19) (h2 : A' 20 = A 20) (h3 : B' 85 = B 85) (h4 : B' 86 = B 86) : KP z c w A A' B B' :=
  ⟨fun q _ => by rw [h1, h2]; exact ⟨rfl, rfl⟩, fun q _ => by rw [h3], fun q _ => by rw [h4]⟩
theorem oc1.D {A A' : HMem} (h : oc1 A A') : ocD A A' := ⟨fun k a _ _ _ => h k a, fun j _ => by rw [h 15 (by decide)]⟩
theorem oB.D {A A' : HMem} (h : oB A A') : oBD A A' := ⟨fun k a _ _ => h.1 k a, fun j a b c _ _ _ => h.2 j a b c⟩
theorem oBD_set (B : HMem) {j : Nat} (v : Int32) (h : j = 13 ∨ j = 15 ∨ j = 16 ∨ j = 17 ∨ j = 18 ∨ j = 19) : oBD B (hset B 74 j v) := ⟨fun k a _ _ => hset_nek _ _ _ a, fun i a b c d e f => hset_nej _ _ (by omega)⟩
theorem oBD_set2 (B : HMem) {k : Nat} (j : Nat) (v : Int32) (h : k = 85 ∨ k = 86) : oBD B (hset B k j v) := ⟨fun k' a b c => hset_nek _ _ _ (by omega), fun i a b c d e f => by rw [hset_nek _ _ _ (by omega)]⟩
def DD (A : HMem) : Prop := ∃ z : Nat, z ≤ 240 ∧ A 15 6 = iI (z : Int)
theorem add_ok {A : HMem} {z : Nat} (s v : Int32) (h : A 15 6 = iI (z : Int)) (hz : z < 240) : f_X5_add 15 s v A = some (iI (z : Int), hset (hset (hset A 19 z s) 20 z v) 15 6 (iI ((z + 1 : Nat) : Int))) := by
  have x1 : iI (z : Int) < 240 := lt_i (b := 240) (by omega) (by omega) (by omega)
  have e1 : hset A (15 + 4) z s 15 6 = iI (z : Int) := by rw [hset_nek _ _ _ (by decide)]; exact h
  have e2 : hset (hset A (15 + 4) z s) (15 + 5) z v 15 6 = iI (z : Int) := by rw [hset_nek _ _ _ (by decide)]; exact e1
  rw [f_X5_add, h, if_pos x1, hib_t (n := 240) (by omega) (by omega) (by omega), if_pos rfl, hb1_some, iI_natc (k := z) (by omega), e1, hib_t (n := 240) (by omega) (by omega) (by omega), if_pos rfl, hb1_some, iI_natc (k := z) (by omega), e2, hset_self, iI_s, iI_pr]
theorem add_dd {A : HMem} (s v : Int32) (h : DD A) : ∃ r A', f_X5_add 15 s v A = some (r, A') ∧ DD A' ∧ ocD A A' ∧ A' 1 = A 1 := by
  obtain ⟨z, h1, h2⟩ := h
  by_cases q : z < 240
  · refine ⟨_, _, add_ok s v h2 q, ⟨z + 1, by omega, hset_self _ _ _ _⟩, ⟨fun k a b c d => ?_, fun j hj => ?_⟩, ?_⟩
    · rw [hset_nek _ _ _ b, hset_nek _ _ _ d, hset_nek _ _ _ c]
    · rw [hset_nej _ _ hj, hset_nek _ _ _ (by decide), hset_nek _ _ _ (by decide)]
    · rw [hset_nek _ _ _ (by decide), hset_nek _ _ _ (by decide), hset_nek _ _ _ (by decide)]
  · have x1 : ¬ iI (z : Int) < 240 := nlt_i (b := 240) (by omega) (by omega) (by omega)
    exact ⟨-1, A, by rw [f_X5_add, h2, if_neg x1], ⟨z, h1, h2⟩, ocD_rf _, rfl⟩
theorem settle_L {N : Nat} : ∀ (k v : Nat) (j : Int32) (A : HMem), 241 ≤ v + k → 0 < k → v ≤ 240 → ∃ A', f_X5_settle_L4 N 15 k j (iI (v : Int)) A = some A' ∧ ∀ i, i ≠ 20 → A' i = A i := by
  intro k
  induction k with
  | zero => intro v j A _ h; exact absurd h (by decide)
  | succ k ih =>
    intro v j A hk _ hv
    rw [f_X5_settle_L4]
    by_cases q : v = 240
    · have x1 : (240 : Int32) ≤ iI (v : Int) := le_i (a := 240) (by omega) (by omega) (by omega)
      rw [if_pos x1]; exact ⟨A, rfl, fun _ _ => rfl⟩
    · have x1 : ¬ (240 : Int32) ≤ iI (v : Int) := nl_i (a := 240) (by omega) (by omega) (by omega)
      rw [if_neg x1]
      obtain ⟨z, z1, z2, rfl⟩ := iI_of j
      by_cases q1 : z < 0
      · have x2 : iI z < 0 := lt_i (b := 0) q1 (by omega) (by omega)
        rw [if_pos x2]; exact ⟨A, rfl, fun _ _ => rfl⟩
      · have x2 : ¬ iI z < 0 := nlt_i (b := 0) (by omega) (by omega) (by omega)
        rw [if_neg x2]
        by_cases q2 : 240 ≤ z
        · have x3 : (240 : Int32) ≤ iI z := le_i (a := 240) q2 (by omega) (by omega)
          rw [if_pos x3]; exact ⟨A, rfl, fun _ _ => rfl⟩
        · have x3 : ¬ (240 : Int32) ≤ iI z := nl_i (a := 240) (by omega) (by omega) (by omega)
          rw [if_neg x3, hib_t (n := 240) (by omega) (by omega) (by omega), if_pos rfl, if_pos rfl, iI_s]
          by_cases q3 : 0 < k
          · obtain ⟨A', g1, g2⟩ := ih (v + 1) (A (15 + 5) (Int32.toNatClampNeg (iI z))) (hset A (15 + 5) (Int32.toNatClampNeg (iI z)) (A 15 6)) (by omega) q3 (by omega)
            exact ⟨A', g1, fun i hi => by rw [g2 i hi, hset_nek _ _ _ hi]⟩
          · exfalso; omega
theorem settle_dd {N : Nat} (hN : 300 ≤ N) (j : Int32) (A : HMem) : ∃ A', f_X5_settle N 15 j A = some A' ∧ ∀ i, i ≠ 20 → A' i = A i := settle_L N 0 j A (by omega) (by omega) (by omega)
/-- dead: nothing is read any more -/
theorem isAt_dead {A : HMem} {c : Int} (h : ¬ A 1 4 = 0) (hc : 0 ≤ c) (hc2 : c < 300) : f_X10_isAt (iI c) A = some 0 := by
  rw [f_X10_isAt, sign_dead h, hb1_some, if_neg (by rw [qm1]; exact ne_i (by omega) (by omega) (by omega) (by omega) (by omega))]
def GD (N q tag : Nat) : Prop := ∀ (a : Int32) (A : HMem), ¬ A 1 4 = 0 → DD A → ∃ A', g_X6 N q tag a A = some A' ∧ dk A A' ∧ ocD A A' ∧ DD A'
theorem dk_of {A A' : HMem} (h : A' 1 = A 1) : dk A A' := ⟨by rw [h], by rw [h]⟩
theorem gd6 {N q : Nat} : GD N (q + 1) 6 := by
  intro a A h hd
  show ∃ A', f_X6_readFactor N (g_X6 N q) a A = some A' ∧ _
  obtain ⟨r, A', g1, g2, g3, g4⟩ := add_dd 1 0 hd
  refine ⟨A', ?_, dk_of g4, g3, g2⟩
  have e : f_X6_letterOf (-1) = -1 := by decide
  rw [f_X6_readFactor, show f_X10_isAt 91 A = some 0 from isAt_dead (c := 91) h (by omega) (by omega), hb1_some, if_pos rfl, sign_dead h, hb1_some, if_pos e, number_dead _ h, hb2_some, g1, hb2_some]
theorem gd5 {N q : Nat} (hN : 300 ≤ N) : GD N (q + 2) 5 := by
  intro a A h hd
  show ∃ A', f_X6_readTerm N (g_X6 N (q + 1)) a A = some A' ∧ _
  obtain ⟨A', g1, g2, g3, g4⟩ := gd6 (N := N) (q := q) a A h hd
  refine ⟨A', ?_, g2, g3, g4⟩
  have h2 := g2.dead h
  obtain ⟨k, rfl⟩ : ∃ k, N = k + 1 := ⟨N - 1, by omega⟩
  rw [f_X6_readTerm, g1, hb1_some, rT_eq, if_neg (by decide), o_ts, show f_X10_isAt 42 A' = some 0 from isAt_dead (c := 42) h2 (by omega) (by omega), hb1_some, if_pos rfl, show f_X10_isAt 47 A' = some 0 from isAt_dead (c := 47) h2 (by omega) (by omega), hb1_some, if_pos rfl, show f_X10_isAt 37 A' = some 0 from isAt_dead (c := 37) h2 (by omega) (by omega), hb1_some, if_pos rfl, hb1_some, if_pos rfl]
theorem gd4 {N q : Nat} (hN : 300 ≤ N) : GD N (q + 3) 4 := by
  intro a A h hd
  show ∃ A', f_X6_readSum N (g_X6 N (q + 2)) a A = some A' ∧ _
  obtain ⟨A', g1, g2, g3, g4⟩ := gd5 (N := N) (q := q) hN a A h hd
  refine ⟨A', ?_, g2, g3, g4⟩
  have h2 := g2.dead h
  obtain ⟨k, rfl⟩ : ∃ k, N = k + 1 := ⟨N - 1, by omega⟩
  rw [f_X6_readSum, g1, hb1_some, rS_eq, if_neg (by decide), show f_X10_isAt 43 A' = some 0 from isAt_dead (c := 43) h2 (by omega) (by omega), hb1_some, if_pos rfl, show f_X10_isAt 45 A' = some 0 from isAt_dead (c := 45) h2 (by omega) (by omega), hb1_some, if_pos rfl]
theorem gd3 {N q : Nat} (hN : 300 ≤ N) : GD N (q + 4) 3 := by
  intro a A h hd
  show ∃ A', f_X6_readComparison N (g_X6 N (q + 3)) a A = some A' ∧ _
  obtain ⟨A', g1, g2, g3, g4⟩ := gd4 (N := N) (q := q) hN a A h hd
  refine ⟨A', ?_, g2, g3, g4⟩
  have h2 := g2.dead h
  rw [f_X6_readComparison, g1, hb1_some, sign_dead h2, hb1_some, if_neg (by decide), if_neg (by decide), if_neg (by decide), fh_eq, fail_dead h2]
theorem gd2 {N q : Nat} (hN : 300 ≤ N) : GD N (q + 5) 2 := by
  intro a A h hd
  show ∃ A', f_X6_readTest N (g_X6 N (q + 4)) a A = some A' ∧ _
  obtain ⟨A', g1, g2, g3, g4⟩ := gd3 (N := N) (q := q) hN a A h hd
  refine ⟨A', ?_, g2, g3, g4⟩
  rw [f_X6_readTest, show f_X10_isAt 33 A = some 0 from isAt_dead (c := 33) h (by omega) (by omega), hb1_some, if_pos rfl, show f_X10_isAt 40 A = some 0 from isAt_dead (c := 40) h (by omega) (by omega), hb1_some, if_pos rfl, g1, hb1_some]
theorem ocD_20 {A A' : HMem} (h : ∀ i, i ≠ 20 → A' i = A i) : ocD A A' ∧ dk A A' ∧ (DD A → DD A') := ⟨⟨fun k _ _ _ d => h k d, fun j _ => by rw [h 15 (by decide)]⟩, dk_of (h 1 (by decide)), fun ⟨z, a, b⟩ => ⟨z, a, by rw [h 15 (by decide)]; exact b⟩⟩
theorem part_dead {N k : Nat} (hN : 300 ≤ N) (cb : Nat → Int32 → HMem → Option HMem) (a j : Int32) (v : Int32) {A : HMem} (h : ¬ A 1 4 = 0) (hd : DD A) : ∃ A', f_X6_readPart_L9 N cb a (k + 1) j v A = some A' ∧ dk A A' ∧ ocD A A' ∧ DD A' := by
  obtain ⟨A', g1, g2⟩ := settle_dd (N := N) hN j A
  obtain ⟨o1, o2, o3⟩ := ocD_20 g2
  refine ⟨A', ?_, o2, o1, o3 hd⟩
  rw [f_X6_readPart_L9, show f_X10_isAt 38 A = some 0 from isAt_dead (c := 38) h (by omega) (by omega), hb1_some, if_pos rfl, g1, hb1_some, ite_self]
theorem choice_dead {N k : Nat} (hN : 300 ≤ N) (cb : Nat → Int32 → HMem → Option HMem) (a j : Int32) (v : Int32) {A : HMem} (h : ¬ A 1 4 = 0) (hd : DD A) : ∃ A', f_X6_readChoice_L9 N cb a (k + 1) j v A = some A' ∧ dk A A' ∧ ocD A A' ∧ DD A' := by
  obtain ⟨A', g1, g2⟩ := settle_dd (N := N) hN j A
  obtain ⟨o1, o2, o3⟩ := ocD_20 g2
  refine ⟨A', ?_, o2, o1, o3 hd⟩
  rw [f_X6_readChoice_L9, show f_X10_isAt 124 A = some 0 from isAt_dead (c := 124) h (by omega) (by omega), hb1_some, if_pos rfl, g1, hb1_some, ite_self]
theorem gd1 {N q : Nat} (hN : 300 ≤ N) : GD N (q + 6) 1 := by
  intro a A h hd
  show ∃ A', f_X6_readPart N (g_X6 N (q + 5)) a A = some A' ∧ _
  obtain ⟨A', g1, g2, g3, g4⟩ := gd2 (N := N) (q := q) hN a A h hd
  obtain ⟨k, hk⟩ : ∃ k, N = k + 1 := ⟨N - 1, by omega⟩
  obtain ⟨A2, e1, e2, e3, e4⟩ := part_dead (k := k) hN (g_X6 N (q + 5)) a (-1) 0 (g2.dead h) g4
  refine ⟨A2, ?_, g2.trans e2, g3.trans e3, e4⟩
  rw [f_X6_readPart, g1, hb1_some, ← e1, ← hk]
theorem gd0 {N q : Nat} (hN : 300 ≤ N) : GD N (q + 7) 0 := by
  intro a A h hd
  show ∃ A', f_X6_readChoice N (g_X6 N (q + 6)) a A = some A' ∧ _
  obtain ⟨A', g1, g2, g3, g4⟩ := gd1 (N := N) (q := q) hN a A h hd
  obtain ⟨k, hk⟩ : ∃ k, N = k + 1 := ⟨N - 1, by omega⟩
  obtain ⟨A2, e1, e2, e3, e4⟩ := choice_dead (k := k) hN (g_X6 N (q + 6)) a (-1) 0 (g2.dead h) g4
  refine ⟨A2, ?_, g2.trans e2, g3.trans e3, e4⟩
  rw [f_X6_readChoice, g1, hb1_some, ← e1, ← hk]
/-- the reference's codes and what waits -/
theorem notes_ok {B : HMem} {c o v : Nat} (h : B 74 18 = iI (c : Int)) (hc : c < 260) : f_X12_notes (iI (o : Int)) (iI (v : Int)) B = some (hset (hset B 85 c (iI ((1048576 * o + v : Nat) : Int))) 74 18 (iI ((c + 1 : Nat) : Int))) := by
  have e : (1048576 : Int32) * iI (o : Int) + iI (v : Int) = iI ((1048576 * o + v : Nat) : Int) := by
    rw [show (1048576 : Int32) = iI 1048576 from rfl, iI_mul, iI_add]
    congr 1
  rw [f_X12_notes, h, hib_t (n := 260) (by omega) (by omega) (by omega), if_pos rfl, hb1_some, iI_natc (k := c) (by omega), hset_nek _ _ _ (by decide), h, iI_s, e]
theorem waitTop_0 {B : HMem} (h : B 74 19 = iI ((0 : Nat) : Int)) : f_X12_waitTop B = some (iI (-1)) := by
  rw [f_X12_waitTop, h]; rfl
theorem waitTop_ok {B : HMem} {w o v : Nat} (h : B 74 19 = iI ((w + 1 : Nat) : Int)) (hw : w < 260) (ho : o ≤ 20) (hv : v < 1048576) (e : B 86 w = iI ((1048576 * o + v : Nat) : Int)) : f_X12_waitTop B = some (iI (o : Int)) := by
  have x : ¬ iI ((w + 1 : Nat) : Int) = 0 := ne_i (b := 0) (by omega) (by omega) (by omega) (by omega) (by omega)
  rw [f_X12_waitTop, h, if_neg x, iI_pr, hib_t (n := 260) (by omega) (by omega) (by omega), if_pos rfl, iI_natc (k := w) (by omega), e, (cd_op ho hv).1]
/-- what is on top isn't one of lo .. 6 -/
def TN (B : HMem) (wn lo : Nat) : Prop := wn = 0 ∨ ∃ o v, o ≤ 20 ∧ v < 1048576 ∧ B 86 (wn - 1) = iI ((1048576 * o + v : Nat) : Int) ∧ ¬ (lo ≤ o ∧ o ≤ 6)
theorem TN.cg {B B' : HMem} {wn lo : Nat} (h : TN B wn lo) (e : ∀ q, q < wn → B' 86 q = B 86 q) : TN B' wn lo := by
  rcases h with h | ⟨o, v, h1, h2, h3, h4⟩
  · exact Or.inl h
  · by_cases z : wn = 0
    · exact Or.inl z
    · exact Or.inr ⟨o, v, h1, h2, by rw [e _ (by omega)]; exact h3, h4⟩
theorem TN.top {B : HMem} {wn lo : Nat} (h : TN B wn lo) (hw : B 74 19 = iI (wn : Int)) (h2 : wn ≤ 260) : ∃ z : Int, -1 ≤ z ∧ z ≤ 20 ∧ f_X12_waitTop B = some (iI z) ∧ ¬ ((lo : Int) ≤ z ∧ z ≤ 6) := by
  by_cases z : wn = 0
  · subst z
    exact ⟨-1, by omega, by omega, waitTop_0 hw, by omega⟩
  · rcases h with h | ⟨o, v, h1, h5, h3, h4⟩
    · exact absurd h z
    · obtain ⟨w, rfl⟩ : ∃ w, wn = w + 1 := ⟨wn - 1, by omega⟩
      exact ⟨o, by omega, by omega, waitTop_ok hw (by omega) h1 h5 h3, by omega⟩
/-- operations that wait, the first to be written first -/
def PDr (B : HMem) (wn : Nat) : List Nat → Prop
  | [] => True
  | o :: r => B 86 (wn + r.length) = iI ((1048576 * o + 0 : Nat) : Int) ∧ PDr B wn r
def VC (rc : Nat → Int32) (c : Nat) : List Nat → Nat → Int32
  | [] => rc
  | o :: r => VC (upd rc c (iI ((1048576 * o + 0 : Nat) : Int))) (c + 1) r
theorem VC_lt : ∀ (ql : List Nat) (rc : Nat → Int32) (c q : Nat), q < c → VC rc c ql q = rc q
  | [], _, _, _, _ => rfl
  | o :: r, rc, c, q, h => by rw [VC, VC_lt r _ (c + 1) q (by omega), upd_ne _ _ (by omega)]
theorem PDr.cg {B B' : HMem} {wn : Nat} (e : B' 86 = B 86) : ∀ {ql : List Nat}, PDr B wn ql → PDr B' wn ql
  | [], _ => trivial
  | o :: r, h => ⟨by rw [e]; exact h.1, PDr.cg e h.2⟩
theorem flush_L {N wn lo : Nat} {v1 : Int32} (hv : (v1 = 0 ∧ lo = 4) ∨ (v1 = 1 ∧ lo = 2)) : ∀ (ql : List Nat) (k c : Nat) (B : HMem), (∀ o, o ∈ ql → lo ≤ o ∧ o ≤ 6) → B 74 18 = iI (c : Int) → B 74 19 = iI ((wn + ql.length : Nat) : Int) → PDr B wn ql → TN B wn lo → ql.length < k → c + ql.length ≤ 260 → wn + ql.length ≤ 260 → ∃ B', f_X12_closesSums_L0 N v1 k B = some B' ∧ B' 74 18 = iI ((c + ql.length : Nat) : Int) ∧ B' 74 19 = iI (wn : Int) ∧ B' 85 = VC (B 85) c ql ∧ (∀ i, i ≠ 74 → i ≠ 85 → B' i = B i) ∧ ∀ j, j ≠ 18 → j ≠ 19 → B' 74 j = B 74 j
  | [], k, c, B, _, h18, h19, _, hT, hk, hc, hw => by
    obtain ⟨k, rfl⟩ : ∃ q, k = q + 1 := ⟨k - 1, by simp at hk; omega⟩
    obtain ⟨z, z1, z2, z3, z4⟩ := hT.top h19 (by simpa using hw)
    refine ⟨B, ?_, h18, h19, rfl, fun _ _ _ => rfl, fun _ _ _ => rfl⟩
    rw [f_X12_closesSums_L0, z3, hb1_some, hb1_some]
    have j17 : f_X12_closesSums_J17 N (f_X12_closesSums_L0 N v1 k) v1 B = some B := by
      rw [f_X12_closesSums_J17]
      rcases hv with ⟨rfl, rfl⟩ | ⟨rfl, rfl⟩
      · rw [if_pos rfl]
      · have n2 : ¬ iI z = 2 := ne_i (b := 2) (by omega) (by omega) (by omega) (by omega) (by omega)
        have n3 : ¬ iI z = 3 := ne_i (b := 3) (by omega) (by omega) (by omega) (by omega) (by omega)
        rw [if_neg i10, z3, hb1_some, if_neg n2, hb1_some, if_neg n3]
    rw [j17]
    by_cases q : z < 4
    · have x : iI z < 4 := lt_i (b := 4) q (by omega) (by omega)
      rw [if_pos x]
    · have x : ¬ iI z < 4 := nlt_i (b := 4) (by omega) (by omega) (by omega)
      have y : ¬ iI z ≤ 6 := nl_i (b := 6) (by omega) (by omega) (by omega)
      rw [if_neg x, if_neg y]
  | o :: r, k, c, B, ho, h18, h19, hp, hT, hk, hc, hw => by
    simp only [List.length_cons] at h19 hk hc hw ⊢
    obtain ⟨k, rfl⟩ : ∃ q, k = q + 1 := ⟨k - 1, by omega⟩
    obtain ⟨o1, o2⟩ := ho o List.mem_cons_self
    have wt := waitTop_ok (v := 0) (show B 74 19 = iI ((wn + r.length + 1 : Nat) : Int) from h19) (by omega) (by omega) (by omega) hp.1
    obtain ⟨B1, hB1⟩ : ∃ B1, B1 = hset (hset (hset B 85 c (iI ((1048576 * o + 0 : Nat) : Int))) 74 18 (iI ((c + 1 : Nat) : Int))) 74 19 (iI ((wn + r.length : Nat) : Int)) := ⟨_, rfl⟩
    have b86 : B1 86 = B 86 := by rw [hB1, hset_nek _ _ _ (by decide), hset_nek _ _ _ (by decide), hset_nek _ _ _ (by decide)]
    have j37 : f_X12_closesSums_J37 N (f_X12_closesSums_L0 N v1 k) v1 B = f_X12_closesSums_L0 N v1 k B1 := by
      rw [f_X12_closesSums_J37, wt, hb1_some, show (0 : Int32) = iI ((0 : Nat) : Int) from rfl, notes_ok h18 (by omega), hb1_some, hset_nej _ _ (by decide), hset_nek _ _ _ (by decide), h19, show wn + (r.length + 1) = wn + r.length + 1 from rfl, iI_pr, hB1]
    have jj : f_X12_closesSums_L0 N v1 (k + 1) B = f_X12_closesSums_L0 N v1 k B1 := by
      rw [f_X12_closesSums_L0, wt, hb1_some, hb1_some, j37]
      have y : iI (o : Int) ≤ 6 := le_i (b := 6) (by omega) (by omega) (by omega)
      rw [if_pos y]
      by_cases q : o < 4
      · have x : iI (o : Int) < 4 := lt_i (b := 4) (by omega) (by omega) (by omega)
        rw [if_pos x, f_X12_closesSums_J17]
        rcases hv with ⟨rfl, rfl⟩ | ⟨rfl, rfl⟩
        · omega
        · rw [if_neg i10, wt, hb1_some, hb1_some, j37]
          rcases (show o = 2 ∨ o = 3 by omega) with rfl | rfl
          · rw [if_pos (by rfl)]
          · rw [if_neg (by decide), if_pos (by rfl)]
      · have x : ¬ iI (o : Int) < 4 := nlt_i (b := 4) (by omega) (by omega) (by omega)
        rw [if_neg x]
    obtain ⟨B', g1, g2, g3, g4, g5, g6⟩ := flush_L hv r k (c + 1) B1 (fun o' h' => ho o' (List.mem_cons_of_mem _ h')) (by rw [hB1, hset_nej _ _ (by decide), hset_self]) (by rw [hB1, hset_self]) (hp.2.cg b86) (hT.cg (fun q _ => by rw [b86])) (by omega) (by omega) (by omega)
    refine ⟨B', by rw [jj]; exact g1, by rw [g2]; congr 2; omega, g3, ?_, fun i a b => ?_, fun j a b => ?_⟩
    · rw [g4, VC, hB1, hset_nek _ _ _ (by decide), hset_nek _ _ _ (by decide), hset, hput_self]
    · rw [g5 i a b, hB1, hset_nek _ _ _ a, hset_nek _ _ _ a, hset_nek _ _ _ b]
    · rw [g6 j a b, hB1, hset_nej _ _ b, hset_nej _ _ a, hset_nek _ _ _ (by decide)]
theorem open_1 {N : Nat} {B : HMem} {e w : Nat} (hw : B 74 19 = iI (w : Int)) (he : e < w) (h2 : w ≤ 260) (h : B 86 e = iI ((1048576 * 14 + 0 : Nat) : Int)) : ∀ (k v : Nat), v ≤ e → e - v < k → f_X12_hasOpenSum_L2 N B k (iI (v : Int)) = some 1 := by
  intro k
  induction k with
  | zero => intro v _ h; omega
  | succ k ih =>
    intro v hv hk
    have x : ¬ iI (w : Int) ≤ iI (v : Int) := nl_i (by omega) (by omega) (by omega)
    rw [f_X12_hasOpenSum_L2, hw, if_neg x, hib_t (n := 260) (by omega) (by omega) (by omega), if_pos rfl, iI_natc (k := v) (by omega)]
    by_cases q : v = e
    · subst q
      rw [h, (cd_op (o := 14) (v := 0) (by omega) (by omega)).1, if_pos (by rfl)]
    · rw [iI_s, ih (v + 1) (by omega) (by omega), ite_self]
theorem open_0 {N : Nat} {B : HMem} {w : Nat} (hw : B 74 19 = iI (w : Int)) (h2 : w ≤ 260) : ∀ (k v : Nat), v ≤ w → w - v < k → (∀ e, v ≤ e → e < w → ∃ o, o ≤ 6 ∧ B 86 e = iI ((1048576 * o + 0 : Nat) : Int)) → f_X12_hasOpenSum_L2 N B k (iI (v : Int)) = some 0 := by
  intro k
  induction k with
  | zero => intro v _ h; omega
  | succ k ih =>
    intro v hv hk h
    by_cases q : v = w
    · have x : iI (w : Int) ≤ iI (v : Int) := le_i (by omega) (by omega) (by omega)
      rw [f_X12_hasOpenSum_L2, hw, if_pos x]
    · have x : ¬ iI (w : Int) ≤ iI (v : Int) := nl_i (by omega) (by omega) (by omega)
      obtain ⟨o, o1, o2⟩ := h v (by omega) (by omega)
      have y : ¬ iI (o : Int) = 14 := ne_i (b := 14) (by omega) (by omega) (by omega) (by omega) (by omega)
      rw [f_X12_hasOpenSum_L2, hw, if_neg x, hib_t (n := 260) (by omega) (by omega) (by omega), if_pos rfl, iI_natc (k := v) (by omega), o2, (cd_op (o := o) (v := 0) (by omega) (by omega)).1, if_neg y, iI_s, ih (v + 1) (by omega) (by omega) (fun e a b => h e (by omega) b)]
theorem PDr.all {B : HMem} {wn : Nat} : ∀ {ql : List Nat}, PDr B wn ql → (∀ o, o ∈ ql → o ≤ 6) → ∀ e, wn ≤ e → e < wn + ql.length → ∃ o, o ≤ 6 ∧ B 86 e = iI ((1048576 * o + 0 : Nat) : Int)
  | [], _, _, e, h1, h2 => by simp at h2; omega
  | o :: r, h, ho, e, h1, h2 => by
    simp only [List.length_cons] at h2
    by_cases q : e = wn + r.length
    · subst q; exact ⟨o, ho o List.mem_cons_self, h.1⟩
    · exact PDr.all h.2 (fun o' h' => ho o' (List.mem_cons_of_mem _ h')) e h1 (by omega)

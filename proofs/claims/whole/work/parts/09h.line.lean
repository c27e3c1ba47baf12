/-! a LINE is laid -/
def nb5 (p s : Nat) : Nat := if s = 4 then p else nbr p s
theorem nb5_all : ∀ p : Fin 192, ∀ s : Fin 5, f_X12_beside (iI ((p : Nat) : Int)) (iI ((s : Nat) : Int)) = iI ((nb5 p s : Nat) : Int) ∧ ((f_X11_beside (iI ((p : Nat) : Int)) (iI ((((s : Nat) + 1) % 5 : Nat) : Int)) = -1 ∧ nb5 p s = p) ∨ f_X11_beside (iI ((p : Nat) : Int)) (iI ((((s : Nat) + 1) % 5 : Nat) : Int)) = iI ((nb5 p s : Nat) : Int)) ∧ nb5 p s < 192 := by decide +kernel
def pq (p0 : Nat) (s : Nat → Nat) : Nat → Nat
  | 0 => p0
  | k + 1 => nb5 (pq p0 s k) (s k)
theorem pq_b {p0 : Nat} {s : Nat → Nat} (h0 : p0 < 192) : ∀ (k : Nat), (∀ j, j < k → s j ≤ 4) → pq p0 s k < 192
  | 0, _ => h0
  | k + 1, h => (nb5_all ⟨pq p0 s k, pq_b h0 k (fun j hj => h j (by omega))⟩ ⟨s k, by have := h k (by omega); omega⟩).2.2
theorem lay_L {A : HMem} {N o m p0 : Nat} {s : Nat → Nat} (ho : 50 ≤ o) (hm : m ≤ 96) (h0 : p0 < 192) (hs : ∀ j, j < m → s j ≤ 4 ∧ A 9 j = iI ((s j + 1) % 5 : Nat)) (h4 : A o 4 = iI m) : ∀ (k i : Nat) (gs gp : Nat → Int32), i ≤ m → m - i < k → (∀ j, j < i → gs j = iI ((s j + 1) % 5 : Nat)) → (∀ j, j ≤ i → gp j = iI (pq p0 s j : Nat)) → ∃ gs' gp', (∀ j, j < m → gs' j = iI ((s j + 1) % 5 : Nat)) ∧ (∀ j, j ≤ m → gp' j = iI (pq p0 s j : Nat)) ∧ f_X1_lay_L39 N o k (iI (pq p0 s i : Nat)) (iI i) (hput (hput A (o + 1) gs) (o + 2) gp) = some (hput (hput A (o + 1) gs') (o + 2) gp') := by
  intro k
  induction k with
  | zero => intro i _ _ _ h; exfalso; omega
  | succ k ih =>
    intro i gs gp hi hk h1 h2
    rw [f_X1_lay_L39, hput_ne _ _ (show o ≠ o + 2 by omega), hput_ne _ _ (show o ≠ o + 1 by omega), h4]
    by_cases e : i = m
    · subst e
      rw [if_pos (le_i (by omega) (by omega) (by omega))]
      exact ⟨gs, gp, h1, h2, rfl⟩
    · obtain ⟨s4, a9⟩ := hs i (by omega)
      have hp := pq_b (s := s) h0 i (fun j hj => (hs j (by omega)).1)
      obtain ⟨-, b1, b2⟩ := nb5_all ⟨pq p0 s i, hp⟩ ⟨s i, by omega⟩
      dsimp only at b1 b2
      have hib1 : hib (iI (i : Int)) 96 = true := hib_t (by omega) (by omega) (by omega)
      have hib2 : hib (iI ((i + 1 : Nat) : Int)) 97 = true := hib_t (by omega) (by omega) (by omega)
      have e1 : ∀ u, hset (hput (hput A (o + 1) gs) (o + 2) gp) (o + 1) i u = hput (hput A (o + 1) (upd gs i u)) (o + 2) gp := fun u => by rw [hset_put_ne _ _ _ _ (by omega), hset_put]
      have e9 : hput (hput A (o + 1) gs) (o + 2) gp 9 i = iI ((s i + 1) % 5 : Nat) := by rw [hput_ne _ _ (by omega), hput_ne _ _ (by omega)]; exact a9
      rw [if_neg (nl_i (by omega) (by omega) (by omega)), hib1, if_pos rfl, if_pos rfl, iI_natc (k := i) (by omega), e9, e1, hb1_some, if_pos rfl, hput_ne _ _ (show o + 1 ≠ o + 2 by omega), hput_self, upd_self, iI_s, hib2, if_pos rfl, if_pos rfl, iI_natc (by omega), hset_put, hset_put]
      have n1 : ∀ j, j < i + 1 → upd gs i (iI ((s i + 1) % 5 : Nat)) j = iI ((s j + 1) % 5 : Nat) := fun j hj => by
        by_cases q : j = i
        · rw [q, upd_self]
        · rw [upd_ne _ _ q]; exact h1 j (by omega)
      have n2 : ∀ j, j ≤ i + 1 → upd gp (i + 1) (iI (pq p0 s (i + 1) : Nat)) j = iI (pq p0 s j : Nat) := fun j hj => by
        by_cases q : j = i + 1
        · rw [q, upd_self]
        · rw [upd_ne _ _ q]; exact h2 j (by omega)
      have en : pq p0 s (i + 1) = nb5 (pq p0 s i) (s i) := rfl
      by_cases q : f_X11_beside (iI ((pq p0 s i : Nat) : Int)) (iI (((s i + 1) % 5 : Nat) : Int)) = -1
      · rw [if_pos q]
        have es : nb5 (pq p0 s i) (s i) = pq p0 s i := by
          rcases b1 with b1 | b1
          · exact b1.2
          · rw [q] at b1; exact absurd b1.symm (n1i (by omega) (by omega))
        have := ih (i + 1) _ _ (by omega) (by omega) n1 n2
        rw [en, es] at this
        exact this
      · rw [if_neg q]
        rcases b1 with b1 | b1
        · exact absurd b1.1 q
        · rw [b1]
          exact ih (i + 1) _ _ (by omega) (by omega) n1 n2
theorem layR_L {B : HMem} {N c m p0 : Nat} {s : Nat → Nat} (hc : c < 8) (hm : m ≤ 96) (h0 : p0 < 192) (hs : ∀ j, j < m → s j ≤ 4 ∧ B 98 j = iI (s j)) (h4 : B 74 39 = iI m) : ∀ (k i : Nat) (gs gp : Nat → Int32), i ≤ m → m - i < k → (∀ j, j < i → gs (96 * c + j) = iI (s j)) → (∀ j, j ≤ i → gp (97 * c + j) = iI (pq p0 s j : Nat)) → (∀ j, (j < 96 * c ∨ 96 * c + 96 ≤ j) → gs j = B 80 j) → (∀ j, (j < 97 * c ∨ 97 * c + 97 ≤ j) → gp j = B 81 j) → ∃ gs' gp', (∀ j, j < m → gs' (96 * c + j) = iI (s j)) ∧ (∀ j, j ≤ m → gp' (97 * c + j) = iI (pq p0 s j : Nat)) ∧ (∀ j, (j < 96 * c ∨ 96 * c + 96 ≤ j) → gs' j = B 80 j) ∧ (∀ j, (j < 97 * c ∨ 97 * c + 97 ≤ j) → gp' j = B 81 j) ∧ f_X12_line_L157 N (iI c) k (iI i) (hput (hput B 80 gs) 81 gp) = some (iI m, hput (hput B 80 gs') 81 gp') := by
  intro k
  induction k with
  | zero => intro i _ _ _ h; exfalso; omega
  | succ k ih =>
    intro i gs gp hi hk h1 h2 h3 h5
    rw [f_X12_line_L157, hput_ne _ _ (show 74 ≠ 81 by decide), hput_ne _ _ (show 74 ≠ 80 by decide), h4]
    by_cases e : i = m
    · subst e
      rw [if_pos (le_i (by omega) (by omega) (by omega))]
      exact ⟨gs, gp, h1, h2, h3, h5, rfl⟩
    · obtain ⟨s4, a9⟩ := hs i (by omega)
      have hp := pq_b (s := s) h0 i (fun j hj => (hs j (by omega)).1)
      obtain ⟨b1, -, b2⟩ := nb5_all ⟨pq p0 s i, hp⟩ ⟨s i, by omega⟩
      dsimp only at b1 b2
      have x1 : (97 : Int32) * iI c + iI i = iI ((97 * c + i : Nat) : Int) := by rw [q97, iI_mul, iI_add]; congr 1
      have x2 : (96 : Int32) * iI c + iI i = iI ((96 * c + i : Nat) : Int) := by rw [q96, iI_mul, iI_add]; congr 1
      have x3 : iI ((97 * c + i : Nat) : Int) + 1 = iI ((97 * c + (i + 1) : Nat) : Int) := by rw [iI_s]; rfl
      have y1 : hib (iI (i : Int)) 96 = true := hib_t (by omega) (by omega) (by omega)
      have y2 : hib (iI ((96 * c + i : Nat) : Int)) 768 = true := hib_t (by omega) (by omega) (by omega)
      have y3 : hib (iI ((97 * c + i : Nat) : Int)) 776 = true := hib_t (by omega) (by omega) (by omega)
      have y4 : hib (iI ((97 * c + (i + 1) : Nat) : Int)) 776 = true := hib_t (by omega) (by omega) (by omega)
      have e98 : ∀ g, hput (hput B 80 g) 81 gp 98 i = iI (s i) := fun g => by rw [hput_ne _ _ (by decide), hput_ne _ _ (by decide)]; exact a9
      have e1 : ∀ u, hset (hput (hput B 80 gs) 81 gp) 80 (96 * c + i) u = hput (hput B 80 (upd gs (96 * c + i) u)) 81 gp := fun u => by rw [hset_put_ne _ _ _ _ (by decide), hset_put]
      rw [if_neg (nl_i (by omega) (by omega) (by omega)), y1, if_pos rfl, x2, y2, if_pos rfl, x1, x3, iI_natc (k := i) (by omega), iI_natc (k := 96 * c + i) (by omega), e98, e1, hb1_some, y3, if_pos rfl, if_pos rfl, y4, if_pos rfl, iI_natc (k := 97 * c + i) (by omega), iI_natc (k := 97 * c + (i + 1)) (by omega), e98, hput_self, h2 i (by omega), b1, hset_put, iI_s]
      refine ih (i + 1) _ _ (by omega) (by omega) (fun j hj => ?_) (fun j hj => ?_) (fun j hj => ?_) (fun j hj => ?_)
      · by_cases q : j = i
        · rw [q, upd_self]
        · rw [upd_ne _ _ (by omega)]; exact h1 j (by omega)
      · by_cases q : j = i + 1
        · rw [q, upd_self]; rfl
        · rw [upd_ne _ _ (by omega)]; exact h2 j (by omega)
      · rw [upd_ne _ _ (by omega)]; exact h3 j hj
      · rw [upd_ne _ _ (by omega)]; exact h5 j hj
theorem line_run {M : HMem} {tb : Nat → Nat} {n N : Nat} {v1 v2 v3 v4 : Int32} (hN : 300 ≤ N) (h1 : 1 ≤ n) (hn : n ≤ 60) (hc : cT tb M) : ∀ Mb : HMem, rT tb Mb → ∃ A' B' : HMem, f_X7_read N (f_X10_open (iI n) M) = some A' ∧ ocN M A' ∧ (∀ k, k ≠ 74 → k ≠ 98 → k ≠ 99 → k ≠ 100 → k ≠ 101 → B' k = Mb k) ∧ (∀ j, j ≠ 13 → j ≠ 14 → j ≠ 15 → j ≠ 16 → j ≠ 18 → j ≠ 20 → j ≠ 39 → j ≠ 40 → j ≠ 41 → j ≠ 42 → B' 74 j = Mb 74 j) ∧ ((∃ m', 1 ≤ m' ∧ A' 1 4 = 0 ∧ SR A' B' m' ∧ hb2 (f_X12_readsStep N (hset (hset (f_X12_beginsText (iI n) Mb) 74 39 0) 74 40 0)) (fun x102 M103 => f_X12_line_L74 N v1 v2 v3 v4 N x102 M103) = f_X12_line_J106 N v1 v2 v3 v4 1 B') ∨ (FT A' B' ∧ hb2 (f_X12_readsStep N (hset (hset (f_X12_beginsText (iI n) Mb) 74 39 0) 74 40 0)) (fun x102 M103 => f_X12_line_L74 N v1 v2 v3 v4 N x102 M103) = f_X12_line_J106 N v1 v2 v3 v4 0 B')) := by
  intro Mb hr
  obtain ⟨o1, o2⟩ := open_CP hc n (by omega)
  have b1 := begin_RP hr n (by omega)
  obtain ⟨b2, b3⟩ := begin_o (iI n) Mb
  obtain ⟨B0, hB0⟩ : ∃ B0, B0 = hset (hset (f_X12_beginsText (iI n) Mb) 74 39 0) 74 40 0 := ⟨_, rfl⟩
  rw [← hB0]
  have k1 : ∀ k, k ≠ 74 → B0 k = Mb k := fun k a => by rw [hB0, hset_nek _ _ _ a, hset_nek _ _ _ a, b2 k a]
  have k2 : ∀ j, j ≠ 13 → j ≠ 14 → j ≠ 18 → j ≠ 20 → j ≠ 39 → j ≠ 40 → B0 74 j = Mb 74 j := fun j a b c d e f => by rw [hB0, hset_nej _ _ f, hset_nej _ _ e, b3 j a b c d]
  have hB : RP tb B0 n 0 := b1.cg (by rw [hB0, hset_nek _ _ _ (by decide), hset_nek _ _ _ (by decide)]) (by rw [hB0, hset_nej _ _ (by decide), hset_nej _ _ (by decide)]) (by rw [hB0, hset_nej _ _ (by decide), hset_nej _ _ (by decide)])
  obtain ⟨A0, hA0⟩ : ∃ A0, A0 = hset (f_X10_open (iI n) M) 8 2 0 := ⟨_, rfl⟩
  have hA : CP tb A0 n 0 := o1.cg (by rw [hA0, hset_nek _ _ _ (by decide)]) (by rw [hA0, hset_nek _ _ _ (by decide)])
  have hS : SR A0 B0 0 := ⟨by omega, by rw [hA0, hset_self]; rfl, by rw [hB0, hset_nej _ _ (by decide), hset_self]; rfl, fun j hj => absurd hj (by omega)⟩
  obtain ⟨A', B', g1, g2, g3, g4⟩ := P2_0 (tb := tb) (v1 := v1) (v2 := v2) (v3 := v3) (v4 := v4) hN hn 59 N N N 0 0 0 A0 B0 (by omega) (by omega) (by omega) (by omega) (by omega) hA hB hS (by rw [hB0, hset_self]; rfl)
  have oA : ocN M A' := fun k a b c => by rw [g2 k a b c, hA0, hset_nek _ _ _ b]; exact o2 k a
  have eR : f_X7_read N (f_X10_open (iI n) M) = some A' := by
    rw [f_X7_read, ← hA0, show g_X7 N 60 0 0 A0 = f_X7_readSteps N (g_X7 N 59) 0 A0 from rfl, f_X7_readSteps, if_pos rfl]
    have g1' : f_X7_readSteps_L13 N (g_X7 N 59) 0 (-1) N 0 A0 = some A' := g1
    rw [g1', hb1_some]
  have eS : hb2 (f_X12_readsStep N B0) (fun x102 M103 => f_X12_line_L74 N v1 v2 v3 v4 N x102 M103) = lS N v1 v2 v3 v4 N N B0 := rfl
  refine ⟨A', B', eR, oA, fun k a b c d e => by rw [g3.1 k a b c d e, k1 k a], fun j a a2 b c d d2 e f g h => by rw [g3.2.1 j a b c e f g h, k2 j a a2 d d2 e f], ?_⟩
  rw [eS]
  rcases g4 with ⟨p', m', k1', k2', i1, i2, i3, i4, i5, i6, i7, i8, i9, i10'⟩ | h
  · left
    refine ⟨m', by omega, i2.2.2.2.2.2, i4, ?_⟩
    have hp' := i2.2.2.1
    have hpn : p' = n := by
      have : sgn tb n p' = -1 := i9
      unfold sgn at this
      split at this
      · omega
      · omega
    obtain ⟨a, rfl⟩ : ∃ q', k1' = q' + 1 := ⟨k1' - 1, by omega⟩
    obtain ⟨b, rfl⟩ : ∃ q', k2' = q' + 1 := ⟨k2' - 1, by omega⟩
    have i9' : sgn tb n p' = -1 := i9
    rw [i10', lH, f_X12_readsStep_L196, here_ok i3, hb1_some, i9', if_neg (by decide), hb2_some, f_X12_line_L74, if_neg i10, i3.2.2.2.2, i3.2.2.2.1, hpn, if_neg (nlt_i (by omega) (by omega) (by omega)), i6, if_pos (by decide)]
  · exact Or.inr h

theorem nle6 {i : Nat} (h : i < 6) : ¬ ((6 : Int32) ≤ iI i) := by
  rw [q6, iI_le (by omega) (by omega) (by omega) (by omega)]; omega
theorem nle8 {i : Nat} (h : i < 8) : ¬ ((8 : Int32) ≤ iI i) := by
  rw [q8, iI_le (by omega) (by omega) (by omega) (by omega)]; omega
theorem iI_s (i : Nat) : iI (i : Int) + 1 = iI ((i + 1 : Nat) : Int) := by rw [q1, iI_add]; rfl
theorem orbit : ∀ i : Fin 8, ∀ w : Fin 256, (w : Nat) < 2 ^ (i : Nat) → (iI ((w : Nat) : Int) ||| ((1 : Int32) <<< (iI ((i : Nat) : Int) &&& 31))) = iI (((w : Nat) + 2 ^ (i : Nat) : Nat) : Int) := by decide +kernel
theorem orbitT : ∀ i : Fin 8, ∀ w : Fin 256, ∀ j : Fin 8, (w : Nat) < 2 ^ (i : Nat) → ((w : Nat) + 2 ^ (i : Nat)).testBit j = (decide ((j : Nat) = (i : Nat)) || (w : Nat).testBit j) := by decide +kernel
theorem bitsOf_L {o n : Nat} {M : HMem} {v : Int32} : ∀ (k i w : Nat), i ≤ 6 → w < 2 ^ i → 6 - i < k → ∃ w' : Nat, w' < 64 ∧ f_X8_bitsOf_L4 n o v M k (iI w) (iI i) = some (iI w') ∧ ∀ j, j < 6 → w'.testBit j = (if j < i then w.testBit j else decide (M (o + 4) j = v)) := by
  intro k
  induction k with
  | zero => intro i w _ _ h; omega
  | succ k ih =>
    intro i w hi hw hk
    rw [f_X8_bitsOf_L4]
    by_cases h6 : i = 6
    · subst h6
      refine ⟨w, hw, by rw [if_pos (by decide)], fun j hj => by rw [if_pos hj]⟩
    · have hp : w < 256 := Nat.lt_of_lt_of_le hw (Nat.le_trans (Nat.pow_le_pow_right (by omega) hi) (by decide))
      have h2 : 2 ^ i + 2 ^ i = 2 ^ (i + 1) := by rw [Nat.pow_succ]; omega
      rw [if_neg (nle6 (i := i) (by omega)), hib_t (by omega) (by omega) (by omega), if_pos rfl, iI_natc (by omega), iI_s i]
      by_cases hv : M (o + 4) i = v
      · rw [if_pos hv, orbit ⟨i, by omega⟩ ⟨w, hp⟩ hw]
        obtain ⟨w', a1, a2, a3⟩ := ih (i + 1) (w + 2 ^ i) (by omega) (by omega) (by omega)
        refine ⟨w', a1, a2, fun j hj => ?_⟩
        rw [a3 j hj]
        have := orbitT ⟨i, by omega⟩ ⟨w, hp⟩ ⟨j, by omega⟩ hw
        dsimp only at this
        rw [this]
        by_cases h1 : j < i
        · rw [if_pos (by omega), if_pos h1]; simp; omega
        · by_cases h3 : j = i
          · subst h3; simp [hv]
          · rw [if_neg (by omega), if_neg h1]
      · rw [if_neg hv]
        obtain ⟨w', a1, a2, a3⟩ := ih (i + 1) w (by omega) (by omega) (by omega)
        refine ⟨w', a1, a2, fun j hj => ?_⟩
        rw [a3 j hj]
        by_cases h1 : j < i
        · rw [if_pos (by omega), if_pos h1]
        · by_cases h3 : j = i
          · subst h3; simp [hv, Nat.testBit_lt_two_pow hw]
          · rw [if_neg (by omega), if_neg h1]
theorem bitsOf_eq {o n : Nat} (M : HMem) (v : Int32) (hn : 7 ≤ n) : ∃ w : Nat, w < 64 ∧ f_X8_bitsOf n o v M = some (iI w) ∧ ∀ j, j < 6 → w.testBit j = decide (M (o + 4) j = v) := by
  obtain ⟨w, a1, a2, a3⟩ := bitsOf_L (o := o) (n := n) (M := M) (v := v) n 0 0 (by omega) (by decide) (by omega)
  exact ⟨w, a1, a2, fun j hj => by rw [a3 j hj, if_neg (by omega)]⟩
theorem PR.st {o : Nat} {M : HMem} (h : PR o 75 M) {i : Nat} (hi : i < 6) {v : Int} (v1 : 0 ≤ v) (v2 : v ≤ 2) : (f_X12_isHound (iI i) M = some 0 ∧ ¬ M (o + 4) i = iI v) ∨ (f_X12_isHound (iI i) M = some 1 ∧ (M 75 (24 + i) = iI v ↔ M (o + 4) i = iI v)) := by
  rcases h.2.2 i hi with ⟨h1, h2⟩ | ⟨h1, -, -, -, ⟨q, b1, b2, b3, b4, -⟩⟩
  · refine Or.inl ⟨isHound_0 hi h1, ?_⟩
    rw [h2, show (3 : Int32) = iI 3 from rfl, iI_eq (by omega) (by omega) (by omega) (by omega)]; omega
  · exact Or.inr ⟨isHound_1 hi h1, by rw [b3, b4]⟩
theorem faring_L {o n : Nat} {M : HMem} {v : Int} (h : PR o 75 M) (v1 : 0 ≤ v) (v2 : v ≤ 2) : ∀ (k i : Nat) (b : Int32), i ≤ 6 → f_X12_faring_L4 n (iI v) M k b (iI i) = f_X8_bitsOf_L4 n o (iI v) M k b (iI i) := by
  intro k
  induction k with
  | zero => intro i b _; rw [f_X12_faring_L4, f_X8_bitsOf_L4]
  | succ k ih =>
    intro i b hi
    rw [f_X12_faring_L4, f_X8_bitsOf_L4]
    by_cases h6 : i = 6
    · subst h6; rw [if_pos (by decide), if_pos (by decide)]
    · rw [if_neg (nle6 (i := i) (by omega)), if_neg (nle6 (i := i) (by omega)), hib_t (by omega) (by omega) (by omega), if_pos rfl, iI_natc (by omega), iI_s i]
      rcases h.st (i := i) (by omega) v1 v2 with ⟨a1, a2⟩ | ⟨a1, a2⟩
      · rw [a1, hb1_some, if_pos rfl, if_neg a2, ih _ _ (by omega)]
      · rw [a1, hb1_some, if_neg i10, q24, iI_add, hib_t (by omega) (by omega) (by omega), if_pos rfl, iI_nat (by omega) (by omega), show ((24 : Int) + (i : Int)).toNat = 24 + i by omega, ih _ _ (by omega), ih _ _ (by omega)]
        by_cases hv : M (o + 4) i = iI v
        · rw [if_pos hv, if_pos (a2.mpr hv)]
        · rw [if_neg hv, if_neg (fun q => hv (a2.mp q))]
theorem faring_eq {o n : Nat} {M : HMem} {v : Int} (h : PR o 75 M) (v1 : 0 ≤ v) (v2 : v ≤ 2) : f_X12_faring n (iI v) M = f_X8_bitsOf n o (iI v) M := faring_L h v1 v2 n 0 0 (by omega)
theorem houndsAt_L {o n : Nat} {M : HMem} {p : Int32} (h : PR o 75 M) : ∀ (k i : Nat) (b : Int32), i ≤ 6 → f_X12_houndsAt_L4 n p M k b (iI i) = f_X8_houndsAt_L4 n o p M k b (iI i) := by
  intro k
  induction k with
  | zero => intro i b _; rw [f_X12_houndsAt_L4, f_X8_houndsAt_L4]
  | succ k ih =>
    intro i b hi
    rw [f_X12_houndsAt_L4, f_X8_houndsAt_L4]
    by_cases h6 : i = 6
    · subst h6; rw [if_pos (by decide), if_pos (by decide)]
    · rw [if_neg (nle6 (i := i) (by omega)), if_neg (nle6 (i := i) (by omega)), hib_t (by omega) (by omega) (by omega), if_pos rfl, if_pos rfl, iI_natc (by omega), iI_s i]
      rcases h.2.2 i (by omega) with ⟨h1, h2⟩ | ⟨h1, ⟨p0, p1, p2, p3, p4⟩, -, -, ⟨q, b1, b2, b3, b4, -⟩⟩
      · rw [isHound_0 (by omega) h1, hb1_some, if_pos rfl, if_pos h2, ih _ _ (by omega)]
      · have h3 : ¬ M (o + 4) i = 3 := by rw [b3, show (3 : Int32) = iI 3 from rfl, iI_eq (by omega) (by omega) (by omega) (by omega)]; omega
        rw [isHound_1 (by omega) h1, hb1_some, if_neg i10, if_neg h3, q6, iI_add, hib_t (by omega) (by omega) (by omega), if_pos rfl, iI_nat (by omega) (by omega), show ((6 : Int) + (i : Int)).toNat = 6 + i by omega, ih _ _ (by omega), ih _ _ (by omega), p3, p4]
theorem houndsAt_eq {o n : Nat} {M : HMem} {p : Int32} (h : PR o 75 M) : f_X12_houndsAt n p M = f_X8_houndsAt n o p M := houndsAt_L h n 0 0 (by omega)
theorem houndsAt_LS {o n : Nat} {M : HMem} {p : Int32} : ∀ (k i w : Nat), i ≤ 6 → w ≤ i → 6 - i < k → ∃ w', w' ≤ 6 ∧ f_X8_houndsAt_L4 n o p M k (iI w) (iI i) = some (iI (w' : Nat)) := by
  intro k
  induction k with
  | zero => intro i w _ _ h; omega
  | succ k ih =>
    intro i w hi hw hk
    rw [f_X8_houndsAt_L4]
    by_cases h6 : i = 6
    · subst h6; exact ⟨w, hw, by rw [if_pos (by decide)]⟩
    · rw [if_neg (nle6 (i := i) (by omega)), hib_t (by omega) (by omega) (by omega), if_pos rfl, if_pos rfl, iI_natc (by omega), iI_s i, iI_s w]
      split
      · exact ih (i + 1) w (by omega) (by omega) (by omega)
      · split
        · exact ih (i + 1) (w + 1) (by omega) (by omega) (by omega)
        · exact ih (i + 1) w (by omega) (by omega) (by omega)
theorem houndsAt_some {o n : Nat} (M : HMem) (p : Int32) (hn : 7 ≤ n) : ∃ w', w' ≤ 6 ∧ f_X8_houndsAt n o p M = some (iI (w' : Nat)) := houndsAt_LS n 0 0 (by omega) (by omega) (by omega)
theorem laidBits_L {n : Nat} {M : HMem} (h : ILines M) : ∀ (k i : Nat) (b : Int32), i ≤ 8 → 8 - i < k → ∃ r, f_X0_laidBits_L4 n M k b (iI i) = some r ∧ f_X12_count_L86 n M k b (iI i) = some r := by
  intro k
  induction k with
  | zero => intro i b _ h; omega
  | succ k ih =>
    intro i b hi hk
    rw [f_X0_laidBits_L4, f_X12_count_L86]
    by_cases h6 : i = 8
    · subst h6; rw [if_pos (by decide), if_pos (by decide)]; exact ⟨b, rfl, rfl⟩
    · rw [if_neg (nle8 (i := i) (by omega)), if_neg (nle8 (i := i) (by omega)), iI_s i]
      rcases lineC h (c := i) (by omega) with ⟨h1, h2, -⟩ | ⟨fr, ln, h0, h1, h2⟩
      · rw [h1, h2, hb1_some, hb1_some, if_pos rfl]
        exact ih (i + 1) b (by omega) (by omega)
      · rw [h1, h2, hb1_some, hb1_some, if_neg i10]
        exact ih (i + 1) _ (by omega) (by omega)
def ILawC (M : HMem) : Prop := M 23 3 = M 74 21
theorem op_count (v : Int32) {n : Nat} (hn : 20 ≤ n) {M : HMem} (hT : ITape M) (hF : IFade M) (hL : ILines M) (hD : ILand M) (hW : ILawC M) (hN : PR 35 75 M) : ∃ r, f_X11_count n v M = some r ∧ f_X12_count n v M = some r := by
  rw [f_X11_count, f_X12_count]
  obtain ⟨w0, -, e0, -⟩ := bitsOf_eq (o := 35) M (iI 0) (show 7 ≤ n by omega)
  obtain ⟨w1, -, e1, -⟩ := bitsOf_eq (o := 35) M (iI 1) (show 7 ≤ n by omega)
  obtain ⟨w2, -, e2, -⟩ := bitsOf_eq (o := 35) M (iI 2) (show 7 ≤ n by omega)
  have g0 := (faring_eq (n := n) (v := 0) hN (by omega) (by omega)).trans e0
  have g1 := (faring_eq (n := n) (v := 1) hN (by omega) (by omega)).trans e1
  have g2 := (faring_eq (n := n) (v := 2) hN (by omega) (by omega)).trans e2
  obtain ⟨r, l1, l2⟩ := laidBits_L (n := n) hL n 0 0 (by omega) (by omega)
  obtain ⟨⟨t, -, -, t1, t2⟩, ⟨x, -, -, x1, x2⟩, -⟩ := hN
  obtain ⟨sz, -, -, s1, s2, -⟩ := hT
  obtain ⟨f, -, -, f1, f2⟩ := hF
  obtain ⟨⟨u, -, -, u1, u2⟩, -⟩ := hD
  split
  · exact ⟨_, rfl, by rw [t1, t2]⟩
  split
  · refine ⟨(iI w0 ||| iI w1) ||| iI w2, ?_, ?_⟩
    · rw [f_X8_toldBits, q0, e0, hb1_some, q1, e1, hb1_some, q2, e2, hb1_some, hb1_some]
    · rw [q0, g0, hb1_some, q1, g1, hb1_some, q2, g2, hb1_some]
  split
  · exact ⟨iI w0, by rw [q0, e0, hb1_some], by rw [q0, g0, hb1_some]⟩
  split
  · exact ⟨r, by rw [f_X0_laidBits, q0]; rw [q0] at l1; rw [show iI ((0 : Nat) : Int) = iI 0 from rfl] at l1; rw [l1, hb1_some], by rw [q0]; rw [q0] at l2; exact l2⟩
  split
  · exact ⟨_, rfl, by rw [f1, f2]⟩
  split
  · exact ⟨_, rfl, by rw [u1, u2]⟩
  split
  · exact ⟨_, rfl, by rw [hW]⟩
  split
  · exact ⟨_, rfl, by rw [s1, s2]⟩
  split
  · exact ⟨_, rfl, by rw [x1, x2]⟩
  · exact ⟨_, rfl, rfl⟩
-- keep and undo
theorem PR.move {o a o' a' : Nat} {M M' : HMem} (h : PR o a M) (e4 : M' o' 4 = M o 4) (e5 : M' o' 5 = M o 5) (e : ∀ i, 0 < i → i < 5 → ∀ j, j < 6 → M' (o' + i) j = M (o + i) j) (ea : ∀ j, j < 32 → M' a' j = M a j) : PR o' a' M' := by
  unfold PR at h ⊢
  rw [e4, e5, ea 30 (by omega), ea 31 (by omega)]
  refine ⟨h.1, h.2.1, fun i hi => ?_⟩
  rw [ea i (by omega), ea (6 + i) (by omega), ea (12 + i) (by omega), ea (18 + i) (by omega), ea (24 + i) (by omega), e 1 (by omega) (by omega) i hi, e 2 (by omega) (by omega) i hi, e 3 (by omega) (by omega) i hi, e 4 (by omega) (by omega) i hi]
  exact h.2.2 i hi
theorem copyFrom_spec {o0 o1 : Nat} (h0 : isPk o0) (h1 : isPk o1) (hne : o0 ≠ o1) (M : HMem) : f_X8_copyFrom o0 o1 M o0 4 = M o1 4 ∧ f_X8_copyFrom o0 o1 M o0 5 = M o1 5 ∧ (∀ i, 0 < i → i < 5 → ∀ j, j < 6 → f_X8_copyFrom o0 o1 M (o0 + i) j = M (o1 + i) j) ∧ (∀ k j, (k < o0 ∨ o0 + 4 < k) → f_X8_copyFrom o0 o1 M k j = M k j) := by
  rcases h0 with rfl | rfl | rfl <;> rcases h1 with rfl | rfl | rfl <;> first | (exact absurd rfl hne) | (refine ⟨by simp [f_X8_copyFrom, hcpy, hset, hput, upd], by simp [f_X8_copyFrom, hcpy, hset, hput, upd], fun i i1 i2 j hj => ?_, fun k j hk => ?_⟩; (rcases (show i = 1 ∨ i = 2 ∨ i = 3 ∨ i = 4 by omega) with rfl | rfl | rfl | rfl <;> simp [f_X8_copyFrom, hcpy, hset, hput, upd, va_cpy, hj]); (simp [f_X8_copyFrom, hcpy, hset, hput]; grind))
theorem copies_L {k0 k1 n : Nat} (hne : k0 ≠ k1) (M : HMem) : ∀ (k i : Nat), i ≤ 32 → 32 - i < k → f_X12_copies_L2 n k0 32 k1 32 k (iI i) (hput M k1 (fun j => if j < i then M k0 j else M k1 j)) = some (hput M k1 (fun j => if j < 32 then M k0 j else M k1 j)) := by
  intro k
  induction k with
  | zero => intro i _ h; omega
  | succ k ih =>
    intro i hi hk
    rw [f_X12_copies_L2]
    by_cases h6 : i = 32
    · subst h6; rw [if_pos (by decide)]
    · rw [if_neg (by rw [q32, iI_le (by omega) (by omega) (by omega) (by omega)]; omega), hib_t (by omega) (by omega) (by omega), if_pos rfl, if_pos rfl, iI_natc (by omega), iI_s i, hset_put, hput_ne M _ hne]
      rw [← ih (i + 1) (by omega) (by omega)]
      congr 2
      funext j
      simp only [upd]
      grind
theorem copies_eq {k0 k1 n : Nat} (hne : k0 ≠ k1) (hn : 33 ≤ n) (M : HMem) : f_X12_copies n k0 32 k1 32 M = some (hput M k1 (fun j => if j < 32 then M k0 j else M k1 j)) := by
  rw [f_X12_copies, ← copies_L hne M n 0 (by omega) (by omega)]
  congr 1
  rw [show (fun j => if j < 0 then M k0 j else M k1 j) = M k1 from funext fun j => if_neg (by omega), hput_eta]
theorem op_keep {n : Nat} (hn : 40 ≤ n) {M : HMem} (hN : PR 35 75 M) : ∃ r M1 M2, f_X11_keep M = some (r, M1) ∧ f_X12_keep n M1 = some (r, M2) ∧ IKept M2 ∧ oth 7 M M2 := by
  obtain ⟨c1, c2, c3, c4⟩ := copyFrom_spec (o0 := 40) (o1 := 35) (Or.inr (Or.inl rfl)) (Or.inl rfl) (by decide) M
  obtain ⟨t, t1, t2, t3, t4⟩ := hN.1
  refine ⟨iI t, hset (f_X8_copyFrom 40 35 M) 0 11 1, hput (hset (hset (f_X8_copyFrom 40 35 M) 0 11 1) 74 55 1) 77 (fun j => if j < 32 then hset (hset (f_X8_copyFrom 40 35 M) 0 11 1) 74 55 1 75 j else hset (hset (f_X8_copyFrom 40 35 M) 0 11 1) 74 55 1 77 j), ?_, ?_, ?_, ?_⟩
  · rw [f_X11_keep, hset_nek _ _ _ (by decide), c4 35 4 (by omega), t3]
  · rw [f_X12_keep, copies_eq (by decide) (by omega), hb1_some, hput_ne _ _ (by decide), hset_nek _ _ _ (by decide), hset_nek _ _ _ (by decide), c4 75 30 (by omega), t4]
  · refine Or.inr ⟨?_, ?_, ?_⟩
    · rw [hput_ne _ _ (by decide), hset_nek _ _ _ (by decide), hset_self]
    · rw [hput_ne _ _ (by decide), hset_self]
    · refine hN.move ?_ ?_ (fun i i1 i2 j hj => ?_) (fun j hj => ?_)
      · rw [hput_ne _ _ (by decide), hset_nek _ _ _ (by decide), hset_nek _ _ _ (by decide), c1]
      · rw [hput_ne _ _ (by decide), hset_nek _ _ _ (by decide), hset_nek _ _ _ (by decide), c2]
      · rw [hput_ne _ _ (by omega), hset_nek _ _ _ (by omega), hset_nek _ _ _ (by omega), c3 i i1 i2 j hj]
      · rw [hput_self, if_pos hj, hset_nek _ _ _ (by decide), hset_nek _ _ _ (by decide), c4 75 j (by omega)]
  · intro k j a b
    have hk : ¬ (40 ≤ k ∧ k ≤ 44) := fun q => by
      rcases (show k = 40 ∨ k = 41 ∨ k = 42 ∨ k = 43 ∨ k = 44 by omega) with rfl | rfl | rfl | rfl | rfl
      · unfold grp at a b; simp at a b; grind
      all_goals exact b rfl
    have h1 : oth 7 (f_X8_copyFrom 40 35 M) (hput (hset (hset (f_X8_copyFrom 40 35 M) 0 11 1) 74 55 1) 77 (fun j => if j < 32 then hset (hset (f_X8_copyFrom 40 35 M) 0 11 1) 74 55 1 75 j else hset (hset (f_X8_copyFrom 40 35 M) 0 11 1) 74 55 1 77 j)) := by
      refine oth.trans ?_ (oth_put (fun j => Or.inl rfl))
      refine oth.trans ?_ (oth_set (Or.inl rfl))
      exact oth_set (Or.inl rfl)
    rw [h1 k j a b, c4 k j (by omega)]
theorem op_undo {n : Nat} (hn : 40 ≤ n) {M : HMem} (hN : PR 35 75 M) (hK : IKept M) : ∃ r M1 M2, f_X11_undo M = some (r, M1) ∧ f_X12_undo n M1 = some (r, M2) ∧ PR 35 75 M2 ∧ oth 6 M M2 := by
  rcases hK with ⟨k1, k2⟩ | ⟨k1, k2, hP⟩
  · exact ⟨0, M, M, by rw [f_X11_undo, if_pos k1], by rw [f_X12_undo, if_pos k2], hN, oth_rf _ _⟩
  · obtain ⟨c1, c2, c3, c4⟩ := copyFrom_spec (o0 := 35) (o1 := 40) (Or.inl rfl) (Or.inr (Or.inl rfl)) (by decide) M
    refine ⟨1, f_X8_copyFrom 35 40 M, hput (f_X8_copyFrom 35 40 M) 75 (fun j => if j < 32 then f_X8_copyFrom 35 40 M 77 j else f_X8_copyFrom 35 40 M 75 j), ?_, ?_, ?_, ?_⟩
    · rw [f_X11_undo, if_neg (by rw [k1]; decide)]
    · rw [f_X12_undo, c4 74 55 (by omega), if_neg (by rw [k2]; decide), copies_eq (by decide) (by omega), hb1_some]
    · refine hP.move ?_ ?_ (fun i i1 i2 j hj => ?_) (fun j hj => ?_)
      · rw [hput_ne _ _ (by decide), c1]
      · rw [hput_ne _ _ (by decide), c2]
      · rw [hput_ne _ _ (by omega), c3 i i1 i2 j hj]
      · rw [hput_self, if_pos hj, c4 77 j (by omega)]
    · intro k j a b
      have hk : ¬ (35 ≤ k ∧ k ≤ 39) := fun q => by
        rcases (show k = 35 ∨ k = 36 ∨ k = 37 ∨ k = 38 ∨ k = 39 by omega) with rfl | rfl | rfl | rfl | rfl
        · unfold grp at a b; simp at a b; grind
        all_goals exact b rfl
      rw [oth_put (G := 6) (fun j => Or.inl rfl) k j a b, c4 k j (by omega)]

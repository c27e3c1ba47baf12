theorem iI_m1 {i : Int} (h : 0 ≤ i) (h2 : i < 1000000) : ¬ iI i = -1 := by
  rw [qm1, iI_eq (by omega) (by omega) (by omega) (by omega)]; omega
theorem byteAt_in {M : HMem} {j : Nat} (hj : j < 260) : f_X10_byteAt (iI j) M = some (M 2 j) := by
  rw [f_X10_byteAt, if_neg (by rw [q0, iI_lt (by omega) (by omega) (by omega) (by omega)]; omega), if_neg (by rw [q260, iI_le (by omega) (by omega) (by omega) (by omega)]; omega), hib_t (by omega) (by omega) (by omega), if_pos rfl, iI_natc (by omega)]
theorem octet_in {M : HMem} {j : Nat} (hj : j < 260) : f_X12_octet (iI j) M = some (M 84 j &&& 255) := by
  rw [f_X12_octet, hib_t (by omega) (by omega) (by omega), if_pos rfl, iI_natc (by omega)]
theorem has_eq {M : HMem} {sz m : Int} (h : M 1 1 = iI sz) (s1 : 0 ≤ sz) (s2 : sz ≤ 260) (m1 : -1000000 ≤ m) (m2 : m ≤ 1000000) : f_X10_has (iI m) M = if m ≤ sz then 1 else 0 := by
  rw [f_X10_has, h]
  simp (disch := omega) only [iI_lt]
  grind
/-- what a hound must be told by a byte -/
def due (M : HMem) (i : Nat) : Int32 := if M 39 i = 3 then 255 else M 38 i
theorem check_C {n m : Nat} {M : HMem} (hm : m ≤ 6) : ∀ (k i : Nat), i ≤ m → m - i + 1 < k → ∃ r, f_X11_check_L27 n (iI m) M k (-1) (iI i) = some (r, f_X10_empty M) ∧ ((r = -1 ∧ ∀ j, i ≤ j → j < m → M 2 j = due M j) ∨ ∃ j : Nat, r = iI j ∧ i ≤ j ∧ j < m ∧ ¬ M 2 j = due M j ∧ ∀ l, i ≤ l → l < j → M 2 l = due M l) := by
  intro k
  induction k with
  | zero => intro i _ h; omega
  | succ k ih =>
    intro i hi hk
    rw [f_X11_check_L27]
    by_cases h6 : i = m
    · subst h6
      rw [if_pos (by rw [iI_le (by omega) (by omega) (by omega) (by omega)]; omega)]
      exact ⟨-1, rfl, Or.inl ⟨rfl, fun j h1 h2 => by omega⟩⟩
    · rw [if_neg (by rw [iI_le (by omega) (by omega) (by omega) (by omega)]; omega), if_pos rfl]
      have hJ : ∀ s0, s0 = due M i → ∃ r, f_X11_check_J62 n (f_X11_check_L27 n (iI m) M k) (iI m) (-1) (iI i) s0 M = some (r, f_X10_empty M) ∧ ((r = -1 ∧ ∀ j, i ≤ j → j < m → M 2 j = due M j) ∨ ∃ j : Nat, r = iI j ∧ i ≤ j ∧ j < m ∧ ¬ M 2 j = due M j ∧ ∀ l, i ≤ l → l < j → M 2 l = due M l) := by
        intro s0 hs
        rw [f_X11_check_J62, byteAt_in (by omega), hb1_some, iI_s, hs]
        by_cases hb : M 2 i = due M i
        · rw [if_pos hb]
          obtain ⟨r, a1, a2⟩ := ih (i + 1) (by omega) (by omega)
          refine ⟨r, a1, ?_⟩
          rcases a2 with ⟨a2, a3⟩ | ⟨j, a2, a3, a4, a5, a6⟩
          · exact Or.inl ⟨a2, fun j h1 h2 => by
              by_cases e : j = i
              · rw [e]; exact hb
              · exact a3 j (by omega) h2⟩
          · exact Or.inr ⟨j, a2, by omega, a4, a5, fun l h1 h2 => by
              by_cases e : l = i
              · rw [e]; exact hb
              · exact a6 l (by omega) h2⟩
        · rw [if_neg hb]
          refine ⟨iI i, ?_, Or.inr ⟨i, rfl, Nat.le_refl _, by omega, hb, fun l h1 h2 => by omega⟩⟩
          obtain ⟨k', rfl⟩ : ∃ k', k = k' + 1 := ⟨k - 1, by omega⟩
          rw [f_X11_check_L27]
          split
          · rfl
          · rw [if_neg (iI_m1 (by omega) (by omega))]
      by_cases ht : M (35 + 4) i = 3
      · rw [isTold_0 (by omega) ht, hb1_some, if_pos rfl]
        exact hJ 255 (by rw [due, if_pos ht])
      · rw [isTold_1 (by omega) ht, hb1_some, if_neg i10, faultsOf_in (by omega), hb1_some]
        exact hJ _ (by rw [due, if_neg ht])
theorem check_R {n m : Nat} {M : HMem} {D : Nat → Int32} (hP : PR 35 75 M) (hD : ∀ i, i < 6 → D i = due M i) (hm : m ≤ 6) : ∀ (k i : Nat), i ≤ m → m - i < k → ∃ r, f_X12_check_L28 n (iI m) M k (iI i) = some (r, M) ∧ ((r = -1 ∧ ∀ j, i ≤ j → j < m → M 84 j &&& 255 = D j) ∨ ∃ j : Nat, r = iI j ∧ i ≤ j ∧ j < m ∧ ¬ M 84 j &&& 255 = D j ∧ ∀ l, i ≤ l → l < j → M 84 l &&& 255 = D l) := by
  intro k
  induction k with
  | zero => intro i _ h; omega
  | succ k ih =>
    intro i hi hk
    rw [f_X12_check_L28]
    by_cases h6 : i = m
    · subst h6
      rw [if_pos (by rw [iI_le (by omega) (by omega) (by omega) (by omega)]; omega)]
      exact ⟨-1, rfl, Or.inl ⟨rfl, fun j h1 h2 => by omega⟩⟩
    · rw [if_neg (by rw [iI_le (by omega) (by omega) (by omega) (by omega)]; omega), octet_in (by omega), hb1_some, iI_s]
      have hJ : ∀ s0, s0 = D i → ∃ r, (if M 84 i &&& 255 = s0 then f_X12_check_L28 n (iI m) M k (iI ((i + 1 : Nat) : Int)) else some (iI i, M)) = some (r, M) ∧ ((r = -1 ∧ ∀ j, i ≤ j → j < m → M 84 j &&& 255 = D j) ∨ ∃ j : Nat, r = iI j ∧ i ≤ j ∧ j < m ∧ ¬ M 84 j &&& 255 = D j ∧ ∀ l, i ≤ l → l < j → M 84 l &&& 255 = D l) := by
        intro s0 hs
        rw [hs]
        by_cases hb : M 84 i &&& 255 = D i
        · rw [if_pos hb]
          obtain ⟨r, a1, a2⟩ := ih (i + 1) (by omega) (by omega)
          refine ⟨r, a1, ?_⟩
          rcases a2 with ⟨a2, a3⟩ | ⟨j, a2, a3, a4, a5, a6⟩
          · exact Or.inl ⟨a2, fun j h1 h2 => by
              by_cases e : j = i
              · rw [e]; exact hb
              · exact a3 j (by omega) h2⟩
          · exact Or.inr ⟨j, a2, by omega, a4, a5, fun l h1 h2 => by
              by_cases e : l = i
              · rw [e]; exact hb
              · exact a6 l (by omega) h2⟩
        · rw [if_neg hb]
          exact ⟨iI i, rfl, Or.inr ⟨i, rfl, Nat.le_refl _, by omega, hb, fun l h1 h2 => by omega⟩⟩
      rcases hP.2.2 i (by omega) with ⟨h1, h2⟩ | ⟨h1, -, -, ⟨f, f1, f2, f3, f4⟩, -⟩
      · rw [isHound_0 (by omega) h1, hb1_some, if_pos rfl]
        exact hJ 255 (by rw [hD i (by omega), due, if_pos h2])
      · have h3 : ¬ M 39 i = 3 := by
          rcases hP.told (i := i) (by omega) with ⟨g1, g2⟩ | ⟨g1, g2⟩
          · rw [g1] at h1; exact absurd h1 (by decide)
          · exact g2
        rw [isHound_1 (by omega) h1, hb1_some, if_neg i10, q18, iI_add, hib_t (by omega) (by omega) (by omega), if_pos rfl, iI_nat (by omega) (by omega), show ((18 : Int) + (i : Int)).toNat = 18 + i by omega]
        exact hJ _ (by rw [hD i (by omega), due, if_neg h3, f4]; exact f3.symm)
theorem ITape.clear {M : HMem} (h : ITape M) : ITape (hset (hset M 1 1 0) 74 12 0) := by
  obtain ⟨z, z1, z2, z3, z4, z5⟩ := h
  refine ⟨0, by omega, by omega, by rw [hset_nek _ _ _ (by decide), hset_self]; rfl, by rw [hset_self]; rfl, fun j hj => ?_⟩
  rw [hset_nek _ _ _ (by decide), hset_nek _ _ _ (by decide), hset_nek _ _ _ (by decide), hset_nek _ _ _ (by decide)]
  exact z5 j hj
theorem op_check (v : Int32) {n : Nat} (hn : 10 ≤ n) {M : HMem} (hT : ITape M) (hN : PR 35 75 M) : ∃ r M1 M2, f_X11_check n v M = some (r, M1) ∧ f_X12_check n v M1 = some (r, M2) ∧ ITape M2 ∧ oth 1 M M2 := by
  obtain ⟨m, m1, m2, rfl⟩ := iI_of v
  obtain ⟨z, z1, z2, z3, z4, z5⟩ := id hT
  by_cases hm : (0 ≤ m ∧ m ≤ 6) ∧ m ≤ z
  · obtain ⟨⟨a1, a2⟩, a3⟩ := hm
    obtain ⟨q, rfl⟩ : ∃ q : Nat, m = q := ⟨m.toNat, by omega⟩
    have hq : q ≤ 6 := by omega
    obtain ⟨r, c1, c2⟩ := check_C (n := n) (M := M) hq n 0 (by omega) (by omega)
    have hM2 : PR 35 75 (hset (f_X10_empty M) 74 12 0) := hN.congr (by rw [f_X10_empty, hset_nek _ _ _ (by decide), hset_nek _ _ _ (by decide)]) (by rw [f_X10_empty, hset_nek _ _ _ (by decide), hset_nek _ _ _ (by decide)]) (fun i j h1 h2 => by rw [f_X10_empty, hset_nek _ _ _ (by omega), hset_nek _ _ _ (by omega)]) (fun j => by rw [f_X10_empty, hset_nek _ _ _ (by decide), hset_nek _ _ _ (by decide)])
    obtain ⟨r2, d1, d2⟩ := check_R (n := n) (D := due M) hM2 (fun i hi => by unfold due; rw [show hset (f_X10_empty M) 74 12 0 39 = M 39 by rw [f_X10_empty, hset_nek _ _ _ (by decide), hset_nek _ _ _ (by decide)], show hset (f_X10_empty M) 74 12 0 38 = M 38 by rw [f_X10_empty, hset_nek _ _ _ (by decide), hset_nek _ _ _ (by decide)]]) hq n 0 (by omega) (by omega)
    have e84 : ∀ j, hset (f_X10_empty M) 74 12 0 84 j = M 84 j := fun j => by rw [f_X10_empty, hset_nek _ _ _ (by decide), hset_nek _ _ _ (by decide)]
    simp only [e84] at d2
    have hr : r = r2 := by
      rcases c2 with ⟨b1, b2⟩ | ⟨j, b1, b2, b3, b4, b5⟩ <;> rcases d2 with ⟨g1, g2⟩ | ⟨l, g1, g2, g3, g4, g5⟩
      · rw [b1, g1]
      · exact absurd (by rw [← z5 l (by omega)]; exact b2 l (by omega) g3) g4
      · exact absurd (by rw [z5 j (by omega)]; exact g2 j (by omega) b3) b4
      · rcases Nat.lt_trichotomy j l with q | q | q
        · exact absurd (by rw [z5 j (by omega)]; exact g5 j (by omega) q) b4
        · rw [b1, g1, q]
        · exact absurd (by rw [← z5 l (by omega)]; exact b5 l (by omega) q) g4
    refine ⟨r, f_X10_empty M, hset (f_X10_empty M) 74 12 0, ?_, ?_, hT.clear, oth.trans (M1 := f_X10_empty M) (oth_set (k0 := 1) (j0 := 1) (v := 0) (Or.inl rfl)) (oth_set (Or.inl rfl))⟩
    · rw [f_X11_check, q6, isWithin_1 (by omega) (by omega) (by omega), if_neg i10, has_eq z3 z1 z2 (by omega) (by omega), if_pos a3, if_neg i10]
      exact c1
    · have h1 : f_X10_empty M 74 12 = iI z := by rw [f_X10_empty, hset_nek _ _ _ (by decide)]; exact z4
      rw [f_X12_check, q6, in01 (by omega) (by omega) (by omega), if_neg i10, h1, if_pos (by rw [iI_le (by omega) (by omega) (by omega) (by omega)]; exact a3), hr]
      exact d1
  · refine ⟨-2, M, M, ?_, ?_, hT, oth_rf _ _⟩
    · by_cases hw : 0 ≤ m ∧ m ≤ 6
      · rw [f_X11_check, q6, isWithin_1 hw.1 hw.2 (by omega), if_neg i10, has_eq z3 z1 z2 (by omega) (by omega), if_neg (fun q => hm ⟨hw, q⟩), if_pos rfl]
      · rw [f_X11_check, q6, isWithin_0 hw m1 m2 (by omega) (by omega), if_pos rfl]
    · by_cases hw : 0 ≤ m ∧ m ≤ 6
      · rw [f_X12_check, q6, in01 hw.1 hw.2 (by omega), if_neg i10, z4, if_neg (by rw [iI_le (by omega) (by omega) (by omega) (by omega)]; exact fun q => hm ⟨hw, q⟩)]
      · rw [f_X12_check, q6, in00 hw m1 m2 (by omega) (by omega), if_pos rfl]

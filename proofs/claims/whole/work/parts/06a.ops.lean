/-! SIMPLE CALLS -/
def oth (G : Nat) (M M2 : HMem) : Prop := ∀ k j, grp k j ≠ 0 → grp k j ≠ G → M2 k j = M k j
theorem oth_rf (G : Nat) (M : HMem) : oth G M M := fun _ _ _ _ => rfl
theorem oth.trans {G : Nat} {M M1 M2 : HMem} (h : oth G M M1) (h2 : oth G M1 M2) : oth G M M2 := fun k j a b => (h2 k j a b).trans (h k j a b)
theorem oth_set {G : Nat} {M : HMem} {k0 j0 : Nat} {v : Int32} (h : grp k0 j0 = G ∨ grp k0 j0 = 0) : oth G M (hset M k0 j0 v) := by
  intro k j a b
  by_cases hk : k = k0
  · subst hk
    by_cases hj : j = j0
    · subst hj; rcases h with h | h
      · exact absurd h b
      · exact absurd h a
    · exact hset_nej M v hj
  · rw [hset_nek M j0 v hk]
theorem oth_put {G : Nat} {M : HMem} {k0 : Nat} {f : Nat → Int32} (h : ∀ j, grp k0 j = G ∨ grp k0 j = 0) : oth G M (hput M k0 f) := by
  intro k j a b
  by_cases hk : k = k0
  · subst hk; rcases h j with h | h
    · exact absurd h b
    · exact absurd h a
  · rw [hput_ne M f hk]
theorem i10 : ¬ ((1 : Int32) = 0) := by decide
theorem op_fading (v : Int32) {M : HMem} (h : IFade M) : ∃ r M1 M2, f_X11_fading v M = some (r, M1) ∧ f_X12_fading v M1 = some (r, M2) ∧ IFade M2 ∧ oth 2 M M2 := by
  obtain ⟨z, z1, z2, rfl⟩ := iI_of v
  by_cases hz : 0 ≤ z ∧ z ≤ 9
  · refine ⟨1, hset M 3 2 (iI z), hset (hset M 3 2 (iI z)) 74 9 (iI z), ?_, ?_, ⟨z, hz.1, hz.2, by simp [hset, hput, upd], by simp [hset, hput, upd]⟩, (oth_set (by decide)).trans (oth_set (by decide))⟩
    · rw [f_X11_fading, q9, isWithin_eq z1 z2 (by omega) (by omega), if_pos hz, if_neg i10]
    · rw [f_X12_fading, q9, q0, in_eq z1 z2 (by omega) (by omega) (by omega) (by omega), if_pos hz, ← q0, if_neg i10]
  · refine ⟨0, M, M, ?_, ?_, h, oth_rf _ _⟩
    · rw [f_X11_fading, q9, isWithin_eq z1 z2 (by omega) (by omega), if_neg hz, if_pos rfl]
    · rw [f_X12_fading, q9, q0, in_eq z1 z2 (by omega) (by omega) (by omega) (by omega), if_neg hz, ← q0, if_pos rfl]
theorem op_time (v : Int32) {M : HMem} (h : PR 35 75 M) : ∃ r M1 M2, f_X11_time v M = some (r, M1) ∧ f_X12_time v M1 = some (r, M2) ∧ PR 35 75 M2 ∧ oth 6 M M2 := by
  obtain ⟨z, z1, z2, rfl⟩ := iI_of v
  obtain ⟨⟨t, t1, t2, t3, t4⟩, hx, hh⟩ := id h
  by_cases hz : t ≤ z ∧ z ≤ 9999
  · refine ⟨1, hset M 35 4 (iI z), hset (hset M 35 4 (iI z)) 75 30 (iI z), ?_, ?_, ⟨⟨z, by omega, hz.2, by simp [hset, hput, upd], by simp [hset, hput, upd]⟩, ?_, ?_⟩, (oth_set (by decide)).trans (oth_set (by decide))⟩
    · rw [f_X11_time, t3, q9999, if_neg (by rw [iI_lt z1 z2 (by omega) (by omega)]; omega), if_pos (by rw [iI_le z1 z2 (by omega) (by omega)]; omega)]
    · rw [f_X12_time, show hset M 35 4 (iI z) 75 30 = iI t by rw [hset_nek _ _ _ (by decide)]; exact t4, q9999, in_eq z1 z2 (by omega) (by omega) (by omega) (by omega), if_pos hz, if_neg i10]
    · obtain ⟨x, x1, x2, x3, x4⟩ := hx
      exact ⟨x, x1, x2, by simpa [hset, hput, upd] using x3, by simpa [hset, hput, upd] using x4⟩
    · intro i hi
      have := hh i hi
      have e1 : ∀ j, j ≠ 30 → hset (hset M 35 4 (iI z)) 75 30 (iI z) 75 j = M 75 j := fun j hj => by rw [hset_nej _ _ hj, hset_nek _ _ _ (by decide)]
      have e2 : ∀ k, k ≠ 35 → k ≠ 75 → hset (hset M 35 4 (iI z)) 75 30 (iI z) k = M k := fun k h1 h2 => by rw [hset_nek _ _ _ h2, hset_nek _ _ _ h1]
      simp only [e1 i (by omega), e1 (6 + i) (by omega), e1 (12 + i) (by omega), e1 (18 + i) (by omega), e1 (24 + i) (by omega), e2 (35 + 1) (by decide) (by decide), e2 (35 + 2) (by decide) (by decide), e2 (35 + 3) (by decide) (by decide), e2 (35 + 4) (by decide) (by decide)]
      exact this
  · refine ⟨0, M, M, ?_, ?_, h, oth_rf _ _⟩
    · rw [f_X11_time, t3, q9999]
      simp (disch := omega) only [iI_lt, iI_le]
      grind
    · rw [f_X12_time, t4, q9999, in_eq z1 z2 (by omega) (by omega) (by omega) (by omega), if_neg hz, if_pos rfl]
theorem op_seed (v : Int32) {M : HMem} (h : PR 35 75 M) : ∃ r M1 M2, f_X11_seed v M = some (r, M1) ∧ f_X12_seed v M1 = some (r, M2) ∧ PR 35 75 M2 ∧ oth 6 M M2 := by
  obtain ⟨z, z1, z2, rfl⟩ := iI_of v
  obtain ⟨⟨t, t1, t2, t3, t4⟩, hx, hh⟩ := id h
  by_cases hz : 0 ≤ z ∧ z ≤ 65535
  · refine ⟨1, hset M 35 5 (iI z), hset (hset M 35 5 (iI z)) 75 31 (iI z), ?_, ?_, ⟨⟨t, t1, t2, by simpa [hset, hput, upd] using t3, by simpa [hset, hput, upd] using t4⟩, ⟨z, by omega, hz.2, by simp [hset, hput, upd], by simp [hset, hput, upd]⟩, ?_⟩, (oth_set (by decide)).trans (oth_set (by decide))⟩
    · rw [f_X11_seed, q65535, isWithin_eq z1 z2 (by omega) (by omega), if_pos hz, if_neg i10]
    · rw [f_X12_seed, q65535, q0, in_eq z1 z2 (by omega) (by omega) (by omega) (by omega), if_pos hz, ← q0, if_neg i10]
    · intro i hi
      have := hh i hi
      have e1 : ∀ j, j ≠ 31 → hset (hset M 35 5 (iI z)) 75 31 (iI z) 75 j = M 75 j := fun j hj => by rw [hset_nej _ _ hj, hset_nek _ _ _ (by decide)]
      have e2 : ∀ k, k ≠ 35 → k ≠ 75 → hset (hset M 35 5 (iI z)) 75 31 (iI z) k = M k := fun k h1 h2 => by rw [hset_nek _ _ _ h2, hset_nek _ _ _ h1]
      simp only [e1 i (by omega), e1 (6 + i) (by omega), e1 (12 + i) (by omega), e1 (18 + i) (by omega), e1 (24 + i) (by omega), e2 (35 + 1) (by decide) (by decide), e2 (35 + 2) (by decide) (by decide), e2 (35 + 3) (by decide) (by decide), e2 (35 + 4) (by decide) (by decide)]
      exact this
  · refine ⟨0, M, M, ?_, ?_, h, oth_rf _ _⟩
    · rw [f_X11_seed, q65535, isWithin_eq z1 z2 (by omega) (by omega), if_neg hz, if_pos rfl]
    · rw [f_X12_seed, q65535, q0, in_eq z1 z2 (by omega) (by omega) (by omega) (by omega), if_neg hz, ← q0, if_pos rfl]
theorem op_landAt (v w : Int32) {M : HMem} (h : ILand M) : ∃ r, f_X11_landAt v w M = some r ∧ f_X12_landAt v w M = some r := by
  obtain ⟨x, x1, x2, rfl⟩ := iI_of v
  obtain ⟨y, y1, y2, rfl⟩ := iI_of w
  by_cases hz : (0 ≤ x ∧ x < 16) ∧ 0 ≤ y ∧ y < 12
  · obtain ⟨h1, h2, h3, h4, h5, -⟩ := h.2 (16 * y + x).toNat (by omega)
    refine ⟨iI (kd M (16 * y + x).toNat), ?_, ?_⟩
    · rw [f_X11_landAt, onLand_eq x1 x2 y1 y2, if_pos hz, if_neg i10, placeOf_eq, f_X3_kindAt, isPlace_eq (by omega) (by omega), if_pos (show 0 ≤ 16 * y + x ∧ 16 * y + x < 192 by omega), if_neg i10, hib_t (by omega) (by omega) (by omega), if_pos rfl, iI_nat (by omega) (by omega), hb1_some, h4]
    · rw [f_X12_landAt, isPlace2_eq x1 x2 y1 y2, if_pos hz, if_neg i10, q16, iI_mul, iI_add, hib_t (by omega) (by omega) (by omega), if_pos rfl, iI_nat (by omega) (by omega), h5]
  · refine ⟨-1, ?_, ?_⟩
    · rw [f_X11_landAt, onLand_eq x1 x2 y1 y2, if_neg hz, if_pos rfl]
    · rw [f_X12_landAt, isPlace2_eq x1 x2 y1 y2, if_neg hz, if_pos rfl]
theorem isWithin_1 {z m : Int} (h1 : 0 ≤ z) (h2 : z ≤ m) (h4 : m < 2147483648) : f_X11_isWithin (iI z) (iI m) = 1 := by
  rw [isWithin_eq (by omega) (by omega) (by omega) h4, if_pos ⟨h1, h2⟩]
theorem isWithin_0 {z m : Int} (h0 : ¬ (0 ≤ z ∧ z ≤ m)) (h1 : -2147483648 ≤ z) (h2 : z < 2147483648) (h3 : 0 ≤ m) (h4 : m < 2147483648) : f_X11_isWithin (iI z) (iI m) = 0 := by
  rw [isWithin_eq h1 h2 h3 h4, if_neg h0]
theorem in_1 {z a m : Int} (h1 : a ≤ z) (h2 : z ≤ m) (h3 : -2147483648 ≤ a) (h4 : m < 2147483648) : f_X12_in (iI z) (iI a) (iI m) = 1 := by
  rw [in_eq (by omega) (by omega) (by omega) h4 h3 (by omega), if_pos ⟨h1, h2⟩]
theorem in_0 {z a m : Int} (h0 : ¬ (a ≤ z ∧ z ≤ m)) (h1 : -2147483648 ≤ z) (h2 : z < 2147483648) (h3 : -2147483648 ≤ m) (h4 : m < 2147483648) (h5 : -2147483648 ≤ a) (h6 : a < 2147483648) : f_X12_in (iI z) (iI a) (iI m) = 0 := by
  rw [in_eq h1 h2 h3 h4 h5 h6, if_neg h0]
theorem isPlace_1 {z : Int} (h1 : 0 ≤ z) (h2 : z < 192) : f_X11_isPlace (iI z) = 1 := by
  rw [isPlace_eq (by omega) (by omega), if_pos ⟨h1, h2⟩]
theorem isPlace_0 {z : Int} (h0 : ¬ (0 ≤ z ∧ z < 192)) (h1 : -2147483648 ≤ z) (h2 : z < 2147483648) : f_X11_isPlace (iI z) = 0 := by
  rw [isPlace_eq h1 h2, if_neg h0]
theorem hset_j (M : HMem) (k j : Nat) (v : Int32) (j' : Nat) : hset M k j v k j' = if j' = j then v else M k j' := by simp [hset, hput, upd]
theorem hset_k (M : HMem) (k j : Nat) (v : Int32) (k' : Nat) : hset M k j v k' = if k' = k then upd (M k) j v else M k' := by simp [hset, hput]

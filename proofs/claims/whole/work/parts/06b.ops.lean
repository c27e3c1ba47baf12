theorem op_hound (a b c : Int32) {M : HMem} (h : PR 35 75 M) : ∃ r M1 M2, f_X11_hound a b c M = some (r, M1) ∧ f_X12_hound a b c M1 = some (r, M2) ∧ PR 35 75 M2 ∧ oth 6 M M2 := by
  obtain ⟨z, z1, z2, rfl⟩ := iI_of a
  obtain ⟨x, x1, x2, rfl⟩ := iI_of b
  obtain ⟨y, y1, y2, rfl⟩ := iI_of c
  by_cases hz : (0 ≤ z ∧ z ≤ 5) ∧ (0 ≤ x ∧ x < 16) ∧ 0 ≤ y ∧ y < 12
  · obtain ⟨i, rfl⟩ : ∃ i : Nat, z = i := ⟨z.toNat, by omega⟩
    obtain ⟨⟨hi0, hi⟩, hxy⟩ := hz
    have hi : i < 6 := by omega
    obtain ⟨t, xx, hh⟩ := id h
    refine ⟨1, hset (hset (hset (hset M (35 + 1) i (iI (16 * y + x))) (35 + 2) i 10000) (35 + 3) i 0) (35 + 4) i 0, hset (hset (hset (hset (hset (hset (hset (hset (hset M (35 + 1) i (iI (16 * y + x))) (35 + 2) i 10000) (35 + 3) i 0) (35 + 4) i 0) 75 i 1) 75 (6 + i) (iI (16 * y + x))) 75 (12 + i) 10000) 75 (18 + i) 0) 75 (24 + i) 0, ?_, ?_, ?_, ?_⟩
    · rw [f_X11_hound, q5, isWithin_1 (by omega) (by omega) (by omega), if_neg i10, onLand_eq x1 x2 y1 y2, if_pos hxy, if_neg i10, placeOf_eq, f_X8_tell, q5, isWithin_1 (by omega) (by omega) (by omega), if_neg i10, hib_t (by omega) (by omega) (by omega), if_pos rfl, if_pos rfl, if_pos rfl, if_pos rfl, iI_natc (by omega), hb1_some]
    · rw [f_X12_hound, q5, q0, in_1 (by omega) (by omega) (by omega) (by omega), ← q0, if_neg i10, isPlace2_eq x1 x2 y1 y2, if_pos hxy, if_neg i10]
      simp (disch := omega) only [q6, q12, q18, q24, q16, q0, iI_add, iI_mul, hib_t, if_true, iI_nat]
      rw [show ((0 : Int) + (i : Int)).toNat = i by omega, show ((6 : Int) + (i : Int)).toNat = 6 + i by omega, show ((12 : Int) + (i : Int)).toNat = 12 + i by omega, show ((18 : Int) + (i : Int)).toNat = 18 + i by omega, show ((24 : Int) + (i : Int)).toNat = 24 + i by omega]
    · refine ⟨?_, ?_, fun j hj => ?_⟩
      · obtain ⟨t, t1, t2, t3, t4⟩ := t
        refine ⟨t, t1, t2, by simpa [hset, hput, upd] using t3, ?_⟩
        rw [← t4]; simp only [hset_j, hset_k]; grind
      · obtain ⟨t, t1, t2, t3, t4⟩ := xx
        refine ⟨t, t1, t2, by simpa [hset, hput, upd] using t3, ?_⟩
        rw [← t4]; simp only [hset_j, hset_k]; grind
      · by_cases e : j = i
        · subst e
          refine Or.inr ⟨?_, ⟨16 * y + x, by omega, by omega, ?_, ?_⟩, ⟨10000, by omega, by omega, ?_, ?_⟩, ⟨0, by omega, by omega, ?_, ?_⟩, ⟨0, by omega, by omega, ?_, ?_, fun _ => ⟨0, by omega, by omega, ?_⟩⟩⟩ <;> simp [hset, hput, upd, q10000, q0]
        · have := hh j hj
          have e1 : ∀ m, m < 5 → hset (hset (hset (hset (hset (hset (hset (hset (hset M (35 + 1) i (iI (16 * y + x))) (35 + 2) i 10000) (35 + 3) i 0) (35 + 4) i 0) 75 i 1) 75 (6 + i) (iI (16 * y + x))) 75 (12 + i) 10000) 75 (18 + i) 0) 75 (24 + i) 0 75 (6 * m + j) = M 75 (6 * m + j) := fun m hm => by
            simp only [hset_j, hset_k]; grind
          have e2 : ∀ m, 0 < m → m < 5 → hset (hset (hset (hset (hset (hset (hset (hset (hset M (35 + 1) i (iI (16 * y + x))) (35 + 2) i 10000) (35 + 3) i 0) (35 + 4) i 0) 75 i 1) 75 (6 + i) (iI (16 * y + x))) 75 (12 + i) 10000) 75 (18 + i) 0) 75 (24 + i) 0 (35 + m) j = M (35 + m) j := fun m h0 hm => by
            rcases (show m = 1 ∨ m = 2 ∨ m = 3 ∨ m = 4 by omega) with rfl | rfl | rfl | rfl <;> simp [hset, hput, upd, e]
          have f0 := e1 0 (by omega)
          rw [show 6 * 0 + j = j by omega] at f0
          have f1 := e1 1 (by omega)
          have f2 := e1 2 (by omega)
          have f3 := e1 3 (by omega)
          have f4 := e1 4 (by omega)
          simp only [Nat.mul_one, show 6 * 2 = 12 from rfl, show 6 * 3 = 18 from rfl, show 6 * 4 = 24 from rfl] at f1 f2 f3 f4
          rw [f0, f1, f2, f3, f4, e2 1 (by omega) (by omega), e2 2 (by omega) (by omega), e2 3 (by omega) (by omega), e2 4 (by omega) (by omega)]
          exact this
    · repeat (first | exact oth_rf _ _ | refine oth.trans ?_ (oth_set (Or.inl rfl)))
  · refine ⟨0, M, M, ?_, ?_, h, oth_rf _ _⟩
    · rw [f_X11_hound, q5, isWithin_eq z1 z2 (by omega) (by omega), onLand_eq x1 x2 y1 y2]
      grind
    · rw [f_X12_hound, q5, q0, in_eq z1 z2 (by omega) (by omega) (by omega) (by omega), isPlace2_eq x1 x2 y1 y2]
      grind [q0]
theorem isHound_eq {o a : Nat} {M : HMem} {z : Int} (z1 : -2147483648 ≤ z) (z2 : z < 2147483648) (hz : ¬ (0 ≤ z ∧ z ≤ 5)) : f_X12_isHound (iI z) M = some 0 := by
  rw [f_X12_isHound, q5, q0, in_0 hz z1 z2 (by omega) (by omega) (by omega) (by omega), ← q0, if_pos rfl]
theorem isHound_in {M : HMem} {i : Nat} (hi : i < 6) (h : PR 35 75 M) : f_X12_isHound (iI i) M = some (if M 75 i = 1 then 1 else 0) := by
  rw [f_X12_isHound, q5, q0, in_1 (by omega) (by omega) (by omega) (by omega), ← q0, if_neg i10, q0, iI_add, hib_t (by omega) (by omega) (by omega), if_pos rfl, iI_nat (by omega) (by omega), show ((0 : Int) + (i : Int)).toNat = i by omega]
  split <;> rfl
theorem isHound_1 {M : HMem} {i : Nat} (hi : i < 6) (h1 : M 75 i = 1) : f_X12_isHound (iI i) M = some 1 := by
  rw [f_X12_isHound, q5, q0, in_1 (by omega) (by omega) (by omega) (by omega), ← q0, if_neg i10, q0, iI_add, hib_t (by omega) (by omega) (by omega), if_pos rfl, iI_nat (by omega) (by omega), show ((0 : Int) + (i : Int)).toNat = i by omega, if_pos h1]
theorem isHound_0 {M : HMem} {i : Nat} (hi : i < 6) (h1 : M 75 i = 0) : f_X12_isHound (iI i) M = some 0 := by
  rw [f_X12_isHound, q5, q0, in_1 (by omega) (by omega) (by omega) (by omega), ← q0, if_neg i10, q0, iI_add, hib_t (by omega) (by omega) (by omega), if_pos rfl, iI_nat (by omega) (by omega), show ((0 : Int) + (i : Int)).toNat = i by omega, if_neg (by rw [h1]; decide), ← q0]
theorem stateOf_in {o : Nat} {M : HMem} {i : Nat} (hi : i < 6) : f_X8_stateOf o (iI i) M = some (M (o + 4) i) := by
  rw [f_X8_stateOf, q5, isWithin_1 (by omega) (by omega) (by omega), if_neg i10, hib_t (by omega) (by omega) (by omega), if_pos rfl, iI_natc (by omega)]
theorem placeOfHound_in {o : Nat} {M : HMem} {i : Nat} (hi : i < 6) : f_X8_placeOfHound o (iI i) M = some (M (o + 1) i) := by
  rw [f_X8_placeOfHound, q5, isWithin_1 (by omega) (by omega) (by omega), if_neg i10, hib_t (by omega) (by omega) (by omega), if_pos rfl, iI_natc (by omega)]
theorem timeOf_in {o : Nat} {M : HMem} {i : Nat} (hi : i < 6) : f_X8_timeOf o (iI i) M = some (M (o + 2) i) := by
  rw [f_X8_timeOf, q5, isWithin_1 (by omega) (by omega) (by omega), if_neg i10, hib_t (by omega) (by omega) (by omega), if_pos rfl, iI_natc (by omega)]
theorem faultsOf_in {o : Nat} {M : HMem} {i : Nat} (hi : i < 6) : f_X8_faultsOf o (iI i) M = some (M (o + 3) i) := by
  rw [f_X8_faultsOf, q5, isWithin_1 (by omega) (by omega) (by omega), if_neg i10, hib_t (by omega) (by omega) (by omega), if_pos rfl, iI_natc (by omega)]
theorem stateOf_out {o : Nat} {M : HMem} {z : Int} (z1 : -2147483648 ≤ z) (z2 : z < 2147483648) (hz : ¬ (0 ≤ z ∧ z ≤ 5)) : f_X8_stateOf o (iI z) M = some 3 := by
  rw [f_X8_stateOf, q5, isWithin_0 hz z1 z2 (by omega) (by omega), if_pos rfl]
theorem isTold_in {o : Nat} {M : HMem} {i : Nat} (hi : i < 6) : f_X8_isTold o (iI i) M = some (if M (o + 4) i = 3 then 0 else 1) := by
  rw [f_X8_isTold, stateOf_in hi, hb1_some]
  split <;> rfl
theorem isTold_1 {o : Nat} {M : HMem} {i : Nat} (hi : i < 6) (h : ¬ M (o + 4) i = 3) : f_X8_isTold o (iI i) M = some 1 := by
  rw [f_X8_isTold, stateOf_in hi, hb1_some, if_neg h]
theorem isTold_0 {o : Nat} {M : HMem} {i : Nat} (hi : i < 6) (h : M (o + 4) i = 3) : f_X8_isTold o (iI i) M = some 0 := by
  rw [f_X8_isTold, stateOf_in hi, hb1_some, if_pos h]
theorem isTold_out {o : Nat} {M : HMem} {z : Int} (z1 : -2147483648 ≤ z) (z2 : z < 2147483648) (hz : ¬ (0 ≤ z ∧ z ≤ 5)) : f_X8_isTold o (iI z) M = some 0 := by
  rw [f_X8_isTold, stateOf_out z1 z2 hz, hb1_some, if_pos rfl]
/-- told on both sides, or on neither -/
theorem PR.told {o a : Nat} {M : HMem} (h : PR o a M) {i : Nat} (hi : i < 6) : (M a i = 0 ∧ M (o + 4) i = 3) ∨ (M a i = 1 ∧ ¬ M (o + 4) i = 3) := by
  rcases h.2.2 i hi with h1 | ⟨h1, -, -, -, ⟨q, q1, q2, q3, -⟩⟩
  · exact Or.inl h1
  · refine Or.inr ⟨h1, ?_⟩
    rw [q3, show (3 : Int32) = iI 3 from rfl, iI_eq (by omega) (by omega) (by omega) (by omega)]
    omega
theorem op_houndIs (v w : Int32) {M : HMem} (h : PR 35 75 M) : ∃ r, f_X11_houndIs v w M = some r ∧ f_X12_houndIs v w M = some r := by
  obtain ⟨z, z1, z2, rfl⟩ := iI_of v
  obtain ⟨y, y1, y2, rfl⟩ := iI_of w
  by_cases hz : 0 ≤ z ∧ z ≤ 5
  · obtain ⟨i, rfl⟩ : ∃ i : Nat, z = i := ⟨z.toNat, by omega⟩
    have hi : i < 6 := by omega
    rcases h.told hi with ⟨h1, h2⟩ | ⟨h1, h2⟩
    · exact ⟨-1, by rw [f_X11_houndIs, isTold_0 hi h2, hb1_some, if_pos rfl], by rw [f_X12_houndIs, isHound_0 hi h1, hb1_some, if_pos rfl]⟩
    · rcases h.2.2 i hi with ⟨h3, -⟩ | ⟨-, ⟨p, p1, p2, p3, p4⟩, ⟨t, t1, t2, t3, t4⟩, ⟨f, f1, f2, f3, f4⟩, ⟨q, k1, k2, k3, k4, -⟩⟩
      · rw [h1] at h3; exact absurd h3 (by decide)
      · rw [f_X11_houndIs, isTold_1 hi h2, hb1_some, if_neg i10, f_X12_houndIs, isHound_1 hi h1, hb1_some, if_neg i10, placeOfHound_in hi, timeOf_in hi, faultsOf_in hi, stateOf_in hi]
        by_cases hy : 0 ≤ y ∧ y ≤ 3
        · rw [q3, q0, in_1 hy.1 hy.2 (by omega) (by omega)]
          simp (disch := omega) only [hb1_some, q6, iI_mul, iI_add, hib_t, iI_nat, if_true, q1, q2, iI_eq, p3, t3, f3, k3]
          rcases (show y = 0 ∨ y = 1 ∨ y = 2 ∨ y = 3 by omega) with rfl | rfl | rfl | rfl
          · exact ⟨_, rfl, by rw [show ((6 : Int) + 6 * 0 + (i : Int)).toNat = 6 + i by omega, p4]; rfl⟩
          · exact ⟨_, rfl, by rw [show ((6 : Int) + 6 * 1 + (i : Int)).toNat = 12 + i by omega, t4]; rfl⟩
          · exact ⟨_, rfl, by rw [show ((6 : Int) + 6 * 2 + (i : Int)).toNat = 18 + i by omega, f4]; rfl⟩
          · exact ⟨_, rfl, by rw [show ((6 : Int) + 6 * 3 + (i : Int)).toNat = 24 + i by omega, k4]; rfl⟩
        · rw [q3, q0, in_0 hy y1 y2 (by omega) (by omega) (by omega) (by omega), ← q0, if_pos rfl]
          refine ⟨-1, ?_, rfl⟩
          simp (disch := omega) only [q0, q1, q2, iI_eq]
          rw [if_neg (by omega), if_neg (by omega), if_neg (by omega), if_neg (by omega)]
  · exact ⟨-1, by rw [f_X11_houndIs, isTold_out z1 z2 hz, hb1_some, if_pos rfl], by rw [f_X12_houndIs, isHound_eq (o := 0) (a := 0) z1 z2 hz, hb1_some, if_pos rfl]⟩

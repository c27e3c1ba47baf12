/-! LINES: who has one, and where he is -/
theorem in01 {z m : Int} (h1 : 0 ≤ z) (h2 : z ≤ m) (h4 : m < 2147483648) : f_X12_in (iI z) 0 (iI m) = 1 := in_1 (a := 0) h1 h2 (by omega) h4
theorem in00 {z m : Int} (h0 : ¬ (0 ≤ z ∧ z ≤ m)) (h1 : -2147483648 ≤ z) (h2 : z < 2147483648) (h3 : -2147483648 ≤ m) (h4 : m < 2147483648) : f_X12_in (iI z) 0 (iI m) = 0 := in_0 (a := 0) h0 h1 h2 h3 h4 (by omega) (by omega)
theorem courseOf_in {c : Nat} (hc : c < 8) : f_X0_courseOf (iI c) = some (some (50 + 3 * c)) := by
  rw [f_X0_courseOf, q7, isWithin_1 (by omega) (by omega) (by omega), if_neg i10, hib_t (by omega) (by omega) (by omega), if_pos rfl, iI_natc (by omega)]
theorem courseOf_out {z : Int} (hz : ¬ (0 ≤ z ∧ z ≤ 7)) (z1 : -2147483648 ≤ z) (z2 : z < 2147483648) : f_X0_courseOf (iI z) = some none := by
  rw [f_X0_courseOf, q7, isWithin_0 hz z1 z2 (by omega) (by omega), if_pos rfl]
theorem laid_1 {M : HMem} {c : Nat} (hc : c < 8) (h : M (50 + 3 * c) 2 = 1) : f_X0_laid (iI c) M = some (some (50 + 3 * c)) := by
  rw [f_X0_laid, courseOf_in hc, hb1_some]
  show (if M (50 + 3 * c) 2 = 0 then _ else _) = _
  rw [if_neg (by rw [h]; decide)]
theorem laid_0 {M : HMem} {c : Nat} (hc : c < 8) (h : M (50 + 3 * c) 2 = 0) : f_X0_laid (iI c) M = some none := by
  rw [f_X0_laid, courseOf_in hc, hb1_some]
  show (if M (50 + 3 * c) 2 = 0 then _ else _) = _
  rw [if_pos h]
theorem laid_out {M : HMem} {z : Int} (hz : ¬ (0 ≤ z ∧ z ≤ 7)) (z1 : -2147483648 ≤ z) (z2 : z < 2147483648) : f_X0_laid (iI z) M = some none := by
  rw [f_X0_laid, courseOf_out hz z1 z2, hb1_some]
theorem hasLine_out {M : HMem} {z : Int} (hz : ¬ (0 ≤ z ∧ z ≤ 7)) (z1 : -2147483648 ≤ z) (z2 : z < 2147483648) : f_X12_hasLine (iI z) M = some 0 := by
  rw [f_X12_hasLine, q7, in00 hz z1 z2 (by omega) (by omega), if_pos rfl]
theorem hasLine_0 {M : HMem} {c : Nat} (hc : c < 8) (h : M 78 c = 0) : f_X12_hasLine (iI c) M = some 0 := by
  rw [f_X12_hasLine, q7, in01 (by omega) (by omega) (by omega), if_neg i10, hib_t (by omega) (by omega) (by omega), if_pos rfl, iI_natc (by omega), h, if_pos (by decide)]
theorem hasLine_1 {M : HMem} {c : Nat} {ln : Int} (hc : c < 8) (h : M 78 c = iI ln) (h1 : 1 ≤ ln) (h2 : ln ≤ 96) : f_X12_hasLine (iI c) M = some 1 := by
  rw [f_X12_hasLine, q7, in01 (by omega) (by omega) (by omega), if_neg i10, hib_t (by omega) (by omega) (by omega), if_pos rfl, iI_natc (by omega), h, if_neg (by rw [q0, iI_le (by omega) (by omega) (by omega) (by omega)]; omega)]
theorem lineC {M : HMem} (h : ILines M) {c : Nat} (hc : c < 8) : (f_X0_laid (iI c) M = some none ∧ f_X12_hasLine (iI c) M = some 0 ∧ M 78 c = 0) ∨ ∃ fr ln, LN M c fr ln ∧ f_X0_laid (iI c) M = some (some (50 + 3 * c)) ∧ f_X12_hasLine (iI c) M = some 1 := by
  rcases h c hc with ⟨h1, h2⟩ | ⟨h1, fr, ln, h2⟩
  · exact Or.inl ⟨laid_0 hc h1, hasLine_0 hc h2, h2⟩
  · obtain ⟨-, a1, a2, a3, a4, a5, a6, a7, a8, -⟩ := id h2
    exact Or.inr ⟨fr, ln, h2, laid_1 hc h1, hasLine_1 hc a7 a1 a2⟩
theorem lineV {M : HMem} (h : ILines M) (v : Int32) : (f_X0_laid v M = some none ∧ f_X12_hasLine v M = some 0) ∨ ∃ (c : Nat) (fr ln : Int), v = iI c ∧ LN M c fr ln ∧ f_X0_laid v M = some (some (50 + 3 * c)) ∧ f_X12_hasLine v M = some 1 := by
  obtain ⟨z, z1, z2, rfl⟩ := iI_of v
  by_cases hz : 0 ≤ z ∧ z ≤ 7
  · obtain ⟨c, rfl⟩ : ∃ c : Nat, z = c := ⟨z.toNat, by omega⟩
    rcases lineC h (c := c) (by omega) with ⟨h1, h2, -⟩ | ⟨fr, ln, h1, h2, h3⟩
    · exact Or.inl ⟨h1, h2⟩
    · exact Or.inr ⟨c, fr, ln, rfl, h1, h2, h3⟩
  · exact Or.inl ⟨laid_out hz z1 z2, hasLine_out hz z1 z2⟩
theorem last_eq {M : HMem} {c : Nat} {fr ln : Int} (h : LN M c fr ln) : f_X1_last (50 + 3 * c) M = iI (fr + ln) := by
  obtain ⟨hc, a1, a2, a3, a4, a5, a6, -⟩ := h
  rw [f_X1_last, a5, a6, iI_add]
theorem placeAt_in {M : HMem} {c : Nat} {fr ln : Int} (h : LN M c fr ln) {k : Nat} (hk : (k : Int) ≤ ln) : f_X1_placeAt (50 + 3 * c) (iI (fr + k)) M = some (iI (pl M c k)) := by
  obtain ⟨hc, a1, a2, a3, a4, a5, a6, a7, a8, a9, -⟩ := h
  obtain ⟨b1, b2, b3⟩ := a9 k hk
  rw [f_X1_placeAt, a5, a6, iI_sub, show fr + (k : Int) - fr = k by omega, q0, q97]
  rw [if_neg (by rw [iI_lt (by omega) (by omega) (by omega) (by omega)]; omega), if_neg (by rw [iI_lt (by omega) (by omega) (by omega) (by omega)]; omega), if_neg (by rw [iI_le (by omega) (by omega) (by omega) (by omega)]; omega), hib_t (by omega) (by omega) (by omega), if_pos rfl, iI_natc (by omega), show 50 + 3 * c + 2 = 52 + 3 * c by omega, b2]
theorem placeAt_out {M : HMem} {c : Nat} {fr ln : Int} (h : LN M c fr ln) {t : Int} (h1 : -1000000 ≤ t) (h2 : t ≤ 1000000) (ht : ¬ (fr ≤ t ∧ t ≤ fr + ln)) : f_X1_placeAt (50 + 3 * c) (iI t) M = some (-2) := by
  obtain ⟨hc, a1, a2, a3, a4, a5, a6, a7, a8, a9, -⟩ := h
  rw [f_X1_placeAt, a5, a6, iI_sub, q0, q97]
  simp (disch := omega) only [iI_lt, iI_le, hib_iI]
  grind
theorem placeAt_t {M : HMem} {c : Nat} {fr ln : Int} (h : LN M c fr ln) {t : Int} (ht : fr ≤ t ∧ t ≤ fr + ln) : f_X1_placeAt (50 + 3 * c) (iI t) M = some (iI (pl M c (t - fr).toNat)) := by
  have := placeAt_in h (k := (t - fr).toNat) (by omega)
  rwa [show fr + ((t - fr).toNat : Int) = t by omega] at this
theorem whereAt_t {M : HMem} {c : Nat} {fr ln : Int} (h : LN M c fr ln) {t : Int} (ht : fr ≤ t ∧ t ≤ fr + ln) : f_X12_whereAt (iI c) (iI t) M = some (iI (pl M c (t - fr).toNat)) := by
  obtain ⟨hc, a1, a2, a3, a4, a5, a6, a7, a8, a9, -⟩ := h
  obtain ⟨b1, b2, b3⟩ := a9 (t - fr).toNat (by omega)
  rw [f_X12_whereAt, hasLine_1 hc a7 a1 a2, hb1_some, if_neg i10, hib_t (by omega) (by omega) (by omega), if_pos rfl, if_pos rfl, if_pos rfl, if_pos rfl, iI_natc (by omega), a7, a8, iI_add, in_1 ht.1 ht.2 (by omega) (by omega), if_neg i10, q97, iI_mul, iI_add, iI_sub, hib_t (by omega) (by omega) (by omega), if_pos rfl, iI_nat (by omega) (by omega), show (97 * (c : Int) + t - fr).toNat = 97 * c + (t - fr).toNat by omega, b3]
theorem whereAt_out {M : HMem} {c : Nat} {fr ln : Int} (h : LN M c fr ln) {t : Int} (h1 : -1000000 ≤ t) (h2 : t ≤ 1000000) (ht : ¬ (fr ≤ t ∧ t ≤ fr + ln)) : f_X12_whereAt (iI c) (iI t) M = some (-1) := by
  obtain ⟨hc, a1, a2, a3, a4, a5, a6, a7, a8, a9, -⟩ := h
  rw [f_X12_whereAt, hasLine_1 hc a7 a1 a2, hb1_some, if_neg i10, hib_t (by omega) (by omega) (by omega), if_pos rfl, if_pos rfl, if_pos rfl, iI_natc (by omega), a7, a8, iI_add, in_0 ht (by omega) (by omega) (by omega) (by omega) (by omega) (by omega), if_pos rfl]
theorem whereAt_no {M : HMem} {v w : Int32} (h : f_X12_hasLine v M = some 0) : f_X12_whereAt v w M = some (-1) := by
  rw [f_X12_whereAt, h, hb1_some, if_pos rfl]
theorem pl_ne {M : HMem} {c : Nat} {fr ln : Int} (h : LN M c fr ln) {k : Nat} (hk : (k : Int) ≤ ln) : ¬ iI (pl M c k) = -1 := by
  have := (h.2.2.2.2.2.2.2.2.2.1 k hk).1
  rw [qm1, iI_eq (by omega) (by omega) (by omega) (by omega)]
  omega
theorem op_where (v w : Int32) {M : HMem} (h : ILines M) : ∃ r, f_X11_where v w M = some r ∧ f_X12_where v w M = some r := by
  obtain ⟨t, t1, t2, rfl⟩ := iI_of w
  rcases lineV h v with ⟨h1, h2⟩ | ⟨c, fr, ln, rfl, hL, h1, h2⟩
  · exact ⟨-1, by rw [f_X11_where, h1, hb1_some], by rw [f_X12_where, h2, hb1_some, if_pos rfl]⟩
  · by_cases ht : 0 ≤ t ∧ t ≤ 20000
    · rw [f_X11_where, h1, hb1_some, f_X12_where, h2, hb1_some, if_neg i10, q20000, q0, in_1 ht.1 ht.2 (by omega) (by omega), ← q0, if_neg i10]
      show ∃ r, (if f_X11_isWithin (iI t) (iI 20000) = 0 then _ else _) = some r ∧ _
      rw [isWithin_1 ht.1 ht.2 (by omega), if_neg i10]
      by_cases h3 : fr ≤ t ∧ t ≤ fr + ln
      · rw [placeAt_t hL h3, whereAt_t hL h3, hb1_some, hb1_some, if_neg (pl_ne hL (by omega))]
        exact ⟨_, rfl, rfl⟩
      · rw [placeAt_out hL (by omega) (by omega) h3, whereAt_out hL (by omega) (by omega) h3, hb1_some, hb1_some, if_pos rfl]
        exact ⟨_, rfl, rfl⟩
    · rw [f_X11_where, h1, hb1_some, f_X12_where, h2, hb1_some, if_neg i10, q20000, q0, in_0 ht t1 t2 (by omega) (by omega) (by omega) (by omega), ← q0, if_pos rfl]
      show ∃ r, (if f_X11_isWithin (iI t) (iI 20000) = 0 then _ else _) = some r ∧ _
      rw [isWithin_0 ht t1 t2 (by omega) (by omega), if_pos rfl]
      exact ⟨_, rfl, rfl⟩

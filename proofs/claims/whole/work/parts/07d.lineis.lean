/-! lineIs -/
theorem LN.stp {M : HMem} {c : Nat} {fr ln : Int} (h : LN M c fr ln) {i : Nat} (hi : (i : Int) < ln) : (M (51 + 3 * c) i = 0 ↔ M 80 (96 * c + i) = 4) ∧ ¬ M 80 (96 * c + i) = -1 := by
  obtain ⟨s, s1, s2, s3⟩ := h.2.2.2.2.2.2.2.2.2.2 i hi
  rw [s2, s3]
  rcases (show s = 0 ∨ s = 1 ∨ s = 2 ∨ s = 3 ∨ s = 4 by omega) with rfl | rfl | rfl | rfl | rfl <;> decide
theorem LN.stp2 {M : HMem} {c : Nat} {fr ln : Int} (h : LN M c fr ln) {i j : Nat} (hi : (i : Int) < ln) (hj : (j : Int) < ln) : (M (51 + 3 * c) i = M (51 + 3 * c) j ↔ M 80 (96 * c + i) = M 80 (96 * c + j)) := by
  obtain ⟨s, s1, s2, s3⟩ := h.2.2.2.2.2.2.2.2.2.2 i hi
  obtain ⟨t, t1, t2, t3⟩ := h.2.2.2.2.2.2.2.2.2.2 j hj
  rw [s2, s3, t2, t3]
  rcases (show s = 0 ∨ s = 1 ∨ s = 2 ∨ s = 3 ∨ s = 4 by omega) with rfl | rfl | rfl | rfl | rfl <;> rcases (show t = 0 ∨ t = 1 ∨ t = 2 ∨ t = 3 ∨ t = 4 by omega) with rfl | rfl | rfl | rfl | rfl <;> decide
def hdg (M : HMem) (c : Nat) (ln : Int) (a b : Int32) : Prop := (a = 0 ∧ b = -1) ∨ ∃ j : Nat, (j : Int) < ln ∧ ¬ M (51 + 3 * c) j = 0 ∧ a = M (51 + 3 * c) j ∧ b = M 80 (96 * c + j)
theorem nle_i {a b : Int} (h : b < a) (h1 : -2147483648 ≤ a) (h2 : a < 2147483648) (h3 : -2147483648 ≤ b) (h4 : b < 2147483648) : ¬ iI a ≤ iI b := by rw [iI_le h1 h2 h3 h4]; omega
theorem turns_L {M : HMem} {c n : Nat} {fr ln : Int} (h : LN M c fr ln) : ∀ (k i : Nat) (a x y : Int32), (i : Int) ≤ ln → ln - i < k → hdg M c ln x y → ∃ r, f_X1_turns_L6 n (50 + 3 * c) M k a x (iI i) = some r ∧ f_X12_turnsOf_L7 n (iI c) M k a y (iI i) = some r := by
  have hr := h.rg
  have hc := h.c8
  obtain ⟨g3, g4, g5, g6⟩ := h.cf
  intro k
  induction k with
  | zero => intro i a x y _ h; omega
  | succ k ih =>
    intro i a x y i1 i2 hh
    rw [f_X1_turns_L6, f_X12_turnsOf_L7, g4, hib_t (z := (c : Int)) (by omega) (by omega) (by omega), if_pos (rfl : true = true), iI_natc (k := c) (by omega), g5]
    by_cases hi : i = ln
    · rw [if_pos (by rw [iI_le (by omega) (by omega) (by omega) (by omega)]; omega), if_pos (by rw [iI_le (by omega) (by omega) (by omega) (by omega)]; omega)]
      exact ⟨a, rfl, rfl⟩
    · have e0 : ¬ iI ln ≤ iI (i : Int) := nle_i (by omega) (by omega) (by omega) (by omega) (by omega)
      have e1 : ¬ (96 : Int32) ≤ iI (i : Int) := nle_i (a := 96) (by omega) (by omega) (by omega) (by omega) (by omega)
      rw [if_neg e0, if_neg e0, if_neg e1, hib_t (z := (i : Int)) (by omega) (by omega) (by omega), q96, iI_mul, iI_add, hib_t (z := 96 * (c : Int) + i) (by omega) (by omega) (by omega), iI_natc (by omega), iI_nat (by omega) (by omega), show (96 * (c : Int) + (i : Int)).toNat = 96 * c + i by omega, show 50 + 3 * c + 1 = 51 + 3 * c by omega, iI_s]
      simp only [if_true]
      obtain ⟨s1, s2⟩ := h.stp (i := i) (by omega)
      by_cases b0 : M (51 + 3 * c) i = 0
      · rw [if_pos b0, if_pos (s1.mp b0)]
        exact ih (i + 1) a x y (by omega) (by omega) hh
      · rw [if_neg b0, if_neg (fun q => b0 (s1.mpr q))]
        have hn : hdg M c ln (M (51 + 3 * c) i) (M 80 (96 * c + i)) := Or.inr ⟨i, by omega, b0, rfl, rfl⟩
        rcases hh with ⟨h1, h2⟩ | ⟨j, j1, j2, h1, h2⟩
        · rw [if_pos h1, if_pos h2]
          exact ih (i + 1) a _ _ (by omega) (by omega) hn
        · rw [if_neg (show ¬ x = 0 by rw [h1]; exact j2), if_neg (show ¬ y = -1 by rw [h2]; exact (h.stp j1).2)]
          have e2 := h.stp2 (i := i) (j := j) (by omega) j1
          by_cases b1 : M (51 + 3 * c) i = x
          · rw [if_pos b1, if_pos (by rw [h2]; exact e2.mp (by rw [b1, h1]))]
            exact ih (i + 1) a _ _ (by omega) (by omega) hn
          · rw [if_neg b1, if_neg (by rw [h2]; exact fun q => b1 (by rw [h1]; exact e2.mpr q))]
            exact ih (i + 1) (a + 1) _ _ (by omega) (by omega) hn
theorem hmax_max (a b : Int32) : hmax a b = f_X12_max a b := by
  obtain ⟨x, x1, x2, rfl⟩ := iI_of a
  obtain ⟨y, y1, y2, rfl⟩ := iI_of b
  rw [hmax, f_X12_max]
  simp (disch := omega) only [iI_lt, iI_le]
  split <;> split <;> first | rfl | (congr 1; omega) | omega
theorem straight_L {M : HMem} {c n : Nat} {fr ln : Int} (h : LN M c fr ln) : ∀ (k i : Nat) (a b x y : Int32), (i : Int) ≤ ln → ln - i < k → hdg M c ln x y → ∃ r, f_X1_longestStraight_L9 n (50 + 3 * c) M k a b x (iI i) = some r ∧ f_X12_straightOf_L10 n (iI c) M k a b y (iI i) = some r := by
  have hr := h.rg
  have hc := h.c8
  obtain ⟨g3, g4, g5, g6⟩ := h.cf
  intro k
  induction k with
  | zero => intro i a b x y _ h; omega
  | succ k ih =>
    intro i a b x y i1 i2 hh
    rw [f_X1_longestStraight_L9, f_X12_straightOf_L10, g4, hib_t (z := (c : Int)) (by omega) (by omega) (by omega), if_pos (rfl : true = true), iI_natc (k := c) (by omega), g5]
    by_cases hi : i = ln
    · rw [if_pos (by rw [iI_le (by omega) (by omega) (by omega) (by omega)]; omega), if_pos (by rw [iI_le (by omega) (by omega) (by omega) (by omega)]; omega)]
      exact ⟨a, rfl, rfl⟩
    · have e0 : ¬ iI ln ≤ iI (i : Int) := nle_i (by omega) (by omega) (by omega) (by omega) (by omega)
      have e1 : ¬ (96 : Int32) ≤ iI (i : Int) := nle_i (a := 96) (by omega) (by omega) (by omega) (by omega) (by omega)
      simp only [f_X1_longestStraight_J56]
      rw [if_neg e0, if_neg e0, if_neg e1, hib_t (z := (i : Int)) (by omega) (by omega) (by omega), q96, iI_mul, iI_add, hib_t (z := 96 * (c : Int) + i) (by omega) (by omega) (by omega), iI_natc (by omega), iI_nat (by omega) (by omega), show (96 * (c : Int) + (i : Int)).toNat = 96 * c + i by omega, show 50 + 3 * c + 1 = 51 + 3 * c by omega, iI_s]
      simp only [if_true]
      obtain ⟨s1, s2⟩ := h.stp (i := i) (by omega)
      by_cases b0 : M (51 + 3 * c) i = 0
      · rw [if_pos b0, if_pos (s1.mp b0)]
        exact ih (i + 1) a b x y (by omega) (by omega) hh
      · rw [if_neg b0, if_neg (fun q => b0 (s1.mpr q)), hmax_max, hmax_max]
        have hn : hdg M c ln (M (51 + 3 * c) i) (M 80 (96 * c + i)) := Or.inr ⟨i, by omega, b0, rfl, rfl⟩
        have eq2 : (M (51 + 3 * c) i = x ↔ M 80 (96 * c + i) = y) := by
          rcases hh with ⟨h1, h2⟩ | ⟨j, j1, j2, h1, h2⟩
          · rw [h1, h2]; exact ⟨fun q => absurd q b0, fun q => absurd q s2⟩
          · rw [h1, h2]; exact h.stp2 (i := i) (j := j) (by omega) j1
        by_cases b1 : M (51 + 3 * c) i = x
        · rw [if_pos b1, if_pos (eq2.mp b1)]
          exact ih (i + 1) _ _ _ _ (by omega) (by omega) hn
        · rw [if_neg b1, if_neg (fun q => b1 (eq2.mpr q))]
          exact ih (i + 1) _ _ _ _ (by omega) (by omega) hn
theorem rep_C {M : HMem} {c n p : Nat} {fr ln : Int} (h : LN M c fr ln) (hp : 1 ≤ p) : ∀ (k i : Nat), p ≤ i → (i : Int) ≤ ln → ln - i < k → ∃ r, f_X1_repeatsAfter_L6 n (50 + 3 * c) (iI p) M k (iI i) = some r ∧ ((r = 1 ∧ ∀ j : Nat, i ≤ j → (j : Int) < ln → M (51 + 3 * c) j = M (51 + 3 * c) (j - p)) ∨ (r = 0 ∧ ¬ ∀ j : Nat, i ≤ j → (j : Int) < ln → M (51 + 3 * c) j = M (51 + 3 * c) (j - p))) := by
  have hr := h.rg
  obtain ⟨g3, g4, g5, g6⟩ := h.cf
  intro k
  induction k with
  | zero => intro i _ _ h; omega
  | succ k ih =>
    intro i i0 i1 i2
    rw [f_X1_repeatsAfter_L6, g4]
    by_cases hi : i = ln
    · rw [if_pos (by rw [iI_le (by omega) (by omega) (by omega) (by omega)]; omega)]
      exact ⟨1, rfl, Or.inl ⟨rfl, fun j a b => by omega⟩⟩
    · have e0 : ¬ iI ln ≤ iI (i : Int) := nle_i (by omega) (by omega) (by omega) (by omega) (by omega)
      have e1 : ¬ (96 : Int32) ≤ iI (i : Int) := nle_i (a := 96) (by omega) (by omega) (by omega) (by omega) (by omega)
      rw [if_neg e0, if_neg e1, hib_t (z := (i : Int)) (by omega) (by omega) (by omega), iI_sub, hib_t (z := (i : Int) - p) (by omega) (by omega) (by omega), iI_natc (by omega), iI_nat (by omega) (by omega), show ((i : Int) - (p : Int)).toNat = i - p by omega, show 50 + 3 * c + 1 = 51 + 3 * c by omega, iI_s]
      simp only [if_true]
      by_cases b0 : M (51 + 3 * c) i = M (51 + 3 * c) (i - p)
      · rw [if_pos b0]
        obtain ⟨r, a1, a2⟩ := ih (i + 1) (by omega) (by omega) (by omega)
        refine ⟨r, a1, ?_⟩
        rcases a2 with ⟨a2, a3⟩ | ⟨a2, a3⟩
        · refine Or.inl ⟨a2, fun j b1 b2 => ?_⟩
          by_cases e : j = i
          · rw [e]; exact b0
          · exact a3 j (by omega) b2
        · exact Or.inr ⟨a2, fun q => a3 (fun j b1 b2 => q j (by omega) b2)⟩
      · rw [if_neg b0]
        exact ⟨0, rfl, Or.inr ⟨rfl, fun q => b0 (q i (by omega) (by omega))⟩⟩
theorem rep_R {M : HMem} {c n p : Nat} {fr ln : Int} (h : LN M c fr ln) (hp : 1 ≤ p) (r2 : Int32 → Option Int32) : ∀ (k i : Nat) (v : Int32), v = 0 ∨ v = 1 → p ≤ i → (i : Int) ≤ ln → ln - i < k → (f_X12_repeatsBy_L17 n r2 (iI c) (iI p) M k v (iI i) = some (iI p) ∧ v = 1 ∧ ∀ j : Nat, i ≤ j → (j : Int) < ln → M 80 (96 * c + j) = M 80 (96 * c + (j - p))) ∨ (f_X12_repeatsBy_L17 n r2 (iI c) (iI p) M k v (iI i) = r2 (iI p + 1) ∧ ¬ (v = 1 ∧ ∀ j : Nat, i ≤ j → (j : Int) < ln → M 80 (96 * c + j) = M 80 (96 * c + (j - p)))) := by
  have hr := h.rg
  have hc := h.c8
  obtain ⟨g3, g4, g5, g6⟩ := h.cf
  intro k
  induction k with
  | zero => intro i v _ _ _ h; omega
  | succ k ih =>
    intro i v hv i0 i1 i2
    rw [f_X12_repeatsBy_L17, hib_t (z := (c : Int)) (by omega) (by omega) (by omega), if_pos (rfl : true = true), iI_natc (k := c) (by omega), g5]
    by_cases hi : i = ln
    · rw [if_pos (by rw [iI_le (by omega) (by omega) (by omega) (by omega)]; omega)]
      rcases hv with rfl | rfl
      · rw [if_pos rfl]
        exact Or.inr ⟨rfl, fun q => absurd q.1 (by decide)⟩
      · rw [if_neg i10]
        exact Or.inl ⟨rfl, rfl, fun j a b => by omega⟩
    · have e0 : ¬ iI ln ≤ iI (i : Int) := nle_i (by omega) (by omega) (by omega) (by omega) (by omega)
      rw [if_neg e0, q96, iI_mul, iI_add, iI_sub, hib_t (z := 96 * (c : Int) + i) (by omega) (by omega) (by omega), hib_t (z := 96 * (c : Int) + i - p) (by omega) (by omega) (by omega), iI_nat (by omega) (by omega), iI_nat (by omega) (by omega), show (96 * (c : Int) + (i : Int)).toNat = 96 * c + i by omega, show (96 * (c : Int) + (i : Int) - (p : Int)).toNat = 96 * c + (i - p) by omega, iI_s]
      simp only [if_true]
      by_cases b0 : M 80 (96 * c + i) = M 80 (96 * c + (i - p))
      · rw [if_pos b0]
        rcases ih (i + 1) v hv (by omega) (by omega) (by omega) with ⟨a1, a2, a3⟩ | ⟨a1, a2⟩
        · refine Or.inl ⟨a1, a2, fun j b1 b2 => ?_⟩
          by_cases e : j = i
          · rw [e]; exact b0
          · exact a3 j (by omega) b2
        · exact Or.inr ⟨a1, fun q => a2 ⟨q.1, fun j b1 b2 => q.2 j (by omega) b2⟩⟩
      · rw [if_neg b0]
        rcases ih (i + 1) 0 (Or.inl rfl) (by omega) (by omega) (by omega) with ⟨a1, a2, a3⟩ | ⟨a1, a2⟩
        · exact absurd a2 (by decide)
        · exact Or.inr ⟨a1, fun q => b0 (q.2 i (by omega) (by omega))⟩
theorem period_L {M : HMem} {c n : Nat} {fr ln : Int} (h : LN M c fr ln) (hn : 100 ≤ n) : ∀ (k p : Nat), 1 ≤ p → (p : Int) ≤ ln → ln - p < k → ∃ r, f_X1_period_L2 n (50 + 3 * c) M k (iI p) = some r ∧ f_X12_repeatsBy_L2 n (iI c) M k (iI p) = some r := by
  have hr := h.rg
  have hc := h.c8
  obtain ⟨g3, g4, g5, g6⟩ := h.cf
  intro k
  induction k with
  | zero => intro p _ _ h; omega
  | succ k ih =>
    intro p p0 p1 p2
    rw [f_X1_period_L2, f_X12_repeatsBy_L2, g4, hib_t (z := (c : Int)) (by omega) (by omega) (by omega), if_pos (rfl : true = true), if_pos (rfl : true = true), iI_natc (k := c) (by omega), g5]
    by_cases hi : p = ln
    · rw [if_pos (by rw [iI_le (by omega) (by omega) (by omega) (by omega)]; omega), if_pos (by rw [iI_le (by omega) (by omega) (by omega) (by omega)]; omega)]
      exact ⟨_, rfl, rfl⟩
    · have e0 : ¬ iI ln ≤ iI (p : Int) := nle_i (by omega) (by omega) (by omega) (by omega) (by omega)
      rw [if_neg e0, if_neg e0, f_X1_repeatsAfter, q0, hmax_eq (by omega) (by omega) (by omega) (by omega), show max (p : Int) 0 = p by omega]
      obtain ⟨r, a1, a2⟩ := rep_C (n := n) h p0 n p (by omega) (by omega) (by omega)
      rw [a1, hb1_some]
      have hiff : (∀ j : Nat, p ≤ j → (j : Int) < ln → M (51 + 3 * c) j = M (51 + 3 * c) (j - p)) ↔ (∀ j : Nat, p ≤ j → (j : Int) < ln → M 80 (96 * c + j) = M 80 (96 * c + (j - p))) := by
        constructor
        · exact fun q j j1 j2 => (h.stp2 j2 (by omega)).mp (q j j1 j2)
        · exact fun q j j1 j2 => (h.stp2 j2 (by omega)).mpr (q j j1 j2)
      rcases rep_R (n := n) h p0 (f_X12_repeatsBy_L2 n (iI c) M k) n p 1 (Or.inr rfl) (by omega) (by omega) (by omega) with ⟨b1, b2, b3⟩ | ⟨b1, b2⟩
      · rcases a2 with ⟨a2, a3⟩ | ⟨a2, a3⟩
        · rw [a2, if_neg (by decide), b1]
          exact ⟨_, rfl, rfl⟩
        · exact absurd (hiff.mpr b3) a3
      · rcases a2 with ⟨a2, a3⟩ | ⟨a2, a3⟩
        · exact absurd ⟨rfl, hiff.mp a3⟩ b2
        · rw [a2, if_pos q0, b1, iI_s]
          exact ih (p + 1) (by omega) (by omega) (by omega)
theorem placesOf_L {M : HMem} {c n : Nat} {fr ln : Int} (h : LN M c fr ln) (hn : 100 ≤ n) : ∀ (k i : Nat), i ≤ 192 → 192 - i < k → f_X12_placesOf_L4 n (iI c) M k (iI (fb_ct (onb (pl M c) (nP ln)) i : Nat)) (iI i) = some (iI (fb_ct (onb (pl M c) (nP ln)) 192 : Nat)) := by
  intro k
  induction k with
  | zero => intro i _ h; omega
  | succ k ih =>
    intro i i1 i2
    rw [f_X12_placesOf_L4]
    by_cases hi : i = 192
    · subst hi; rw [if_pos (by decide)]
    · have e := ih (i + 1) (by omega) (by omega)
      rw [if_neg (by rw [q192, iI_le (by omega) (by omega) (by omega) (by omega)]; omega), isOn_eq h hn (by omega), hb1_some, iI_s, iI_s]
      rw [fb_ct_succ] at e
      by_cases b1 : onb (pl M c) (nP ln) i = true
      · rw [if_pos b1, if_neg i10]
        rw [if_pos b1] at e
        exact e
      · rw [if_neg b1, if_pos rfl]
        rw [if_neg b1] at e
        exact e
theorem placesOn_L {M : HMem} {d n : Nat} {fr ln : Int} (h : LN M d fr ln) : ∀ (k i : Nat) (g : Nat → Int32), (i : Int) ≤ ln + 1 → ln + 1 - i < k → (∀ p, p < 192 → g p = if onb (pl M d) i p = true then 1 else 0) → ∃ g', f_X9_placesOn_L15 n (50 + 3 * d) k (iI (fb_ct (onb (pl M d) i) 192 : Nat)) (iI (fr + i)) (hput M 33 g) = some (iI (fb_ct (onb (pl M d) (nP ln)) 192 : Nat), hput M 33 g') := by
  have hr := h.rg
  intro k
  induction k with
  | zero => intro i _ _ h; exfalso; omega
  | succ k ih =>
    intro i g i1 i2 hg
    have hm := h.put g (k0 := 33) (fun j => by rw [grp33]; decide)
    rw [f_X9_placesOn_L15, last_eq hm]
    by_cases hi : ln < i
    · rw [if_pos (by rw [iI_lt (by omega) (by omega) (by omega) (by omega)]; omega), show nP ln = i by unfold nP; omega]
      exact ⟨g, rfl⟩
    · have hq := h.pb (k := i) (by omega)
      rw [if_neg (by rw [iI_lt (by omega) (by omega) (by omega) (by omega)]; omega), placeAt_in hm (by omega), hb1_some, pl_put _ h.c8 (fun j => by rw [grp33]; decide), markAt_in hq, hb1_some, hput_self, hg _ hq, markPlace_in hq, hb1_some, hset_put, iI_t, iI_s]
      have hct := fb_ct_upd (onb (pl M d) i) true (i := pl M d i) (n := 192) hq
      have key2 : fb_ct (onb (pl M d) (i + 1)) 192 = fb_ct (fun k => if k = pl M d i then true else onb (pl M d) i k) 192 := by
        apply fb_ct_cong
        intro p hp
        by_cases e : p = pl M d i
        · rw [if_pos e, onb_eq e.symm]
        · rw [if_neg e, onb_ne (fun q => e q.symm)]
      rw [← key2] at hct
      by_cases b2 : onb (pl M d) i (pl M d i) = true
      · rw [if_pos b2, if_neg i10]
        rw [b2] at hct
        have := ih (i + 1) g (by omega) (by omega) (fun p hp => by
          rw [hg p hp]
          by_cases e : pl M d i = p
          · rw [onb_eq e, ← e, b2]
          · rw [onb_ne e])
        rw [show fb_ct (onb (pl M d) (i + 1)) 192 = fb_ct (onb (pl M d) i) 192 by simp at hct; omega] at this
        exact this
      · rw [if_neg b2, if_pos rfl]
        rw [show onb (pl M d) i (pl M d i) = false by simpa using b2] at hct
        have := ih (i + 1) (upd g (pl M d i) 1) (by omega) (by omega) (fun p hp => by
          simp only [upd]
          by_cases e : p = pl M d i
          · rw [if_pos e, onb_eq e.symm]; rfl
          · rw [if_neg e, hg p hp, onb_ne (fun q => e q.symm)])
        rw [show fb_ct (onb (pl M d) (i + 1)) 192 = fb_ct (onb (pl M d) i) 192 + 1 by simp at hct; omega] at this
        exact this
theorem op_lineIs (v w : Int32) {n : Nat} (hn : 200 ≤ n) {M : HMem} (hL : ILines M) : ∃ r M1, f_X11_lineIs n v w M = some (r, M1) ∧ f_X12_lineIs n v w M1 = some r ∧ (M1 = M ∨ ∃ g, M1 = hput M 33 g) := by
  obtain ⟨y, y1, y2, rfl⟩ := iI_of w
  rcases lineV hL v with ⟨h1, h2⟩ | ⟨c, fr, ln, rfl, h, h1, h2⟩
  · exact ⟨-1, M, by rw [f_X11_lineIs, h1, hb1_some], by rw [f_X12_lineIs, h2, hb1_some, if_pos rfl], Or.inl rfl⟩
  · have hr := h.rg
    have hc := h.c8
    obtain ⟨g3, g4, g5, g6⟩ := h.cf
    have hC : f_X11_lineIs n (iI c) (iI y) M = if iI y = 0 then some (M (50 + 3 * c) 4, M) else if iI y = 1 then hb1 (f_X1_turns n (50 + 3 * c) M) (fun x => some (x, M)) else if iI y = 2 then hb1 (f_X1_longestStraight n (50 + 3 * c) M) (fun x => some (x, M)) else if iI y = 3 then hb1 (f_X1_period n (50 + 3 * c) M) (fun x => some (x, M)) else if iI y = 4 then some (M (50 + 3 * c) 3, M) else if iI y = 5 then hb2 (f_X9_placesOn n (50 + 3 * c) M) (fun a b => some (a, b)) else if iI y = 6 then some (f_X1_last (50 + 3 * c) M, M) else if iI y = 7 then hb1 (f_X1_placeAt (50 + 3 * c) (f_X1_last (50 + 3 * c) M) M) (fun x => some (x, M)) else some (-1, M) := by
      rw [f_X11_lineIs, h1, hb1_some]
    rw [hC]
    by_cases hy : 0 ≤ y ∧ y ≤ 7
    · rcases (show y = 0 ∨ y = 1 ∨ y = 2 ∨ y = 3 ∨ y = 4 ∨ y = 5 ∨ y = 6 ∨ y = 7 by omega) with rfl | rfl | rfl | rfl | rfl | rfl | rfl | rfl
      · rw [if_pos q0.symm]
        exact ⟨_, M, rfl, by rw [f_X12_lineIs, h2, hb1_some, if_neg i10, if_pos q0.symm, hib_t (by omega) (by omega) (by omega), if_pos rfl, iI_natc (by omega), g5, g4], Or.inl rfl⟩
      · obtain ⟨r, a1, a2⟩ := turns_L (n := n) h n 0 0 0 (-1) (by omega) (by omega) (Or.inl ⟨rfl, rfl⟩)
        rw [if_neg (by decide), if_pos q1.symm]
        exact ⟨r, M, by rw [f_X1_turns, show (0 : Int32) = iI ((0 : Nat) : Int) from rfl]; rw [show (0 : Int32) = iI ((0 : Nat) : Int) from rfl] at a1; rw [a1, hb1_some], by rw [f_X12_lineIs, h2, hb1_some, if_neg i10, if_neg (by decide), if_pos q1.symm, f_X12_turnsOf]; rw [show iI ((0 : Nat) : Int) = 0 from rfl] at a2; rw [a2, hb1_some], Or.inl rfl⟩
      · obtain ⟨r, a1, a2⟩ := straight_L (n := n) h n 0 0 0 0 (-1) (by omega) (by omega) (Or.inl ⟨rfl, rfl⟩)
        rw [show iI ((0 : Nat) : Int) = 0 from rfl] at a1 a2
        rw [if_neg (by decide), if_neg (by decide), if_pos q2.symm]
        exact ⟨r, M, by rw [f_X1_longestStraight, a1, hb1_some], by rw [f_X12_lineIs, h2, hb1_some, if_neg i10, if_neg (by decide), if_neg (by decide), if_pos q2.symm, f_X12_straightOf, a2, hb1_some], Or.inl rfl⟩
      · obtain ⟨r, a1, a2⟩ := period_L (n := n) h (by omega) n 1 (by omega) (by omega) (by omega)
        rw [show iI ((1 : Nat) : Int) = 1 from rfl] at a1 a2
        rw [if_neg (by decide), if_neg (by decide), if_neg (by decide), if_pos (by decide)]
        exact ⟨r, M, by rw [f_X1_period, a1, hb1_some], by rw [f_X12_lineIs, h2, hb1_some, if_neg i10, if_neg (by decide), if_neg (by decide), if_neg (by decide), if_pos (by decide), f_X12_repeatsBy, a2, hb1_some], Or.inl rfl⟩
      · rw [if_neg (by decide), if_neg (by decide), if_neg (by decide), if_neg (by decide), if_pos (by decide)]
        exact ⟨_, M, rfl, by rw [f_X12_lineIs, h2, hb1_some, if_neg i10, if_neg (by decide), if_neg (by decide), if_neg (by decide), if_neg (by decide), if_pos (by decide), hib_t (by omega) (by omega) (by omega), if_pos rfl, iI_natc (by omega), g6, g3], Or.inl rfl⟩
      · rw [if_neg (by decide), if_neg (by decide), if_neg (by decide), if_neg (by decide), if_neg (by decide), if_pos (by decide)]
        obtain ⟨g', e2⟩ := placesOn_L (n := n) h n 0 (fun j => if j < 192 then 0 else M 33 j) (by omega) (by omega) (fun p hp => by rw [if_pos hp]; rfl)
        have h0 : fb_ct (onb (pl M c) 0) 192 = 0 := fb_ct_zero.mpr (fun k _ => by simp [onb])
        rw [h0, show fr + ((0 : Nat) : Int) = fr by omega, show iI ((0 : Nat) : Int) = 0 from rfl] at e2
        have hm := h.put g' (k0 := 33) (fun j => by rw [grp33]; decide)
        refine ⟨_, hput M 33 g', by rw [f_X9_placesOn, fill_eq (by omega) (by omega), hb1_some, hput_ne _ _ (by omega), g3, e2, hb2_some], ?_, Or.inr ⟨g', rfl⟩⟩
        have k2 := hasLine_1 hm.c8 hm.cf.2.2.1 hr.1 hr.2.1
        have e1 : pl (hput M 33 g') c = pl M c := funext fun k => pl_put _ hm.c8 (fun j => by rw [grp33]; decide) k
        have e3 := placesOf_L (n := n) hm (by omega) n 0 (by omega) (by omega)
        rw [e1, show iI ((0 : Nat) : Int) = 0 from rfl, show iI ((fb_ct (onb (pl M c) (nP ln)) 0 : Nat) : Int) = 0 from rfl] at e3
        rw [f_X12_lineIs, k2, hb1_some, if_neg i10, if_neg (by decide), if_neg (by decide), if_neg (by decide), if_neg (by decide), if_neg (by decide), if_pos (by decide), f_X12_placesOf, e3, hb1_some]
      · rw [if_neg (by decide), if_neg (by decide), if_neg (by decide), if_neg (by decide), if_neg (by decide), if_neg (by decide), if_pos (by decide), last_eq h]
        exact ⟨_, M, rfl, by rw [f_X12_lineIs, h2, hb1_some, if_neg i10, if_neg (by decide), if_neg (by decide), if_neg (by decide), if_neg (by decide), if_neg (by decide), if_neg (by decide), if_pos (by decide), hib_t (by omega) (by omega) (by omega), if_pos rfl, if_pos rfl, iI_natc (by omega), g6, g5, iI_add], Or.inl rfl⟩
      · rw [if_neg (by decide), if_neg (by decide), if_neg (by decide), if_neg (by decide), if_neg (by decide), if_neg (by decide), if_neg (by decide), if_pos (by decide), last_eq h, placeAt_t h (by omega), hb1_some]
        exact ⟨_, M, rfl, by rw [f_X12_lineIs, h2, hb1_some, if_neg i10, if_neg (by decide), if_neg (by decide), if_neg (by decide), if_neg (by decide), if_neg (by decide), if_neg (by decide), if_neg (by decide), if_pos (by decide), hib_t (z := (c : Int)) (by omega) (by omega) (by omega), if_pos rfl, iI_natc (by omega), g5, q97, iI_mul, iI_add, hib_t (by omega) (by omega) (by omega), if_pos rfl, iI_nat (by omega) (by omega), show (97 * (c : Int) + ln).toNat = 97 * c + (fr + ln - fr).toNat by omega, (h.p1 (by omega)).2], Or.inl rfl⟩
    · refine ⟨-1, M, ?_, ?_, Or.inl rfl⟩
      · simp (disch := omega) only [q0, q1, q2, show (3 : Int32) = iI 3 from rfl, show (4 : Int32) = iI 4 from rfl, q5, q6, q7, iI_eq]
        rw [if_neg (by omega), if_neg (by omega), if_neg (by omega), if_neg (by omega), if_neg (by omega), if_neg (by omega), if_neg (by omega), if_neg (by omega)]
      · rw [f_X12_lineIs, h2, hb1_some, if_neg i10]
        simp (disch := omega) only [q0, q1, q2, show (3 : Int32) = iI 3 from rfl, show (4 : Int32) = iI 4 from rfl, q5, q6, q7, iI_eq]
        rw [if_neg (by omega), if_neg (by omega), if_neg (by omega), if_neg (by omega), if_neg (by omega), if_neg (by omega), if_neg (by omega), if_neg (by omega)]

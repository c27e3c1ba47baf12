/-! THE INVARIANT between the class's cells and the reference's -/
def grp (k j : Nat) : Nat :=
  if k = 0 then (if j = 11 then 7 else 0) else if k = 1 then (if j = 1 then 1 else 0) else if k = 2 then 1 else if k = 3 then (if j = 2 then 2 else 0) else if k = 5 then (if j = 2 then 4 else 0) else if k = 6 then 4 else if k = 7 then 4
  else if k = 23 then (if j = 3 then 5 else if j = 6 then 5 else 0) else if 23 < k ∧ k < 29 then 5 else if k = 35 then (if j = 4 then 6 else if j = 5 then 6 else 0) else if 35 < k ∧ k < 40 then 6 else if k = 40 then (if j = 4 then 7 else if j = 5 then 7 else 0) else if 40 < k ∧ k < 45 then 7
  else if 49 < k ∧ k < 74 then 3 else if k = 74 then (if j = 9 then 2 else if j = 10 then 4 else if j = 12 then 1 else if j = 21 then 5 else if j = 55 then 7 else 0) else if k = 75 then 6 else if k = 77 then 7 else if 77 < k ∧ k < 82 then 3 else if k = 82 then 4 else if k = 83 then 4 else if k = 84 then 1 else if 90 < k ∧ k < 96 then 5 else 0
def pl (M : HMem) (c k : Nat) : Nat := (M (52 + 3 * c) k).toNatClampNeg
def LN (M : HMem) (c : Nat) (fr ln : Int) : Prop := c < 8 ∧ 1 ≤ ln ∧ ln ≤ 96 ∧ 0 ≤ fr ∧ fr ≤ 9999 ∧ M (50 + 3 * c) 3 = iI fr ∧ M (50 + 3 * c) 4 = iI ln ∧ M 78 c = iI ln ∧ M 79 c = iI fr ∧ (∀ k : Nat, (k : Int) ≤ ln → pl M c k < 192 ∧ M (52 + 3 * c) k = iI (pl M c k) ∧ M 81 (97 * c + k) = iI (pl M c k)) ∧ (∀ k : Nat, (k : Int) < ln → ∃ s : Nat, s ≤ 4 ∧ M (51 + 3 * c) k = iI ((s + 1) % 5 : Nat) ∧ M 80 (96 * c + k) = iI s)
def ITape (M : HMem) : Prop := ∃ sz : Int, 0 ≤ sz ∧ sz ≤ 260 ∧ M 1 1 = iI sz ∧ M 74 12 = iI sz ∧ ∀ j, j < 260 → M 2 j = M 84 j &&& 255
def IFade (M : HMem) : Prop := ∃ f : Int, 0 ≤ f ∧ f ≤ 9 ∧ M 3 2 = iI f ∧ M 74 9 = iI f
def ILines (M : HMem) : Prop := ∀ c, c < 8 → (M (50 + 3 * c) 2 = 0 ∧ M 78 c = 0) ∨ (M (50 + 3 * c) 2 = 1 ∧ ∃ fr ln, LN M c fr ln)
def kd (M : HMem) (p : Nat) : Nat := (M 6 p).toNatClampNeg
def pe (M : HMem) (p : Nat) : Nat := (M 7 p).toNatClampNeg
def ILand (M : HMem) : Prop := (∃ t : Int, 0 ≤ t ∧ t ≤ 12 ∧ M 5 2 = iI t ∧ M 74 10 = iI t) ∧ ∀ p, p < 192 → kd M p ≤ 9 ∧ pe M p ≤ 99 ∧ (kd M p ≤ 1 → pe M p = 0) ∧ M 6 p = iI (kd M p) ∧ M 82 p = iI (kd M p) ∧ M 7 p = iI (pe M p) ∧ M 83 p = iI (pe M p)
/-- a pack at o, and the reference's row at a -/
def PR (o a : Nat) (M : HMem) : Prop := (∃ t : Int, 0 ≤ t ∧ t ≤ 9999 ∧ M o 4 = iI t ∧ M a 30 = iI t) ∧ (∃ x : Int, 0 ≤ x ∧ x ≤ 65535 ∧ M o 5 = iI x ∧ M a 31 = iI x) ∧ ∀ h, h < 6 → (M a h = 0 ∧ M (o + 4) h = 3) ∨ (M a h = 1 ∧ (∃ p : Int, 0 ≤ p ∧ p < 192 ∧ M (o + 1) h = iI p ∧ M a (6 + h) = iI p) ∧ (∃ t : Int, 0 ≤ t ∧ t ≤ 10000 ∧ M (o + 2) h = iI t ∧ M a (12 + h) = iI t) ∧ (∃ f : Int, 0 ≤ f ∧ f ≤ 9 ∧ M (o + 3) h = iI f ∧ M a (18 + h) = iI f) ∧ (∃ q : Int, 0 ≤ q ∧ q ≤ 2 ∧ M (o + 4) h = iI q ∧ M a (24 + h) = iI q ∧ (q = 0 → ∃ f : Int, 0 ≤ f ∧ f ≤ 8 ∧ M (o + 3) h = iI f)))
def IKept (M : HMem) : Prop := (M 0 11 = 0 ∧ M 74 55 = 0) ∨ (M 0 11 = 1 ∧ M 74 55 = 1 ∧ PR 40 77 M)
theorem grp3 {k : Nat} (j : Nat) (h : (49 < k ∧ k < 74) ∨ (77 < k ∧ k < 82)) : grp k j = 3 := by
  unfold grp
  rcases h with h | h
  · rw [if_neg (by omega), if_neg (by omega), if_neg (by omega), if_neg (by omega), if_neg (by omega), if_neg (by omega), if_neg (by omega), if_neg (by omega), if_neg (by omega), if_neg (by omega), if_neg (by omega), if_neg (by omega), if_neg (by omega), if_pos h]
  · rw [if_neg (by omega), if_neg (by omega), if_neg (by omega), if_neg (by omega), if_neg (by omega), if_neg (by omega), if_neg (by omega), if_neg (by omega), if_neg (by omega), if_neg (by omega), if_neg (by omega), if_neg (by omega), if_neg (by omega), if_neg (by omega), if_neg (by omega), if_neg (by omega), if_neg (by omega), if_pos h]
theorem grp6 {i : Nat} (j : Nat) (h : 0 < i) (h2 : i < 5) : grp (35 + i) j = 6 := by
  rcases (show i = 1 ∨ i = 2 ∨ i = 3 ∨ i = 4 by omega) with rfl | rfl | rfl | rfl <;> rfl
theorem grp7 {i : Nat} (j : Nat) (h : 0 < i) (h2 : i < 5) : grp (40 + i) j = 7 := by
  rcases (show i = 1 ∨ i = 2 ∨ i = 3 ∨ i = 4 by omega) with rfl | rfl | rfl | rfl <;> rfl
theorem LN.congr {M M' : HMem} {c : Nat} {fr ln : Int} (h : LN M c fr ln) (e : ∀ k j, grp k j = 3 → M' k j = M k j) : LN M' c fr ln := by
  obtain ⟨h1, h2, h3, h4, h5, h6, h7, h8, h9, h10, h11⟩ := h
  have r1 : ∀ i j, i < 3 → grp (50 + i + 3 * c) j = 3 := fun i j hi => grp3 j (by omega)
  have r2 : ∀ k j, 77 < k → k < 82 → grp k j = 3 := fun k j a b => grp3 j (by omega)
  have e0 : ∀ j, M' (50 + 3 * c) j = M (50 + 3 * c) j := fun j => e _ _ (r1 0 j (by omega))
  have e1 : ∀ j, M' (51 + 3 * c) j = M (51 + 3 * c) j := fun j => e _ _ (r1 1 j (by omega))
  have e2 : ∀ j, M' (52 + 3 * c) j = M (52 + 3 * c) j := fun j => e _ _ (r1 2 j (by omega))
  have ep : ∀ k, pl M' c k = pl M c k := fun k => by simp only [pl, e2]
  refine ⟨h1, h2, h3, h4, h5, by rw [e0]; exact h6, by rw [e0]; exact h7, by rw [e _ _ (r2 _ _ (by omega) (by omega))]; exact h8, by rw [e _ _ (r2 _ _ (by omega) (by omega))]; exact h9, fun k hk => ?_, fun k hk => ?_⟩
  · rw [ep, e2, e _ _ (r2 _ _ (by omega) (by omega))]
    exact h10 k hk
  · rw [e1, e _ _ (r2 _ _ (by omega) (by omega))]
    exact h11 k hk
theorem ITape.congr {M M' : HMem} (h : ITape M) (e : ∀ k j, grp k j = 1 → M' k j = M k j) : ITape M' := by
  obtain ⟨sz, h1, h2, h3, h4, h5⟩ := h
  refine ⟨sz, h1, h2, by rw [e 1 1 rfl]; exact h3, by rw [e 74 12 rfl]; exact h4, fun j hj => ?_⟩
  rw [e 2 j rfl, e 84 j rfl]
  exact h5 j hj
theorem IFade.congr {M M' : HMem} (h : IFade M) (e : ∀ k j, grp k j = 2 → M' k j = M k j) : IFade M' := by
  obtain ⟨f, h1, h2, h3, h4⟩ := h
  exact ⟨f, h1, h2, by rw [e 3 2 rfl]; exact h3, by rw [e 74 9 rfl]; exact h4⟩
theorem ILines.congr {M M' : HMem} (h : ILines M) (e : ∀ k j, grp k j = 3 → M' k j = M k j) : ILines M' := by
  intro c hc
  have r1 : grp (50 + 3 * c) 2 = 3 := grp3 2 (by omega)
  rw [e _ _ r1, e 78 c rfl]
  rcases h c hc with h1 | ⟨h1, fr, ln, h2⟩
  · exact Or.inl h1
  · exact Or.inr ⟨h1, fr, ln, h2.congr e⟩
theorem ILand.congr {M M' : HMem} (h : ILand M) (e : ∀ k j, grp k j = 4 → M' k j = M k j) : ILand M' := by
  obtain ⟨⟨t, h1, h2, h3, h4⟩, h5⟩ := h
  refine ⟨⟨t, h1, h2, by rw [e 5 2 rfl]; exact h3, by rw [e 74 10 rfl]; exact h4⟩, fun p hp => ?_⟩
  have e6 : ∀ j, M' 6 j = M 6 j := fun j => e _ _ rfl
  have e7 : ∀ j, M' 7 j = M 7 j := fun j => e _ _ rfl
  simp only [kd, pe, e6, e7, e 82 p rfl, e 83 p rfl]
  exact h5 p hp
theorem PR.congr {o a : Nat} {M M' : HMem} (h : PR o a M) (e4 : M' o 4 = M o 4) (e5 : M' o 5 = M o 5) (e : ∀ i j, 0 < i → i < 5 → M' (o + i) j = M (o + i) j) (ea : ∀ j, M' a j = M a j) : PR o a M' := by
  unfold PR at h ⊢
  simp only [e4, e5, ea, e 1 _ (by omega) (by omega), e 2 _ (by omega) (by omega), e 3 _ (by omega) (by omega), e 4 _ (by omega) (by omega)]
  exact h
theorem PRn.congr {M M' : HMem} (h : PR 35 75 M) (e : ∀ k j, grp k j = 6 → M' k j = M k j) : PR 35 75 M' := h.congr (e _ _ rfl) (e _ _ rfl) (fun i j h1 h2 => e _ _ (grp6 j h1 h2)) (fun j => e _ _ rfl)
theorem IKept.congr {M M' : HMem} (h : IKept M) (e : ∀ k j, grp k j = 7 → M' k j = M k j) : IKept M' := by
  unfold IKept at h ⊢
  rw [e 0 11 rfl, e 74 55 rfl]
  rcases h with h | ⟨h1, h2, h3⟩
  · exact Or.inl h
  · exact Or.inr ⟨h1, h2, h3.congr (e _ _ rfl) (e _ _ rfl) (fun i j h1 h2 => e _ _ (grp7 j h1 h2)) (fun j => e _ _ rfl)⟩

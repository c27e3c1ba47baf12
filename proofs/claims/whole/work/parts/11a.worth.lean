/-! THE HUNT: what THE LAW says, on both sides -/
def LA (M : HMem) (t sz : Nat) (A : HMem) : Prop := A 23 3 = iI (t : Int) ∧ A 23 6 = iI (sz : Int) ∧ A 24 = M 24 ∧ A 25 = M 25 ∧ A 26 = M 26 ∧ A 27 = M 27 ∧ A 28 = M 28
def LB (M : HMem) (t : Nat) (B : HMem) : Prop := B 74 21 = iI (t : Int) ∧ B 91 = M 91 ∧ B 92 = M 92 ∧ B 93 = M 93 ∧ B 94 = M 94 ∧ B 95 = M 95
theorem LA.fr {M A A' : HMem} {t sz : Nat} (h : LA M t sz A) (e : ∀ q, 22 < q → q < 29 → A' q = A q) : LA M t sz A' := by
  unfold LA at h ⊢
  rw [e 23 (by omega) (by omega), e 24 (by omega) (by omega), e 25 (by omega) (by omega), e 26 (by omega) (by omega), e 27 (by omega) (by omega), e 28 (by omega) (by omega)]
  exact h
theorem LB.fr {M B B' : HMem} {t : Nat} (h : LB M t B) (e0 : B' 74 21 = B 74 21) (e : ∀ q, 90 < q → q < 96 → B' q = B q) : LB M t B' := by
  unfold LB at h ⊢
  rw [e0, e 91 (by omega) (by omega), e 92 (by omega) (by omega), e 93 (by omega) (by omega), e 94 (by omega) (by omega), e 95 (by omega) (by omega)]
  exact h
section
variable {M : HMem} {N t sz cm : Nat}
theorem worth_L {z hi : Int} (hN : 300 ≤ N) (hz : z = 101 ∨ z = 114) (hi0 : 0 ≤ hi) (hi1 : hi ≤ 9999) (ht : t ≤ 16) (hsz : sz ≤ 240) (hR : ∀ s, s < t → RU (M 24) (M 25) (M 26) (M 27) (M 28) (M 92) (M 93) (M 94) (M 95) (M 91) sz cm s) : ∀ (k s : Nat) (A B : HMem), s ≤ t → t - s < k → LA M t sz A → LB M t B → (∀ q, q < 8 → A 29 q = B 97 q) → ∃ (r : Int) (A' B' : HMem), f_X5_worth_L2 N 23 (iI z) (iI hi) k (iI s) A = some (iI r, A') ∧ f_X12_byLaw_L2 N (iI z) (iI hi) k (iI s) B = some (iI r, B') ∧ (∀ q, q ≠ 30 → A' q = A q) ∧ (∀ q, q ≠ 96 → B' q = B q) ∧ 0 ≤ r ∧ r ≤ hi := by
  intro k
  induction k with
  | zero => intro s _ _ _ h; exfalso; omega
  | succ k ih =>
    intro s A B hs hk hA hB hf
    obtain ⟨a3, a6, a24, a25, a26, a27, a28⟩ := id hA
    obtain ⟨b21, b91, b92, b93, b94, b95⟩ := id hB
    by_cases e : s = t
    · subst e
      refine ⟨0, A, B, ?_, ?_, fun _ _ => rfl, fun _ _ => rfl, by omega, hi0⟩
      · rw [f_X5_worth_L2, a3, if_pos (le_i (by omega) (by omega) (by omega))]; rfl
      · rw [f_X12_byLaw_L2, b21, if_pos (le_i (by omega) (by omega) (by omega))]; rfl
    · obtain ⟨z', c, c1, c2, o1, o2, h1, h2, h3, h4, h5, h6, h7, h8, h9, h10, h11, h12, h13⟩ := hR s (by omega)
      have x1 : ¬ iI (t : Int) ≤ iI (s : Int) := nl_i (by omega) (by omega) (by omega)
      have x2 : ¬ (16 : Int32) ≤ iI (s : Int) := nl_i (a := 16) (by omega) (by omega) (by omega)
      have hh : hib (iI (s : Int)) 16 = true := hib_t (by omega) (by omega) (by omega)
      have y24 : A (23 + 1) s = iI z' := by rw [← h2]; exact congrFun a24 s
      have y26 : A (23 + 3) s = iI ((c1 + o2 : Nat) : Int) := by rw [← h7]; exact congrFun a26 s
      have y92 : B 92 s = iI z' := by rw [b92, h3]
      have eA : f_X5_worth_L2 N 23 (iI z) (iI hi) (k + 1) (iI s) A = (if iI z' = iI z then hb2 (f_X5_run N 23 (iI ((c1 + o2 : Nat) : Int)) A) (fun x101 M102 => if x101 = 0 then f_X5_worth_L2 N 23 (iI z) (iI hi) k (iI (s : Int) + 1) M102 else hb2 (f_X5_run N 23 (M102 (23 + 2) s) M102) (fun x103 M104 => some (hmax 0 (hmin (iI hi) x103), M104))) else f_X5_worth_L2 N 23 (iI z) (iI hi) k (iI (s : Int) + 1) A) := by
        rw [f_X5_worth_L2, a3, if_neg x1, if_neg x2, hh, if_pos rfl, iI_natc (k := s) (by omega), y24, if_pos rfl, y26]
        simp only [if_true]
      have eB : f_X12_byLaw_L2 N (iI z) (iI hi) (k + 1) (iI s) B = (if iI z' = iI z then hb2 (f_X12_comesTo N (iI (c1 : Int)) (iI (c2 : Int)) B) (fun x101 M102 => if x101 = 1 then hb2 (f_X12_comesTo N (M102 93 s) (M102 94 s) M102) (fun x103 M104 => if 0 ≤ x103 then (if x103 ≤ iI hi then some (x103, M104) else some (iI hi, M104)) else some (0, M104)) else f_X12_byLaw_L2 N (iI z) (iI hi) k (iI (s : Int) + 1) M102) else f_X12_byLaw_L2 N (iI z) (iI hi) k (iI (s : Int) + 1) B) := by
        rw [f_X12_byLaw_L2, b21, if_neg x1, hh, if_pos rfl, iI_natc (k := s) (by omega), y92, if_pos rfl, if_pos rfl, b94, h6, b95, h8]
        simp only [if_true]
      rw [eA, eB]
      by_cases ez : z' = z
      · subst ez
        obtain ⟨r, A1, B1, g1, g2, g3, g4, g5⟩ := seg_run (N := N) (P := BB) (show SEG (A 27) (A 28) (B 91) o2 c1 c2 BB 16 by rw [a27, a28, b91]; exact h10) (by omega) a6 hsz h12 (by rw [a27]; exact h11) hf (Or.inl rfl) (fun v hv => hv) hN
        rw [if_pos rfl, if_pos rfl, g1, g2, hb2_some, hb2_some]
        have hA1 : LA M t sz A1 := hA.fr (fun q _ _ => g3 q (by omega))
        have hB1 : LB M t B1 := hB.fr (by rw [g4 74 (by decide)]) (fun q _ _ => g4 q (by omega))
        have hf1 : ∀ q, q < 8 → A1 29 q = B1 97 q := fun q hq => by rw [g3 29 (by decide), g4 97 (by decide)]; exact hf q hq
        rcases g5 with rfl | rfl
        · rw [if_pos rfl, if_neg (by decide), iI_s]
          obtain ⟨r, A2, B2, i1, i2, i3, i4, i5⟩ := ih (s + 1) A1 B1 (by omega) (by omega) hA1 hB1 hf1
          exact ⟨r, A2, B2, i1, i2, fun q hq => by rw [i3 q hq, g3 q hq], fun q hq => by rw [i4 q hq, g4 q hq], i5⟩
        · obtain ⟨k1, k2, k3⟩ := h9 (by omega)
          obtain ⟨a3', a6', a24', a25', a26', a27', a28'⟩ := id hA1
          obtain ⟨b21', b91', b92', b93', b94', b95'⟩ := id hB1
          obtain ⟨x, A2, B2, u1, u2, u3, u4, -⟩ := seg_run (N := N) (P := TT) (show SEG (A1 27) (A1 28) (B1 91) o1 c c1 TT 15 by rw [a27', a28', b91']; exact k1) (by omega) a6' hsz k3 (by rw [a27']; exact k2) hf1 trivial (fun v hv => hv) hN
          have y25 : A1 (23 + 2) s = iI ((c + o1 : Nat) : Int) := by rw [← h4]; exact congrFun a25' s
          rw [if_neg i10, if_pos rfl, y25, u1, hb2_some, b93', h5, b94', h6, u2, hb2_some]
          obtain ⟨w, w1, w2, rfl⟩ := iI_of x
          refine ⟨max 0 (min hi w), A2, B2, ?_, ?_, fun q hq => by rw [u3 q hq, g3 q hq], fun q hq => by rw [u4 q hq, g4 q hq], by omega, by omega⟩
          · rw [hmin_eq (by omega) (by omega) w1 w2, show hmax 0 (iI (min hi w)) = _ from hmax_eq (a := 0) (by omega) (by omega) (by omega) (by omega)]
          · by_cases w0 : 0 ≤ w
            · rw [if_pos (show (0 : Int32) ≤ iI w from le_i (a := 0) w0 (by omega) w2)]
              by_cases wh : w ≤ hi
              · rw [if_pos (le_i wh (by omega) (by omega)), show max 0 (min hi w) = w by omega]
              · rw [if_neg (nl_i (by omega) (by omega) (by omega)), show max 0 (min hi w) = hi by omega]
            · rw [if_neg (show ¬ (0 : Int32) ≤ iI w from nl_i (a := 0) (by omega) (by omega) (by omega)), show max 0 (min hi w) = 0 by omega]; rfl
      · have nz : ¬ iI z' = iI z := ne_i ez (by omega) (by omega) (by omega) (by omega)
        rw [if_neg nz, if_neg nz, iI_s]
        exact ih (s + 1) A B (by omega) (by omega) hA hB hf
theorem gives_L (hN : 300 ≤ N) (ht : t ≤ 16) (hsz : sz ≤ 240) (hR : ∀ s, s < t → RU (M 24) (M 25) (M 26) (M 27) (M 28) (M 92) (M 93) (M 94) (M 95) (M 91) sz cm s) : ∀ (k s : Nat) (A B : HMem), s ≤ t → t - s < k → LA M t sz A → LB M t B → (∀ q, q < 8 → A 29 q = B 97 q) → ∃ (r : Int32) (A' B' : HMem), f_X5_givesUp_L2 N 23 k (iI s) A = some (r, A') ∧ f_X12_holdsAny_L2 N 120 k (iI s) B = some (r, B') ∧ (∀ q, q ≠ 30 → A' q = A q) ∧ (∀ q, q ≠ 96 → B' q = B q) ∧ BB r := by
  intro k
  induction k with
  | zero => intro s _ _ _ h; exfalso; omega
  | succ k ih =>
    intro s A B hs hk hA hB hf
    obtain ⟨a3, a6, a24, a25, a26, a27, a28⟩ := id hA
    obtain ⟨b21, b91, b92, b93, b94, b95⟩ := id hB
    by_cases e : s = t
    · subst e
      refine ⟨0, A, B, ?_, ?_, fun _ _ => rfl, fun _ _ => rfl, Or.inl rfl⟩
      · rw [f_X5_givesUp_L2, a3, if_pos (le_i (by omega) (by omega) (by omega))]
      · rw [f_X12_holdsAny_L2, b21, if_pos (le_i (by omega) (by omega) (by omega))]
    · obtain ⟨z', c, c1, c2, o1, o2, h1, h2, h3, h4, h5, h6, h7, h8, h9, h10, h11, h12, h13⟩ := hR s (by omega)
      have x1 : ¬ iI (t : Int) ≤ iI (s : Int) := nl_i (by omega) (by omega) (by omega)
      have x2 : ¬ (16 : Int32) ≤ iI (s : Int) := nl_i (a := 16) (by omega) (by omega) (by omega)
      have hh : hib (iI (s : Int)) 16 = true := hib_t (by omega) (by omega) (by omega)
      have y24 : A (23 + 1) s = iI z' := by rw [← h2]; exact congrFun a24 s
      have y26 : A (23 + 3) s = iI ((c1 + o2 : Nat) : Int) := by rw [← h7]; exact congrFun a26 s
      have y92 : B 92 s = iI z' := by rw [b92, h3]
      have eA : f_X5_givesUp_L2 N 23 (k + 1) (iI s) A = (if iI z' = 120 then hb2 (f_X5_run N 23 (iI ((c1 + o2 : Nat) : Int)) A) (fun x101 M102 => if x101 = 0 then f_X5_givesUp_L2 N 23 k (iI (s : Int) + 1) M102 else some (1, M102)) else f_X5_givesUp_L2 N 23 k (iI (s : Int) + 1) A) := by
        rw [f_X5_givesUp_L2, a3, if_neg x1, if_neg x2, hh, if_pos rfl, iI_natc (k := s) (by omega), y24, if_pos rfl, y26]
      have eB : f_X12_holdsAny_L2 N 120 (k + 1) (iI s) B = (if iI z' = 120 then hb2 (f_X12_comesTo N (iI (c1 : Int)) (iI (c2 : Int)) B) (fun x101 M102 => if x101 = 1 then some (1, M102) else f_X12_holdsAny_L2 N 120 k (iI (s : Int) + 1) M102) else f_X12_holdsAny_L2 N 120 k (iI (s : Int) + 1) B) := by
        rw [f_X12_holdsAny_L2, b21, if_neg x1, hh, if_pos rfl, iI_natc (k := s) (by omega), y92, if_pos rfl, if_pos rfl, b94, h6, b95, h8]
      rw [eA, eB]
      by_cases ez : z' = 120
      · subst ez
        obtain ⟨r, A1, B1, g1, g2, g3, g4, g5⟩ := seg_run (N := N) (P := BB) (show SEG (A 27) (A 28) (B 91) o2 c1 c2 BB 16 by rw [a27, a28, b91]; exact h10) (by omega) a6 hsz h12 (by rw [a27]; exact h11) hf (Or.inl rfl) (fun v hv => hv) hN
        have e120 : iI 120 = 120 := rfl
        rw [if_pos e120, if_pos e120, g1, g2, hb2_some, hb2_some]
        rcases g5 with rfl | rfl
        · rw [if_pos rfl, if_neg (by decide), iI_s]
          obtain ⟨r, A2, B2, i1, i2, i3, i4, i5⟩ := ih (s + 1) A1 B1 (by omega) (by omega) (hA.fr (fun q _ _ => g3 q (by omega))) (hB.fr (by rw [g4 74 (by decide)]) (fun q _ _ => g4 q (by omega))) (fun q hq => by rw [g3 29 (by decide), g4 97 (by decide)]; exact hf q hq)
          exact ⟨r, A2, B2, i1, i2, fun q hq => by rw [i3 q hq, g3 q hq], fun q hq => by rw [i4 q hq, g4 q hq], i5⟩
        · rw [if_neg i10, if_pos rfl]
          exact ⟨1, A1, B1, rfl, rfl, g3, g4, Or.inr rfl⟩
      · have nz : ¬ iI z' = 120 := ne_i (b := 120) ez (by omega) (by omega) (by omega) (by omega)
        rw [if_neg nz, if_neg nz, iI_s]
        exact ih (s + 1) A B (by omega) (by omega) hA hB hf
/-- what THE LAW says of facts F, wherever it is asked -/
theorem worth_V {z hi : Int} (hN : 300 ≤ N) (hz : z = 101 ∨ z = 114) (hi0 : 0 ≤ hi) (hi1 : hi ≤ 9999) (ht : t ≤ 16) (hsz : sz ≤ 240) (hR : ∀ s, s < t → RU (M 24) (M 25) (M 26) (M 27) (M 28) (M 92) (M 93) (M 94) (M 95) (M 91) sz cm s) (m3 : M 23 3 = iI (t : Int)) (m6 : M 23 6 = iI (sz : Int)) (m21 : M 74 21 = iI (t : Int)) (F : Nat → Int32) : ∃ w : Int, 0 ≤ w ∧ w ≤ hi ∧ (∀ A, LA M t sz A → (∀ q, q < 8 → A 29 q = F q) → ∃ A', f_X5_worth N 23 (iI z) (iI hi) A = some (iI w, A') ∧ ∀ q, q ≠ 30 → A' q = A q) ∧ (∀ B, LB M t B → (∀ q, q < 8 → B 97 q = F q) → ∃ B', f_X12_byLaw N (iI z) (iI hi) B = some (iI w, B') ∧ ∀ q, q ≠ 96 → B' q = B q) := by
  have hA0 : LA M t sz (hput M 29 F) := LA.fr (A := M) ⟨m3, m6, rfl, rfl, rfl, rfl, rfl⟩ (fun q _ _ => hput_ne _ _ (by omega))
  have hB0 : LB M t (hput M 97 F) := LB.fr (B := M) ⟨m21, rfl, rfl, rfl, rfl, rfl⟩ (by rw [hput_ne _ _ (by decide)]) (fun q _ _ => hput_ne _ _ (by omega))
  obtain ⟨w, A1, B1, g1, g2, g3, g4, g5, g6⟩ := worth_L (M := M) hN hz hi0 hi1 ht hsz hR N 0 _ _ (by omega) (by omega) hA0 hB0 (fun q _ => by rw [hput_self, hput_self])
  refine ⟨w, g5, g6, fun A hA hf => ?_, fun B hB hf => ?_⟩
  · obtain ⟨r, A2, B2, u1, u2, u3, u4, u5, u6⟩ := worth_L (M := M) hN hz hi0 hi1 ht hsz hR N 0 A _ (by omega) (by omega) hA hB0 (fun q hq => by rw [hput_self]; exact hf q hq)
    rw [g2] at u2
    injection u2 with u2
    injection u2 with u2 _
    rw [u2]
    exact ⟨A2, u1, u3⟩
  · obtain ⟨r, A2, B2, u1, u2, u3, u4, u5, u6⟩ := worth_L (M := M) hN hz hi0 hi1 ht hsz hR N 0 _ B (by omega) (by omega) hA0 hB (fun q hq => by rw [hput_self]; exact (hf q hq).symm)
    rw [g1] at u1
    injection u1 with u1
    injection u1 with u1 _
    rw [u1]
    exact ⟨B2, u2, u4⟩
theorem gives_V (hN : 300 ≤ N) (ht : t ≤ 16) (hsz : sz ≤ 240) (hR : ∀ s, s < t → RU (M 24) (M 25) (M 26) (M 27) (M 28) (M 92) (M 93) (M 94) (M 95) (M 91) sz cm s) {A B : HMem} (hA : LA M t sz A) (hB : LB M t B) (hf : ∀ q, q < 8 → A 29 q = B 97 q) : ∃ (r : Int32) (A' B' : HMem), f_X5_givesUp N 23 A = some (r, A') ∧ f_X12_holdsAny N 120 B = some (r, B') ∧ (∀ q, q ≠ 30 → A' q = A q) ∧ (∀ q, q ≠ 96 → B' q = B q) ∧ BB r := gives_L hN ht hsz hR N 0 A B (by omega) (by omega) hA hB hf
theorem tenths_V (hN : 300 ≤ N) (ht : t ≤ 16) (hsz : sz ≤ 240) (hR : ∀ s, s < t → RU (M 24) (M 25) (M 26) (M 27) (M 28) (M 92) (M 93) (M 94) (M 95) (M 91) sz cm s) {A B : HMem} (hA : LA M t sz A) (hB : LB M t B) (hf : ∀ q, q < 8 → A 29 q = B 97 q) : ∃ (r : Int) (A' B' : HMem), f_X5_worth N 23 114 10 A = some (iI r, A') ∧ f_X12_byLaw N 114 10 B = some (iI r, B') ∧ (∀ q, q ≠ 30 → A' q = A q) ∧ (∀ q, q ≠ 96 → B' q = B q) ∧ 0 ≤ r ∧ r ≤ 10 := worth_L (z := 114) (hi := 10) hN (Or.inr rfl) (by omega) (by omega) ht hsz hR N 0 A B (by omega) (by omega) hA hB hf
end

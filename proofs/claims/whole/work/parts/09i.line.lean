theorem LN.cg1 {M M' : HMem} {c : Nat} {fr ln : Int} (h : LN M c fr ln) (e0 : M' (50 + 3 * c) = M (50 + 3 * c)) (e1 : M' (51 + 3 * c) = M (51 + 3 * c)) (e2 : M' (52 + 3 * c) = M (52 + 3 * c)) (e3 : M' 78 c = M 78 c) (e4 : M' 79 c = M 79 c) (e5 : ∀ k, k < 96 → M' 80 (96 * c + k) = M 80 (96 * c + k)) (e6 : ∀ k, k ≤ 96 → M' 81 (97 * c + k) = M 81 (97 * c + k)) : LN M' c fr ln := by
  obtain ⟨h1, h2, h3, h4, h5, h6, h7, h8, h9, h10, h11⟩ := h
  have ep : ∀ k, pl M' c k = pl M c k := fun k => by simp only [pl, e2]
  refine ⟨h1, h2, h3, h4, h5, by rw [e0]; exact h6, by rw [e0]; exact h7, by rw [e3]; exact h8, by rw [e4]; exact h9, fun k hk => ?_, fun k hk => ?_⟩
  · rw [ep, e2, e6 k (by omega)]
    exact h10 k hk
  · rw [e1, e5 k (by omega)]
    exact h11 k hk
def stF (A : HMem) (j : Nat) : Nat := ((A 9 j).toNatClampNeg + 4) % 5
theorem SR.st3 {A B : HMem} {m : Nat} (h : SR A B m) {j : Nat} (hj : j < m) : stF A j ≤ 4 ∧ A 9 j = iI ((stF A j + 1) % 5 : Nat) ∧ B 98 j = iI (stF A j) := by
  obtain ⟨s, s1, s2, s3⟩ := h.2.2.2 j hj
  have : stF A j = s := by
    unfold stF
    rw [s2, iI_natc (by omega)]
    omega
  rw [this]
  exact ⟨s1, s2, s3⟩
theorem op_line (a1 a2 a3 a4 a5 : Int32) {N : Nat} (hN : 300 ≤ N) {M : HMem} (hT : ITape M) (hL : ILines M) : ∃ r M1 M2, f_X11_line N a1 a2 a3 a4 a5 M = some (r, M1) ∧ f_X12_line N a1 a2 a3 a4 a5 M1 = some (r, M2) ∧ ITape M2 ∧ ILines M2 ∧ othT 3 M M2 := by
  obtain ⟨c, c1, c2, rfl⟩ := iI_of a1
  obtain ⟨x, x1, x2, rfl⟩ := iI_of a2
  obtain ⟨y, y1, y2, rfl⟩ := iI_of a3
  obtain ⟨fr, fr1, fr2, rfl⟩ := iI_of a4
  obtain ⟨z, z1, z2, rfl⟩ := iI_of a5
  obtain ⟨sz, s1, s2, s3, s4, s5⟩ := id hT
  have ct : f_X10_canTell (iI z) 60 M = if 1 ≤ z ∧ z ≤ 60 ∧ z ≤ sz then 1 else 0 := canTell_eq (mx := 60) s3 s1 s2 z1 z2 (by omega) (by omega)
  by_cases hc : 0 ≤ c ∧ c ≤ 7
  · obtain ⟨c, rfl⟩ : ∃ n : Nat, c = n := ⟨c.toNat, by omega⟩
    have hc8 : c < 8 := by omega
    have r1 : f_X12_in (iI c) 0 7 = 1 := in01 (m := 7) hc.1 hc.2 (by omega)
    by_cases hxy : (0 ≤ x ∧ x < 16) ∧ 0 ≤ y ∧ y < 12
    · by_cases hf : 0 ≤ fr ∧ fr ≤ 9999
      · have w1 : f_X11_isWithin (iI fr) 9999 = 1 := isWithin_1 (m := 9999) hf.1 hf.2 (by omega)
        have w2 : f_X12_in (iI fr) 0 9999 = 1 := in01 (m := 9999) hf.1 hf.2 (by omega)
        by_cases hz : 1 ≤ z ∧ z ≤ 60 ∧ z ≤ sz
        · obtain ⟨n, rfl⟩ : ∃ n : Nat, z = n := ⟨z.toNat, by omega⟩
          obtain ⟨p0, hp0⟩ : ∃ p : Nat, 16 * y + x = p := ⟨(16 * y + x).toNat, by omega⟩
          have hp192 : p0 < 192 := by omega
          obtain ⟨tb, t1, t2⟩ := tb_of hT
          rw [if_pos hz] at ct
          obtain ⟨A', B0, a1, a2, -, -, a5⟩ := line_run (v1 := iI c) (v2 := iI x) (v3 := iI y) (v4 := iI fr) (n := n) hN (by omega) (by omega) t1 M (t2 M rfl)
          have hr0 : ∀ M1 : HMem, M1 74 12 = iI sz → f_X12_line N (iI c) (iI x) (iI y) (iI fr) (iI n) M1 = hb2 (f_X12_readsStep N (hset (hset (f_X12_beginsText (iI n) M1) 74 39 0) 74 40 0)) (fun x102 M103 => f_X12_line_L74 N (iI c) (iI x) (iI y) (iI fr) N x102 M103) := fun M1 h => by
            rw [f_X12_line, r1, if_neg i10, isPlace2_eq x1 x2 y1 y2, if_pos hxy, if_neg i10, w2, if_neg i10, show f_X12_in (iI n) 1 60 = 1 from in_1 (a := 1) (m := 60) hz.1 hz.2.1 (by omega) (by omega), if_neg i10, h, if_pos (le_i hz.2.2 (by omega) (by omega)), hb1_some]
          have hr1 : f_X11_line N (iI c) (iI x) (iI y) (iI fr) (iI n) M = if f_X10_isSound (f_X10_empty A') = 0 then some (f_X10_faultAnswer (f_X10_empty A'), f_X10_empty A') else hb1 (f_X1_lay N (50 + 3 * c) (iI p0) (iI fr) (f_X10_empty A')) (fun M104 => some (M104 (50 + 3 * c) 4, M104)) := by
            rw [f_X11_line, courseOf_in hc8, hb1_some]
            dsimp only
            rw [onLand_eq x1 x2 y1 y2, if_pos hxy, if_neg i10, w1, if_neg i10, ct, if_neg i10, a1, hb1_some, placeOf_eq, hp0]
          have e0 : ∀ k, k ≠ 1 → f_X10_empty A' k = A' k := fun k hk => hset_nek _ _ _ hk
          by_cases hff : A' 1 4 = 0
          · -- it is laid
            rcases a5 with ⟨m, m1, m2, m3, -⟩ | ⟨u1, -⟩
            · have hm := m3.1
              obtain ⟨E1, hE1⟩ : ∃ E1, E1 = hset (hset (hset (f_X10_empty A') (50 + 3 * c) 2 1) (50 + 3 * c) 3 (iI fr)) (50 + 3 * c) 4 (iI m) := ⟨_, rfl⟩
              have ek : ∀ k, k ≠ 50 + 3 * c → E1 k = f_X10_empty A' k := fun k a => by rw [hE1, hset_nek _ _ _ a, hset_nek _ _ _ a, hset_nek _ _ _ a]
              have e2 : E1 (50 + 3 * c) 2 = 1 := by rw [hE1, hset_nej _ _ (by decide), hset_nej _ _ (by decide), hset_self]
              have e3 : E1 (50 + 3 * c) 3 = iI fr := by rw [hE1, hset_nej _ _ (by decide), hset_self]
              have e4 : E1 (50 + 3 * c) 4 = iI m := by rw [hE1, hset_self]
              have e9 : E1 9 = A' 9 := by rw [ek 9 (by omega), e0 9 (by decide)]
              obtain ⟨gs, gp, l1, l2, l3⟩ := lay_L (A := E1) (N := N) (o := 50 + 3 * c) (m := m) (p0 := p0) (s := stF A') (by omega) hm hp192 (fun j hj => by rw [e9]; exact ⟨(m3.st3 hj).1, (m3.st3 hj).2.1⟩) e4 N 0 (E1 (50 + 3 * c + 1)) (upd (E1 (50 + 3 * c + 2)) 0 (iI p0)) (by omega) (by omega) (fun j h => absurd h (by omega)) (fun j h => by rw [show j = 0 by omega, upd_self]; rfl)
              obtain ⟨M1, hM1⟩ : ∃ M1, M1 = hput (hput E1 (50 + 3 * c + 1) gs) (50 + 3 * c + 2) gp := ⟨_, rfl⟩
              have hlay : f_X1_lay N (50 + 3 * c) (iI p0) (iI fr) (f_X10_empty A') = some M1 := by
                have h8 : hset (hset (f_X10_empty A') (50 + 3 * c) 2 1) (50 + 3 * c) 3 (iI fr) 8 2 = iI m := by
                  rw [hset_nek _ _ _ (by omega), hset_nek _ _ _ (by omega), e0 8 (by decide)]; exact m3.2.1
                rw [f_X1_lay, h8, show hmin (iI (m : Int)) 96 = iI (m : Int) from (hmin_eq (b := 96) (by omega) (by omega) (by omega) (by omega)).trans (by congr 1; omega), ← hE1, hM1, ← l3]
                show f_X1_lay_L39 N (50 + 3 * c) N (iI p0) 0 (hput E1 (50 + 3 * c + 2) (upd (E1 (50 + 3 * c + 2)) 0 (iI p0))) = _
                rw [hput_eta E1 (50 + 3 * c + 1)]
                rfl
              have mk : ∀ k, k ≠ 50 + 3 * c → k ≠ 51 + 3 * c → k ≠ 52 + 3 * c → M1 k = f_X10_empty A' k := fun k a b d => by
                rw [hM1, hput_ne _ _ (by omega), hput_ne _ _ (by omega), ek k a]
              have mo : M1 (50 + 3 * c) = E1 (50 + 3 * c) := by rw [hM1, hput_ne _ _ (by omega), hput_ne _ _ (by omega)]
              have mo1 : M1 (51 + 3 * c) = gs := by rw [hM1, show 51 + 3 * c = 50 + 3 * c + 1 by omega, hput_ne _ _ (by omega), hput_self]
              have mo2 : M1 (52 + 3 * c) = gp := by rw [hM1, show 52 + 3 * c = 50 + 3 * c + 2 by omega, hput_self]
              have mM : ∀ k, k ≠ 50 + 3 * c → k ≠ 51 + 3 * c → k ≠ 52 + 3 * c → k ≠ 1 → k ≠ 8 → k ≠ 9 → M1 k = M k := fun k a b d e f g => by
                rw [mk k a b d, e0 k e, a2 k e f g]
              have m84 : M1 84 = M 84 := mM 84 (by omega) (by omega) (by omega) (by decide) (by decide) (by decide)
              have m74 : M1 74 = M 74 := mM 74 (by omega) (by omega) (by omega) (by decide) (by decide) (by decide)
              obtain ⟨A2, B', b1, b2, b3, b4, b5⟩ := line_run (v1 := iI c) (v2 := iI x) (v3 := iI y) (v4 := iI fr) (n := n) hN (by omega) (by omega) t1 M1 (t2 M1 m84)
              rw [a1] at b1
              injection b1 with b1
              subst b1
              rcases b5 with ⟨m', u1, u2, u3, u4⟩ | ⟨u1, -⟩
              · have em : m' = m := by
                  have := u3.2.1
                  rw [m3.2.1, iI_eq (by omega) (by omega) (by have := u3.1; omega) (by have := u3.1; omega)] at this
                  omega
                subst em
                obtain ⟨B2, hB2⟩ : ∃ B2, B2 = hset (hset (hset B' 74 12 0) 78 c (iI m')) 79 c (iI fr) := ⟨_, rfl⟩
                have k98 : B2 98 = B' 98 := by rw [hB2, hset_nek _ _ _ (by decide), hset_nek _ _ _ (by decide), hset_nek _ _ _ (by decide)]
                have k74 : B2 74 = hset B' 74 12 0 74 := by rw [hB2, hset_nek _ _ _ (by decide), hset_nek _ _ _ (by decide)]
                have kk : ∀ k, k ≠ 74 → k ≠ 78 → k ≠ 79 → B2 k = B' k := fun k a b d => by rw [hB2, hset_nek _ _ _ d, hset_nek _ _ _ b, hset_nek _ _ _ a]
                have k39 : B2 74 39 = iI m' := by rw [k74, hset_nej _ _ (by decide)]; exact u3.2.2.1
                obtain ⟨hs, hq, q1, q2, q3, q4, q5⟩ := layR_L (B := B2) (N := N) (c := c) (m := m') (p0 := p0) (s := stF A') hc8 hm hp192 (fun j hj => by rw [k98]; exact ⟨(u3.st3 hj).1, (u3.st3 hj).2.2⟩) k39 N 0 (B2 80) (upd (B2 81) (97 * c) (iI p0)) (by omega) (by omega) (fun j h => absurd h (by omega)) (fun j h => by rw [show j = 0 by omega, Nat.add_zero, upd_self]; rfl) (fun j _ => rfl) (fun j hj => upd_ne _ _ (by omega))
                obtain ⟨M2, hM2⟩ : ∃ M2, M2 = hput (hput B2 80 hs) 81 hq := ⟨_, rfl⟩
                have n1 : ∀ k, k ≠ 80 → k ≠ 81 → M2 k = B2 k := fun k a b => by rw [hM2, hput_ne _ _ b, hput_ne _ _ a]
                have nM : ∀ k, k ≠ 74 → k ≠ 78 → k ≠ 79 → k ≠ 80 → k ≠ 81 → k ≠ 98 → k ≠ 99 → k ≠ 100 → k ≠ 101 → M2 k = M1 k := fun k a b d e f g h i j => by
                  rw [n1 k e f, kk k a b d, b3 k a g h i j]
                have n80 : M2 80 = hs := by rw [hM2, hput_ne _ _ (by decide), hput_self]
                have n81 : M2 81 = hq := by rw [hM2, hput_self]
                have n74 : M2 74 = hset B' 74 12 0 74 := by rw [n1 74 (by decide) (by decide), k74]
                have n78 : M2 78 = upd (M1 78) c (iI m') := by
                  rw [n1 78 (by decide) (by decide), hB2, hset_nek _ _ _ (by decide), hset, hput_self, hset_nek _ _ _ (by decide), b3 78 (by decide) (by decide) (by decide) (by decide) (by decide)]
                have n79 : M2 79 = upd (M1 79) c (iI fr) := by
                  rw [n1 79 (by decide) (by decide), hB2, hset, hput_self, hset_nek _ _ _ (by decide), hset_nek _ _ _ (by decide), b3 79 (by decide) (by decide) (by decide) (by decide) (by decide)]
                have b80 : B2 80 = M1 80 := by rw [kk 80 (by decide) (by decide) (by decide), b3 80 (by decide) (by decide) (by decide) (by decide) (by decide)]
                have b81 : B2 81 = M1 81 := by rw [kk 81 (by decide) (by decide) (by decide), b3 81 (by decide) (by decide) (by decide) (by decide) (by decide)]
                have lo : ∀ i, 50 ≤ i → i < 74 → M2 i = M1 i := fun i h1 h2 => nM i (by omega) (by omega) (by omega) (by omega) (by omega) (by omega) (by omega) (by omega) (by omega)
                refine ⟨iI m', M1, M2, ?_, ?_, ?_, ?_, ?_⟩
                · rw [hr1, show f_X10_isSound (f_X10_empty A') = 1 by rw [f_X10_isSound, f_X10_empty, hset_nej _ _ (by decide), if_pos hff], if_neg i10, hlay, hb1_some, mo, e4]
                · have h97 : (97 : Int32) * iI c = iI ((97 * c : Nat) : Int) := by rw [q97, iI_mul]; rfl
                  rw [hr0 M1 (by rw [m74]; exact s4), u4, f_X12_line_J106, if_neg i10, hib_t (z := (c : Int)) (by omega) (by omega) (by omega), if_pos rfl, if_pos rfl, h97, hib_t (z := ((97 * c : Nat) : Int)) (by omega) (by omega) (by omega), if_pos rfl, iI_natc (k := c) (by omega), iI_natc (k := 97 * c) (by omega), hset_nej _ _ (show 39 ≠ 12 by decide), u3.2.2.1, ← hB2, q16, iI_mul, iI_add, hp0, hM2, ← q5]
                  show f_X12_line_L157 N (iI c) N 0 (hput B2 81 (upd (B2 81) (97 * c) (iI p0))) = _
                  rw [hput_eta B2 80]
                  rfl
                · refine hT.ends ?_ ?_ ?_ ?_
                  · rw [nM 1 (by decide) (by decide) (by decide) (by decide) (by decide) (by decide) (by decide) (by decide) (by decide), mk 1 (by omega) (by omega) (by omega)]; exact hset_self _ _ _ _
                  · rw [n74, hset_self]
                  · rw [nM 2 (by decide) (by decide) (by decide) (by decide) (by decide) (by decide) (by decide) (by decide) (by decide), mM 2 (by omega) (by omega) (by omega) (by decide) (by decide) (by decide)]
                  · rw [nM 84 (by decide) (by decide) (by decide) (by decide) (by decide) (by decide) (by decide) (by decide) (by decide), m84]
                · intro c' hc'
                  by_cases ec : c' = c
                  · subst ec
                    right
                    refine ⟨by rw [lo _ (by omega) (by omega), mo, e2], fr, m', hc8, by omega, by omega, hf.1, hf.2, by rw [lo _ (by omega) (by omega), mo, e3], by rw [lo _ (by omega) (by omega), mo, e4], by rw [n78, upd_self], by rw [n79, upd_self], fun k hk => ?_, fun k hk => ?_⟩
                    · have hb := pq_b (s := stF A') hp192 k (fun j hj => (m3.st3 (show j < m' by omega)).1)
                      have h52 : M2 (52 + 3 * c') k = iI (pq p0 (stF A') k : Nat) := by rw [lo _ (by omega) (by omega), mo2, l2 k (by omega)]
                      have hpl : pl M2 c' k = pq p0 (stF A') k := by rw [pl, h52, iI_natc (by omega)]
                      rw [hpl, h52, n81, q2 k (by omega)]
                      exact ⟨hb, rfl, rfl⟩
                    · refine ⟨stF A' k, (m3.st3 (show k < m' by omega)).1, ?_, ?_⟩
                      · rw [lo _ (by omega) (by omega), mo1, l1 k (by omega)]
                      · rw [n80, q1 k (by omega)]
                  · have l0 : ∀ i, i < 3 → M2 (50 + i + 3 * c') = M (50 + i + 3 * c') := fun i hi => by
                      rw [lo _ (by omega) (by omega), mM _ (by omega) (by omega) (by omega) (by omega) (by omega) (by omega)]
                    have g78 : M2 78 c' = M 78 c' := by rw [n78, upd_ne _ _ ec, mM 78 (by omega) (by omega) (by omega) (by decide) (by decide) (by decide)]
                    have g79 : M2 79 c' = M 79 c' := by rw [n79, upd_ne _ _ ec, mM 79 (by omega) (by omega) (by omega) (by decide) (by decide) (by decide)]
                    have l00 := l0 0 (by omega)
                    rw [Nat.add_zero] at l00
                    rcases hL c' hc' with ⟨h1, h2⟩ | ⟨h1, fr', ln', h2⟩
                    · left; rw [l00, g78]; exact ⟨h1, h2⟩
                    · right
                      rw [l00]
                      refine ⟨h1, fr', ln', h2.cg1 l00 (l0 1 (by omega)) (l0 2 (by omega)) g78 g79 (fun k hk => ?_) (fun k hk => ?_)⟩
                      · rw [n80, q3 _ (by omega), b80, mM 80 (by omega) (by omega) (by omega) (by decide) (by decide) (by decide)]
                      · rw [n81, q4 _ (by omega), b81, mM 81 (by omega) (by omega) (by omega) (by decide) (by decide) (by decide)]
                · intro k j g0 g1 g3
                  by_cases e74 : k = 74
                  · subst e74
                    have j12 : j ≠ 12 := fun h => by subst h; exact g1 rfl
                    have jj : ∀ i, grp 74 i = 0 → j ≠ i := fun i hi h => by subst h; exact g0 hi
                    rw [n74, hset_nej _ _ j12, b4 j (jj 13 rfl) (jj 14 rfl) (jj 15 rfl) (jj 16 rfl) (jj 18 rfl) (jj 20 rfl) (jj 39 rfl) (jj 40 rfl) (jj 41 rfl) (jj 42 rfl), m74]
                  · have kx : ∀ i, (∀ j, grp i j = 0 ∨ grp i j = 1 ∨ grp i j = 3) → k ≠ i := fun i hi h => by
                      subst h
                      rcases hi j with h | h | h
                      · exact g0 h
                      · exact g1 h
                      · exact g3 h
                    have g1' : ∀ j, grp 1 j = 0 ∨ grp 1 j = 1 ∨ grp 1 j = 3 := fun j => by by_cases h : j = 1 <;> simp [grp, h]
                    have k3 : ∀ i, (49 < i ∧ i < 74) ∨ (77 < i ∧ i < 82) → k ≠ i := fun i hi => kx i (fun j => Or.inr (Or.inr (grp3 j hi)))
                    rw [nM k e74 (k3 78 (by omega)) (k3 79 (by omega)) (k3 80 (by omega)) (k3 81 (by omega)) (kx 98 (fun _ => Or.inl rfl)) (kx 99 (fun _ => Or.inl rfl)) (kx 100 (fun _ => Or.inl rfl)) (kx 101 (fun _ => Or.inl rfl)), mM k (k3 _ (by omega)) (k3 _ (by omega)) (k3 _ (by omega)) (kx 1 g1') (kx 8 (fun j => Or.inl rfl)) (kx 9 (fun _ => Or.inl rfl))]
              · exact absurd hff u1.dead
            · exact absurd hff u1.dead
          · -- a fault
            obtain ⟨M1, hM1⟩ : ∃ M1, M1 = f_X10_empty A' := ⟨_, rfl⟩
            have e0' : ∀ k, k ≠ 1 → M1 k = A' k := fun k hk => by rw [hM1]; exact e0 k hk
            have m84 : M1 84 = M 84 := by rw [e0' 84 (by decide), a2 84 (by decide) (by decide) (by decide)]
            have m74 : M1 74 = M 74 := by rw [e0' 74 (by decide), a2 74 (by decide) (by decide) (by decide)]
            obtain ⟨A2, B', b1, b2, b3, b4, b5⟩ := line_run (v1 := iI c) (v2 := iI x) (v3 := iI y) (v4 := iI fr) (n := n) hN (by omega) (by omega) t1 M1 (t2 M1 m84)
            rw [a1] at b1
            injection b1 with b1
            subst b1
            rcases b5 with ⟨t, u1, u2, u3, u4⟩ | ⟨u1, u2⟩
            · exact absurd u2 hff
            · obtain ⟨f1, f2⟩ := fa_eq u1
              have q1 : ∀ k, k ≠ 74 → k ≠ 98 → k ≠ 99 → k ≠ 100 → k ≠ 101 → hset B' 74 12 0 k = M1 k := fun k a d e f g => by rw [hset_nek _ _ _ a, b3 k a d e f g]
              have frm : othT 0 M (hset B' 74 12 0) := by
                intro k j g0 g1 _
                by_cases k74 : k = 74
                · subst k74
                  have j12 : j ≠ 12 := fun h => by subst h; exact g1 rfl
                  have jj : ∀ i, grp 74 i = 0 → j ≠ i := fun i hi h => by subst h; exact g0 hi
                  rw [hset_nej _ _ j12, b4 j (jj 13 rfl) (jj 14 rfl) (jj 15 rfl) (jj 16 rfl) (jj 18 rfl) (jj 20 rfl) (jj 39 rfl) (jj 40 rfl) (jj 41 rfl) (jj 42 rfl), m74]
                · have kx : ∀ i, (∀ j, grp i j = 0 ∨ grp i j = 1) → k ≠ i := fun i hi h => by
                    subst h
                    rcases hi j with h | h
                    · exact g0 h
                    · exact g1 h
                  have g1' : ∀ j, grp 1 j = 0 ∨ grp 1 j = 1 := fun j => by by_cases h : j = 1 <;> simp [grp, h]
                  rw [q1 k k74 (kx 98 (fun _ => Or.inl rfl)) (kx 99 (fun _ => Or.inl rfl)) (kx 100 (fun _ => Or.inl rfl)) (kx 101 (fun _ => Or.inl rfl)), e0' k (kx 1 g1'), a2 k (kx 1 g1') (kx 8 (fun j => Or.inl rfl)) (kx 9 (fun _ => Or.inl rfl))]
              refine ⟨B' 74 15, M1, hset B' 74 12 0, ?_, ?_, ?_, hL.congr (fun k j e => frm k j (by omega) (by omega) (by omega)), fun k j a b c => frm k j a b a⟩
              · rw [hr1, f1, if_pos rfl, f2, hM1]
              · rw [hr0 M1 (by rw [m74]; exact s4), u2, f_X12_line_J106, if_pos rfl, hset_nej _ _ (by decide)]
              · refine hT.ends ?_ ?_ ?_ ?_
                · rw [q1 1 (by decide) (by decide) (by decide) (by decide) (by decide), hM1]; exact hset_self _ _ _ _
                · rw [hset_self]
                · rw [q1 2 (by decide) (by decide) (by decide) (by decide) (by decide), e0' 2 (by decide), a2 2 (by decide) (by decide) (by decide)]
                · rw [q1 84 (by decide) (by decide) (by decide) (by decide) (by decide), m84]
        · rw [if_neg hz] at ct
          refine ⟨-1, M, M, ?_, ?_, hT, hL, fun _ _ _ _ _ => rfl⟩
          · rw [f_X11_line, courseOf_in hc8, hb1_some]
            dsimp only
            rw [onLand_eq x1 x2 y1 y2, if_pos hxy, if_neg i10, w1, if_neg i10, ct, if_pos rfl]
          · rw [f_X12_line, r1, if_neg i10, isPlace2_eq x1 x2 y1 y2, if_pos hxy, if_neg i10, w2, if_neg i10, show f_X12_in (iI z) 1 60 = _ from in_eq (a := 1) (m := 60) z1 z2 (by omega) (by omega) (by omega) (by omega), s4]
            by_cases h : 1 ≤ z ∧ z ≤ 60
            · rw [if_pos h, if_neg i10, if_neg (nl_i (by omega) (by omega) (by omega))]
            · rw [if_neg h, if_pos rfl]
      · refine ⟨-1, M, M, ?_, ?_, hT, hL, fun _ _ _ _ _ => rfl⟩
        · rw [f_X11_line, courseOf_in hc8, hb1_some]
          dsimp only
          rw [onLand_eq x1 x2 y1 y2, if_pos hxy, if_neg i10, show f_X11_isWithin (iI fr) 9999 = 0 from isWithin_0 (m := 9999) hf fr1 fr2 (by omega) (by omega), if_pos rfl]
        · rw [f_X12_line, r1, if_neg i10, isPlace2_eq x1 x2 y1 y2, if_pos hxy, if_neg i10, show f_X12_in (iI fr) 0 9999 = 0 from in00 (m := 9999) hf fr1 fr2 (by omega) (by omega), if_pos rfl]
    · refine ⟨-1, M, M, ?_, ?_, hT, hL, fun _ _ _ _ _ => rfl⟩
      · rw [f_X11_line, courseOf_in hc8, hb1_some]
        dsimp only
        rw [onLand_eq x1 x2 y1 y2, if_neg hxy, if_pos rfl]
      · rw [f_X12_line, r1, if_neg i10, isPlace2_eq x1 x2 y1 y2, if_neg hxy, if_pos rfl]
  · refine ⟨-1, M, M, ?_, ?_, hT, hL, fun _ _ _ _ _ => rfl⟩
    · rw [f_X11_line, courseOf_out hc c1 c2, hb1_some]
    · rw [f_X12_line, show f_X12_in (iI c) 0 7 = 0 from in00 (m := 7) hc c1 c2 (by omega) (by omega), if_pos rfl]

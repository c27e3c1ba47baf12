/-! a text begins and ends -/
def othT (G : Nat) (M M2 : HMem) : Prop := ∀ k j, grp k j ≠ 0 → grp k j ≠ 1 → grp k j ≠ G → M2 k j = M k j
theorem tb_of {M : HMem} (h : ITape M) : ∃ tb : Nat → Nat, cT tb M ∧ ∀ Mb : HMem, Mb 84 = M 84 → rT tb Mb := by
  obtain ⟨z, z1, z2, z3, z4, z5⟩ := h
  refine ⟨fun j => (M 84 j &&& 255).toNatClampNeg, fun j hj => ?_, fun Mb e j hj => ?_⟩
  · obtain ⟨b, b1, b2⟩ := byte_nat (M 84 j)
    dsimp only
    rw [z5 j hj, b2, iI_natc (by omega)]
    exact ⟨b1, rfl⟩
  · obtain ⟨b, b1, b2⟩ := byte_nat (M 84 j)
    dsimp only
    rw [e, b2, iI_natc (by omega)]
theorem canTell_eq {M : HMem} {z sz mx : Int} (h : M 1 1 = iI sz) (s0 : 0 ≤ sz) (s1 : sz ≤ 260) (z1 : -2147483648 ≤ z) (z2 : z < 2147483648) (m0 : 0 ≤ mx) (m1 : mx ≤ 1000) : f_X10_canTell (iI z) (iI mx) M = if 1 ≤ z ∧ z ≤ mx ∧ z ≤ sz then 1 else 0 := by
  rw [f_X10_canTell, f_X10_has, h, q1, q0]
  simp (disch := omega) only [iI_lt]
  grind [q0, q1]
theorem open_CP {tb : Nat → Nat} {M : HMem} (h : cT tb M) (n : Nat) (hn : n ≤ 260) : CP tb (f_X10_open (iI n) M) n 0 ∧ oc1 M (f_X10_open (iI n) M) := by
  refine ⟨⟨fun j hj => ?_, hn, by omega, ?_, ?_, ?_⟩, ?_⟩
  · rw [f_X10_open, hset_nek _ _ _ (by decide), hset_nek _ _ _ (by decide), hset_nek _ _ _ (by decide), hset_nek _ _ _ (by decide)]; exact h j hj
  · simp [f_X10_open, hset, hput, upd]
  · simp [f_X10_open, hset, hput, upd]; rfl
  · simp [f_X10_open, hset, hput, upd]
  · exact (((oc1_set _ _ _).trans (oc1_set _ _ _)).trans (oc1_set _ _ _)).trans (oc1_set _ _ _)
theorem begin_RP {tb : Nat → Nat} {M : HMem} (h : rT tb M) (n : Nat) (hn : n ≤ 260) : RP tb (f_X12_beginsText (iI n) M) n 0 := by
  refine ⟨fun j hj => ?_, hn, by omega, ?_, ?_⟩
  · rw [f_X12_beginsText, hset_nek _ _ _ (by decide), hset_nek _ _ _ (by decide), hset_nek _ _ _ (by decide), hset_nek _ _ _ (by decide)]; exact h j hj
  · simp [f_X12_beginsText, hset, hput, upd]
  · simp [f_X12_beginsText, hset, hput, upd]; rfl
theorem begin_o (v : Int32) (M : HMem) : (∀ k, k ≠ 74 → f_X12_beginsText v M k = M k) ∧ ∀ j, j ≠ 13 → j ≠ 14 → j ≠ 18 → j ≠ 20 → f_X12_beginsText v M 74 j = M 74 j := by
  refine ⟨fun k hk => ?_, fun j a b c d => ?_⟩
  · rw [f_X12_beginsText, hset_nek _ _ _ hk, hset_nek _ _ _ hk, hset_nek _ _ _ hk, hset_nek _ _ _ hk]
  · rw [f_X12_beginsText, hset_nej _ _ d, hset_nej _ _ c, hset_nej _ _ b, hset_nej _ _ a]
theorem fa_eq {A B : HMem} (h : FT A B) : f_X10_isSound (f_X10_empty A) = 0 ∧ f_X10_faultAnswer (f_X10_empty A) = B 74 15 := by
  have hd := h.dead
  obtain ⟨k, w, k1, k2, w1, w2, h1, h2, h3⟩ := h
  constructor
  · rw [f_X10_isSound, f_X10_empty, hset_nej _ _ (by decide), if_neg hd]
  · rw [f_X10_faultAnswer, f_X10_empty, hset_nej _ _ (by decide), hset_nej _ _ (by decide), h1, h2, h3, show (-1000 : Int32) = iI (-1000) from rfl, iI_mul, iI_sub]
theorem ITape.ends {M M2 : HMem} (h : ITape M) (e1 : M2 1 1 = 0) (e2 : M2 74 12 = 0) (e3 : M2 2 = M 2) (e4 : M2 84 = M 84) : ITape M2 := by
  obtain ⟨z, z1, z2, z3, z4, z5⟩ := h
  exact ⟨0, by omega, by omega, e1, e2, fun j hj => by rw [e3, e4]; exact z5 j hj⟩
theorem land_run {M : HMem} {tb : Nat → Nat} {n N : Nat} (hN : 300 ≤ N) (hn : n ≤ 160) (hc : cT tb M) : ∀ Mb : HMem, rT tb Mb → ∃ A' B' : HMem, f_X4_read N (f_X10_open (iI n) M) = some A' ∧ ocL M A' ∧ (∀ k, k ≠ 74 → k ≠ 102 → k ≠ 103 → B' k = Mb k) ∧ (∀ j, j ≠ 13 → j ≠ 14 → j ≠ 15 → j ≠ 16 → j ≠ 18 → j ≠ 20 → j ≠ 45 → B' 74 j = Mb 74 j) ∧ ((∃ t', 1 ≤ t' ∧ A' 1 4 = 0 ∧ LR A' B' t' ∧ f_X12_land_L33 N N 0 (hset (f_X12_beginsText (iI n) Mb) 74 45 0) = f_X12_land_J105 N 1 B') ∨ (FT A' B' ∧ f_X12_land_L33 N N 0 (hset (f_X12_beginsText (iI n) Mb) 74 45 0) = f_X12_land_J105 N 0 B')) := by
  intro Mb hr
  obtain ⟨o1, o2⟩ := open_CP hc n (by omega)
  have b1 := begin_RP hr n (by omega)
  obtain ⟨b2, b3⟩ := begin_o (iI n) Mb
  have hB0 : RP tb (hset (f_X12_beginsText (iI n) Mb) 74 45 0) n 0 := b1.cg (hset_nek _ _ _ (by decide)) (hset_nej _ _ (by decide)) (hset_nej _ _ (by decide))
  obtain ⟨gk, gp, c1, c2, c3⟩ := clr_L (N := N) (hset (f_X12_beginsText (iI n) Mb) 74 45 0) N 0 (hset (f_X12_beginsText (iI n) Mb) 74 45 0 102) (hset (f_X12_beginsText (iI n) Mb) 74 45 0 103) (by omega) (by omega) (fun p h => absurd h (by omega)) (fun p h => absurd h (by omega))
  rw [hput_eta, hput_eta] at c3
  have c3' : f_X12_land_L33 N N 0 (hset (f_X12_beginsText (iI n) Mb) 74 45 0) = hb2 (f_X12_readsGround N (hput (hput (hset (f_X12_beginsText (iI n) Mb) 74 45 0) 102 gk) 103 gp)) (fun x M => f_X12_land_L65 N N x M) := c3
  obtain ⟨B1, hB1⟩ : ∃ B1, B1 = hput (hput (hset (f_X12_beginsText (iI n) Mb) 74 45 0) 102 gk) 103 gp := ⟨_, rfl⟩
  rw [← hB1] at c3'
  have e1 : ∀ k, k ≠ 102 → k ≠ 103 → B1 k = hset (f_X12_beginsText (iI n) Mb) 74 45 0 k := fun k a b => by rw [hB1, hput_ne _ _ b, hput_ne _ _ a]
  have hB : RP tb B1 n 0 := hB0.cg (e1 84 (by decide) (by decide)) (by rw [e1 74 (by decide) (by decide)]) (by rw [e1 74 (by decide) (by decide)])
  let A0 := f_X10_open (iI n) M
  obtain ⟨A1, hA1⟩ : ∃ A1, A1 = hset (hput (hput A0 12 (fun j => if j < 192 then 0 else A0 12 j)) 13 (fun j => if j < 192 then 0 else hput A0 12 (fun j => if j < 192 then 0 else A0 12 j) 13 j)) 11 2 0 := ⟨_, rfl⟩
  have cl : f_X3_clear N 11 A0 = some A1 := by
    rw [f_X3_clear, fill_eq (by omega) (by omega), hb1_some, fill_eq (by omega) (by omega), hb1_some, hA1]
  have e2 : ∀ k, k ≠ 11 → k ≠ 12 → k ≠ 13 → A1 k = A0 k := fun k a b c => by rw [hA1, hset_nek _ _ _ a, hput_ne _ _ c, hput_ne _ _ b]
  have hA : CP tb A1 n 0 := o1.cg (e2 2 (by decide) (by decide) (by decide)) (e2 1 (by decide) (by decide) (by decide))
  have hR : LR A1 B1 0 := by
    refine ⟨by omega, by rw [hA1, hset_self]; rfl, by rw [e1 74 (by decide) (by decide), hset_self]; rfl, fun p hp => ⟨0, 0, by omega, by omega, fun _ => rfl, ?_, ?_, ?_, ?_⟩⟩
    · rw [hA1, hset_nek _ _ _ (by decide), hput_ne _ _ (by decide), hput_self, if_pos hp]; rfl
    · rw [hB1, hput_ne _ _ (by decide), hput_self, c1 p hp]; rfl
    · rw [hA1, hset_nek _ _ _ (by decide), hput_self, if_pos hp]; rfl
    · rw [hB1, hput_self, c2 p hp]; rfl
  obtain ⟨A', B', g1, g2, g3, g4⟩ := land_L (N := N) hN N 0 0 A1 B1 hA hB hR (by omega)
  refine ⟨A', B', ?_, fun k a b c d => ?_, fun k a b c => ?_, fun j a a2 b c d d2 e => ?_, ?_⟩
  · rw [f_X4_read, cl, hb1_some]; exact g1
  · rw [g2 k a b c d, e2 k b c d]; exact o2 k a
  · rw [g3.1 k a b c, e1 k b c, hset_nek _ _ _ a, b2 k a]
  · rw [g3.2 j a b c e, e1 74 (by decide) (by decide), hset_nej _ _ e, b3 j a a2 d d2]
  · rw [c3']; exact g4
theorem op_land (v : Int32) {N : Nat} (hN : 300 ≤ N) {M : HMem} (hT : ITape M) (hD : ILand M) : ∃ r M1 M2, f_X11_land N v M = some (r, M1) ∧ f_X12_land N v M1 = some (r, M2) ∧ ITape M2 ∧ ILand M2 ∧ othT 4 M M2 := by
  obtain ⟨z, z1, z2, rfl⟩ := iI_of v
  obtain ⟨sz, s1, s2, s3, s4, s5⟩ := id hT
  have ct := canTell_eq (mx := 160) s3 s1 s2 z1 z2 (by omega) (by omega)
  have ct' : f_X10_canTell (iI z) 160 M = if 1 ≤ z ∧ z ≤ 160 ∧ z ≤ sz then 1 else 0 := ct
  by_cases hz : 1 ≤ z ∧ z ≤ 160 ∧ z ≤ sz
  · obtain ⟨n, rfl⟩ : ∃ n : Nat, z = n := ⟨z.toNat, by omega⟩
    obtain ⟨tb, t1, t2⟩ := tb_of hT
    obtain ⟨A', -, a1, a2, -, -, a5⟩ := land_run (n := n) hN (by omega) t1 M (t2 M rfl)
    rw [if_pos hz] at ct'
    have hr0 : ∀ M1 : HMem, M1 74 12 = iI sz → f_X12_land N (iI n) M1 = f_X12_land_L33 N N 0 (hset (f_X12_beginsText (iI n) M1) 74 45 0) := fun M1 h => by
      rw [f_X12_land, show f_X12_in (iI n) 1 160 = 1 from in_1 (a := 1) (m := 160) hz.1 hz.2.1 (by omega) (by omega), if_neg i10, h, if_pos (le_i hz.2.2 (by omega) (by omega))]
    by_cases hf : A' 1 4 = 0
    · -- it stands
      obtain ⟨M1, hM1⟩ : ∃ M1, M1 = f_X3_copyFrom 5 11 (f_X10_empty A') := ⟨_, rfl⟩
      have e0 : ∀ k, k ≠ 1 → f_X10_empty A' k = A' k := fun k hk => hset_nek _ _ _ hk
      have m1 : ∀ k, k ≠ 5 → k ≠ 6 → k ≠ 7 → M1 k = f_X10_empty A' k := fun k a b c => by
        rw [hM1, f_X3_copyFrom, hset_nek _ _ _ a, hcpy, hput_ne _ _ c, hcpy, hput_ne _ _ b]
      have m52 : M1 5 2 = A' 11 2 := by
        rw [hM1, f_X3_copyFrom, hset_self, hcpy, hput_ne _ _ (by decide), hcpy, hput_ne _ _ (by decide), e0 11 (by decide)]
      have m6 : ∀ p, p < 192 → M1 6 p = A' 12 p := fun p hp => by
        rw [hM1, f_X3_copyFrom, hset_nek _ _ _ (by decide), hcpy, hput_ne _ _ (by decide), hcpy, hput_self, va_cpy, if_pos (by omega), e0 12 (by decide)]
        congr 1; omega
      have m7 : ∀ p, p < 192 → M1 7 p = A' 13 p := fun p hp => by
        rw [hM1, f_X3_copyFrom, hset_nek _ _ _ (by decide), hcpy, hput_self, va_cpy, if_pos (by omega), hcpy, hput_ne _ _ (by decide), e0 13 (by decide)]
        congr 1; omega
      have m84 : M1 84 = M 84 := by rw [m1 84 (by decide) (by decide) (by decide), e0 84 (by decide), a2 84 (by decide) (by decide) (by decide) (by decide)]
      have m74 : M1 74 = M 74 := by rw [m1 74 (by decide) (by decide) (by decide), e0 74 (by decide), a2 74 (by decide) (by decide) (by decide) (by decide)]
      obtain ⟨A2, B', b1, b2, b3, b4, b5⟩ := land_run (n := n) hN (by omega) t1 M1 (t2 M1 m84)
      rw [a1] at b1
      injection b1 with b1
      subst b1
      rcases b5 with ⟨t, u1, u2, u3, u4⟩ | ⟨u1, -⟩
      · obtain ⟨w1, w2, w3, w4⟩ := u3
        obtain ⟨gk, gp, y1, y2, y3⟩ := cpy_L (N := N) (hset (hset B' 74 12 0) 74 10 (iI t)) N 0 (hset (hset B' 74 12 0) 74 10 (iI t) 82) (hset (hset B' 74 12 0) 74 10 (iI t) 83) (by omega) (by omega) (fun p h => absurd h (by omega)) (fun p h => absurd h (by omega))
        rw [hput_eta, hput_eta, hset_nej _ _ (by decide), hset_nej _ _ (by decide), w3] at y3
        obtain ⟨M2, hM2⟩ : ∃ M2, M2 = hput (hput (hset (hset B' 74 12 0) 74 10 (iI t)) 82 gk) 83 gp := ⟨_, rfl⟩
        rw [← hM2] at y3
        have n1 : ∀ k, k ≠ 74 → k ≠ 82 → k ≠ 83 → M2 k = B' k := fun k a b c => by rw [hM2, hput_ne _ _ c, hput_ne _ _ b, hset_nek _ _ _ a, hset_nek _ _ _ a]
        have n74 : M2 74 = hset (hset B' 74 12 0) 74 10 (iI t) 74 := by rw [hM2, hput_ne _ _ (by decide), hput_ne _ _ (by decide)]
        have n82 : ∀ p, p < 192 → M2 82 p = B' 102 p := fun p hp => by
          rw [hM2, hput_ne _ _ (by decide), hput_self, y1 p hp, hset_nek _ _ _ (by decide), hset_nek _ _ _ (by decide)]
        have n83 : ∀ p, p < 192 → M2 83 p = B' 103 p := fun p hp => by
          rw [hM2, hput_self, y2 p hp, hset_nek _ _ _ (by decide), hset_nek _ _ _ (by decide)]
        have q1 : ∀ k, k ≠ 74 → k ≠ 82 → k ≠ 83 → k ≠ 102 → k ≠ 103 → M2 k = M1 k := fun k a b c d e => by rw [n1 k a b c, b3 k a d e]
        refine ⟨iI t, M1, M2, ?_, ?_, ?_, ?_, ?_⟩
        · rw [f_X11_land, ct', if_neg i10, a1, hb1_some, show f_X10_isSound (f_X10_empty A') = 1 by rw [f_X10_isSound, f_X10_empty, hset_nej _ _ (by decide), if_pos hf], if_neg i10, ← hM1, m52, w2]
        · rw [hr0 M1 (by rw [m74]; exact s4), u4, f_X12_land_J105, if_neg i10, show hset B' 74 12 0 74 45 = iI t by rw [hset_nej _ _ (by decide)]; exact w3]
          exact y3
        · refine hT.ends ?_ ?_ ?_ ?_
          · rw [q1 1 (by decide) (by decide) (by decide) (by decide) (by decide), m1 1 (by decide) (by decide) (by decide)]; exact hset_self _ _ _ _
          · rw [n74, hset_nej _ _ (by decide), hset_self]
          · rw [q1 2 (by decide) (by decide) (by decide) (by decide) (by decide), m1 2 (by decide) (by decide) (by decide), e0 2 (by decide), a2 2 (by decide) (by decide) (by decide) (by decide)]
          · rw [q1 84 (by decide) (by decide) (by decide) (by decide) (by decide), m84]
        · refine ⟨⟨t, by omega, by omega, ?_, ?_⟩, fun p hp => ?_⟩
          · rw [q1 5 (by decide) (by decide) (by decide) (by decide) (by decide), m52, w2]
          · rw [n74, hset_self]
          · obtain ⟨a, b, x1, x2, x3, x4, x5, x6, x7⟩ := w4 p hp
            have g6 : M2 6 p = iI a := by rw [q1 6 (by decide) (by decide) (by decide) (by decide) (by decide), m6 p hp, x4]
            have g7 : M2 7 p = iI b := by rw [q1 7 (by decide) (by decide) (by decide) (by decide) (by decide), m7 p hp, x6]
            have ek : kd M2 p = a := by rw [kd, g6, iI_natc (by omega)]
            have ep : pe M2 p = b := by rw [pe, g7, iI_natc (by omega)]
            rw [ek, ep, n82 p hp, n83 p hp]
            exact ⟨x1, x2, x3, g6, x5, g7, x7⟩
        · intro k j g0 g1 g4
          by_cases k74 : k = 74
          · subst k74
            have j10 : j ≠ 10 := fun h => by subst h; exact g4 rfl
            have j12 : j ≠ 12 := fun h => by subst h; exact g1 rfl
            have jj : ∀ i, grp 74 i = 0 → j ≠ i := fun i hi h => by subst h; exact g0 hi
            rw [n74, hset_nej _ _ j10, hset_nej _ _ j12, b4 j (jj 13 rfl) (jj 14 rfl) (jj 15 rfl) (jj 16 rfl) (jj 18 rfl) (jj 20 rfl) (jj 45 rfl), m74]
          · have kk : ∀ i, (∀ j, grp i j = 0 ∨ grp i j = 1 ∨ grp i j = 4) → k ≠ i := fun i hi h => by
              subst h
              rcases hi j with h | h | h
              · exact g0 h
              · exact g1 h
              · exact g4 h
            have g5 : ∀ j, grp 5 j = 0 ∨ grp 5 j = 1 ∨ grp 5 j = 4 := fun j => by by_cases h : j = 2 <;> simp [grp, h]
            have g1' : ∀ j, grp 1 j = 0 ∨ grp 1 j = 1 ∨ grp 1 j = 4 := fun j => by by_cases h : j = 1 <;> simp [grp, h]
            rw [q1 k k74 (kk 82 (fun _ => Or.inr (Or.inr rfl))) (kk 83 (fun _ => Or.inr (Or.inr rfl))) (kk 102 (fun _ => Or.inl rfl)) (kk 103 (fun _ => Or.inl rfl)), m1 k (kk 5 g5) (kk 6 (fun _ => Or.inr (Or.inr rfl))) (kk 7 (fun _ => Or.inr (Or.inr rfl))), e0 k (kk 1 g1'), a2 k (kk 1 g1') (kk 11 (fun _ => Or.inl rfl)) (kk 12 (fun _ => Or.inl rfl)) (kk 13 (fun _ => Or.inl rfl))]
      · exact absurd hf u1.dead
    · -- a fault
      obtain ⟨M1, hM1⟩ : ∃ M1, M1 = f_X10_empty A' := ⟨_, rfl⟩
      have e0 : ∀ k, k ≠ 1 → M1 k = A' k := fun k hk => by rw [hM1]; exact hset_nek _ _ _ hk
      have m84 : M1 84 = M 84 := by rw [e0 84 (by decide), a2 84 (by decide) (by decide) (by decide) (by decide)]
      have m74 : M1 74 = M 74 := by rw [e0 74 (by decide), a2 74 (by decide) (by decide) (by decide) (by decide)]
      obtain ⟨A2, B', b1, b2, b3, b4, b5⟩ := land_run (n := n) hN (by omega) t1 M1 (t2 M1 m84)
      rw [a1] at b1
      injection b1 with b1
      subst b1
      rcases b5 with ⟨t, u1, u2, u3, u4⟩ | ⟨u1, u2⟩
      · exact absurd u2 hf
      · obtain ⟨f1, f2⟩ := fa_eq u1
        have n1 : ∀ k, k ≠ 74 → hset B' 74 12 0 k = B' k := fun k a => hset_nek _ _ _ a
        have q1 : ∀ k, k ≠ 74 → k ≠ 102 → k ≠ 103 → hset B' 74 12 0 k = M1 k := fun k a d e => by rw [n1 k a, b3 k a d e]
        have fr : othT 0 M (hset B' 74 12 0) := by
          intro k j g0 g1 _
          by_cases k74 : k = 74
          · subst k74
            have j12 : j ≠ 12 := fun h => by subst h; exact g1 rfl
            have jj : ∀ i, grp 74 i = 0 → j ≠ i := fun i hi h => by subst h; exact g0 hi
            rw [hset_nej _ _ j12, b4 j (jj 13 rfl) (jj 14 rfl) (jj 15 rfl) (jj 16 rfl) (jj 18 rfl) (jj 20 rfl) (jj 45 rfl), m74]
          · have kk : ∀ i, (∀ j, grp i j = 0 ∨ grp i j = 1) → k ≠ i := fun i hi h => by
              subst h
              rcases hi j with h | h
              · exact g0 h
              · exact g1 h
            have g1' : ∀ j, grp 1 j = 0 ∨ grp 1 j = 1 := fun j => by by_cases h : j = 1 <;> simp [grp, h]
            rw [q1 k k74 (kk 102 (fun _ => Or.inl rfl)) (kk 103 (fun _ => Or.inl rfl)), e0 k (kk 1 g1'), a2 k (kk 1 g1') (kk 11 (fun _ => Or.inl rfl)) (kk 12 (fun _ => Or.inl rfl)) (kk 13 (fun _ => Or.inl rfl))]
        refine ⟨B' 74 15, M1, hset B' 74 12 0, ?_, ?_, ?_, hD.congr (fun k j e => fr k j (by omega) (by omega) (by omega)), fun k j a b c => fr k j a b a⟩
        · rw [f_X11_land, ct', if_neg i10, a1, hb1_some, f1, if_pos rfl, f2, hM1]
        · rw [hr0 M1 (by rw [m74]; exact s4), u2, f_X12_land_J105, if_pos rfl, hset_nej _ _ (by decide)]
        · refine hT.ends ?_ ?_ ?_ ?_
          · rw [q1 1 (by decide) (by decide) (by decide), hM1]; exact hset_self _ _ _ _
          · rw [hset_self]
          · rw [q1 2 (by decide) (by decide) (by decide), e0 2 (by decide), a2 2 (by decide) (by decide) (by decide) (by decide)]
          · rw [q1 84 (by decide) (by decide) (by decide), m84]
  · rw [if_neg hz] at ct'
    refine ⟨-1, M, M, by rw [f_X11_land, ct', if_pos rfl], ?_, hT, hD, fun _ _ _ _ _ => rfl⟩
    rw [f_X12_land, show f_X12_in (iI z) 1 160 = _ from in_eq (a := 1) (m := 160) z1 z2 (by omega) (by omega) (by omega) (by omega), s4]
    by_cases h : 1 ≤ z ∧ z ≤ 160
    · rw [if_pos h, if_neg i10, if_neg (nl_i (by omega) (by omega) (by omega))]
    · rw [if_neg h, if_pos rfl]

/-! MOMENTS -/
theorem pass_L {M : HMem} {N o : Nat} (hN : 300 ≤ N) (ho : o = 35 ∨ o = 45) (hFd : IFade M) (hLs : ILines M) (hD : ILand M) (hW : ILaw M) : ∀ (n h k k' : Nat) (A B : HMem) (C : Int), h + n = 6 → n < k → n < k' → sta M A → sta M B → PQ o A B → A o 4 = iI C → 0 ≤ C → C < 9999 → ∃ A' B', f_X2_passMoment_L2 N o k (iI h) A = some A' ∧ f_X12_momentGoes_L2 N k' (iI h) B = some B' ∧ FA o A A' ∧ FR B B' ∧ PQ o A' B' ∧ A' o 4 = iI (C + 1) := by
  intro n
  induction n with
  | zero =>
    intro h k k' A B C hh hk hk' sA sB hQ hC c0 c1
    obtain ⟨k, rfl⟩ : ∃ q, k = q + 1 := ⟨k - 1, by omega⟩
    obtain ⟨k', rfl⟩ : ∃ q, k' = q + 1 := ⟨k' - 1, by omega⟩
    obtain rfl : h = 6 := by omega
    obtain ⟨⟨C', d0, d1, d2, d3⟩, hx, hp⟩ := id hQ
    obtain rfl : C' = C := (iI_eq (by omega) (by omega) (by omega) (by omega)).mp (d2.symm.trans hC)
    have eA : f_X2_passMoment_L2 N o (k + 1) (iI ((6 : Nat) : Int)) A = some (hset A o 4 (iI (C' + 1))) := by
      rw [f_X2_passMoment_L2, if_pos (by decide), hC, q1, iI_add]
    have eB : f_X12_momentGoes_L2 N (k' + 1) (iI ((6 : Nat) : Int)) B = some (hset B 75 30 (iI (C' + 1))) := by
      rw [f_X12_momentGoes_L2, if_pos (by decide), d3, q1, iI_add]
    refine ⟨_, _, eA, eB, FA_set _ _ _ (by omega), FR_set _ _ _ (by omega), ⟨⟨C' + 1, by omega, by omega, hset_self _ _ _ _, hset_self _ _ _ _⟩, ?_, fun i hi => ?_⟩, hset_self _ _ _ _⟩
    · obtain ⟨x, x1, x2, x3, x4⟩ := hx
      exact ⟨x, x1, x2, by rw [hset_nej _ _ (by decide)]; exact x3, by rw [hset_nej _ _ (by decide)]; exact x4⟩
    · exact (hp i hi).cg (fun j j1 j4 => by rw [hset_nek _ _ _ (by omega)]) (fun a ha => hset_nej _ _ (by omega))
  | succ n ih =>
    intro h k k' A B C hh hk hk' sA sB hQ hC c0 c1
    obtain ⟨k, rfl⟩ : ∃ q, k = q + 1 := ⟨k - 1, by omega⟩
    obtain ⟨k', rfl⟩ : ∃ q, k' = q + 1 := ⟨k' - 1, by omega⟩
    have h6 : h < 6 := by omega
    have x : ¬ (6 : Int32) ≤ iI (h : Int) := nl_i (a := 6) (by omega) (by omega) (by omega)
    obtain ⟨i1, i2⟩ := i18 h6 24 (by omega)
    have i1' : hib (24 + iI (h : Int)) 32 = true := i1
    have i2' : (24 + iI (h : Int)).toNatClampNeg = 24 + h := i2
    rw [f_X2_passMoment_L2, if_neg x, stateOf_in h6, hb1_some, f_X12_momentGoes_L2, if_neg x, iI_s]
    rcases hQ.2.2 h h6 with ⟨p1, p2⟩ | ⟨p1, -, -, -, ⟨q, qa, qb, Q3, Q4, -⟩⟩
    · rw [p2, if_neg (by decide), isHound_0 h6 p1, hb1_some, if_pos rfl]
      exact ih (h + 1) k k' A B C (by omega) (by omega) (by omega) sA sB hQ hC c0 c1
    · rw [isHound_1 h6 p1, hb1_some, if_neg i10, i1', if_pos rfl, i2', Q3, Q4]
      by_cases z : q = 0
      · subst z
        obtain ⟨A1, B1, g1, g2, g3, g4, g5, g6⟩ := turn_J hN ho h6 hFd hLs hD hW sA sB hQ Q3
        have z0 : iI 0 = 0 := rfl
        rw [if_pos z0, if_pos z0, g1, hb1_some, g2, hb1_some]
        obtain ⟨A', B', u1, u2, u3, u4, u5, u6⟩ := ih (h + 1) k k' A1 B1 C (by omega) (by omega) (by omega) (sA.trans (fun k j a b => g3.g ho k j (by omega) (by omega))) (sB.trans (fun k j a b => g4.g k j (by omega) (by omega))) g5 (g6.trans hC) c0 c1
        exact ⟨A', B', u1, u2, g3.trans u3, g4.trans u4, u5, u6⟩
      · have nz : ¬ iI q = 0 := ne_i (b := 0) z (by omega) (by omega) (by omega) (by omega)
        rw [if_neg nz, if_neg nz]
        exact ih (h + 1) k k' A B C (by omega) (by omega) (by omega) sA sB hQ hC c0 c1
theorem mom_J {M A B : HMem} {N o : Nat} {C : Int} (hN : 300 ≤ N) (ho : o = 35 ∨ o = 45) (hFd : IFade M) (hLs : ILines M) (hD : ILand M) (hW : ILaw M) (sA : sta M A) (sB : sta M B) (hQ : PQ o A B) (hC : A o 4 = iI C) (c0 : 0 ≤ C) (c1 : C < 9999) : ∃ A' B', f_X2_passMoment N o A = some A' ∧ f_X12_momentGoes N B = some B' ∧ FA o A A' ∧ FR B B' ∧ PQ o A' B' ∧ A' o 4 = iI (C + 1) := pass_L hN ho hFd hLs hD hW 6 0 N N A B C rfl (by omega) (by omega) sA sB hQ hC c0 c1
/-- moments go by: the class's loop as a function of what comes behind it -/
theorem moms_J {M : HMem} {N o : Nat} (hN : 300 ≤ N) (ho : o = 35 ∨ o = 45) (hFd : IFade M) (hLs : ILines M) (hD : ILand M) (hW : ILaw M) {n : Nat} (hn : n ≤ 100) (L : Nat → Int32 → HMem → Option (Int32 × HMem)) (E : HMem → Option (Int32 × HMem)) (hL : ∀ k v A, L (k + 1) v A = if iI (n : Int) ≤ v then E A else if 9999 ≤ A o 4 then E A else hb1 (f_X2_passMoment N o A) (fun A1 => L k (v + 1) A1)) : ∀ (k k' i : Nat) (A B : HMem), i ≤ n → n - i < k → n - i < k' → sta M A → sta M B → PQ o A B → ∃ A' B', L k (iI i) A = E A' ∧ f_X12_momentsGo_L2 N (iI n) k' (iI i) B = some B' ∧ FA o A A' ∧ FR B B' ∧ PQ o A' B' := by
  intro k
  induction k with
  | zero => intro k' i A B _ h; exfalso; omega
  | succ k ih =>
    intro k' i A B hi hk hk' sA sB hQ
    obtain ⟨k', rfl⟩ : ∃ q, k' = q + 1 := ⟨k' - 1, by omega⟩
    obtain ⟨⟨C, d0, d1, d2, d3⟩, -, -⟩ := id hQ
    rw [hL, f_X12_momentsGo_L2, d2, d3]
    by_cases e : i = n
    · subst e
      have le : iI (i : Int) ≤ iI (i : Int) := le_i (by omega) (by omega) (by omega)
      rw [if_pos le, if_pos le]
      exact ⟨A, B, rfl, rfl, FA_rf _ _, FR_rf _, hQ⟩
    · have nle : ¬ iI (n : Int) ≤ iI (i : Int) := nl_i (by omega) (by omega) (by omega)
      rw [if_neg nle, if_neg nle]
      by_cases z : C = 9999
      · have le : (9999 : Int32) ≤ iI C := le_i (a := 9999) (by omega) (by omega) (by omega)
        rw [if_pos le, if_pos le]
        exact ⟨A, B, rfl, rfl, FA_rf _ _, FR_rf _, hQ⟩
      · have nl : ¬ (9999 : Int32) ≤ iI C := nl_i (a := 9999) (by omega) (by omega) (by omega)
        obtain ⟨A1, B1, g1, g2, g3, g4, g5, g6⟩ := mom_J hN ho hFd hLs hD hW sA sB hQ d2 d0 (by omega)
        obtain ⟨A', B', u1, u2, u3, u4, u5⟩ := ih k' (i + 1) A1 B1 (by omega) (by omega) (by omega) (sA.trans (fun k j a b => g3.g ho k j (by omega) (by omega))) (sB.trans (fun k j a b => g4.g k j (by omega) (by omega))) g5
        rw [if_neg nl, if_neg nl, g1, hb1_some, g2, hb1_some, iI_s]
        exact ⟨A', B', u1, u2, g3.trans u3, g4.trans u4, u5⟩

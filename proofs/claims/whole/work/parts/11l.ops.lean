/-! firstHome -/
theorem lows_all : ∀ w : Fin 64, w ≠ 0 → ∃ m : Fin 6, f_X12_lowestOf 7 (iI ((w : Nat) : Int)) = some (iI ((m : Nat) : Int)) ∧ (w : Nat).testBit (m : Nat) = true ∧ ∀ j : Fin 6, (j : Nat) < (m : Nat) → (w : Nat).testBit (j : Nat) = false := by decide +kernel
theorem zero_all : ∀ w : Fin 64, (∀ j : Fin 6, (w : Nat).testBit (j : Nat) = false) → w = 0 := by decide +kernel
theorem low_mono {n n' d : Nat} {v r : Int32} : ∀ (k : Nat) (a : Int32), f_X12_lowestOf_L2 n v k a = some r → f_X12_lowestOf_L2 n' v (k + d) a = some r := by
  intro k
  induction k with
  | zero => intro a h; rw [f_X12_lowestOf_L2] at h; exact absurd h (by simp)
  | succ k ih =>
    intro a h
    rw [show k + 1 + d = (k + d) + 1 by omega, f_X12_lowestOf_L2]
    rw [f_X12_lowestOf_L2] at h
    split
    · next z => rw [if_pos z] at h; exact ih _ h
    · next z => rw [if_neg z] at h; exact h
theorem low_eq {N w : Nat} (hN : 300 ≤ N) (hw : w < 64) (h0 : w ≠ 0) : ∃ m : Nat, m < 6 ∧ f_X12_lowestOf N (iI (w : Int)) = some (iI (m : Int)) ∧ w.testBit m = true ∧ ∀ j : Nat, j < m → w.testBit j = false := by
  obtain ⟨d, rfl⟩ : ∃ d, N = 7 + d := ⟨N - 7, by omega⟩
  obtain ⟨m, m1, m2, m3⟩ := lows_all ⟨w, hw⟩ (fun e => h0 (by have := congrArg Fin.val e; exact this))
  exact ⟨m, m.isLt, low_mono 7 0 m1, m2, fun j hj => m3 ⟨j, by have := m.isLt; omega⟩ hj⟩
theorem first_L {n o : Nat} {A : HMem} {v : Int32} : ∀ (d k i : Nat), i + d = 6 → d < k → (∀ j, j < i → ¬ A (o + 4) j = v) → ∃ r, f_X8_firstOf_L2 n o v A k (iI i) = some r ∧ ((r = -1 ∧ ∀ j, j < 6 → ¬ A (o + 4) j = v) ∨ ∃ m : Nat, m < 6 ∧ r = iI (m : Int) ∧ A (o + 4) m = v ∧ ∀ j, j < m → ¬ A (o + 4) j = v) := by
  intro d
  induction d with
  | zero =>
    intro k i hi hk h
    obtain ⟨k, rfl⟩ : ∃ q, k = q + 1 := ⟨k - 1, by omega⟩
    obtain rfl : i = 6 := by omega
    exact ⟨-1, by rw [f_X8_firstOf_L2, if_pos (by decide)], Or.inl ⟨rfl, h⟩⟩
  | succ d ih =>
    intro k i hi hk h
    obtain ⟨k, rfl⟩ : ∃ q, k = q + 1 := ⟨k - 1, by omega⟩
    rw [f_X8_firstOf_L2, if_neg (show ¬ (6 : Int32) ≤ iI (i : Int) from nl_i (a := 6) (by omega) (by omega) (by omega)), hib6 (by omega), if_pos rfl, iI_natc (by omega)]
    by_cases e : A (o + 4) i = v
    · rw [if_pos e]
      exact ⟨_, rfl, Or.inr ⟨i, by omega, rfl, e, h⟩⟩
    · rw [if_neg e, iI_s]
      exact ih k (i + 1) (by omega) (by omega) (fun j hj => by
        by_cases z : j = i
        · rw [z]; exact e
        · exact h j (by omega))
/-- who is home: alike on both sides -/
theorem home_J {N : Nat} {A B : HMem} (hN : 300 ≤ N) (hQ : PQ 45 A B) : (f_X8_firstOf N 45 1 A = some (-1) ∧ f_X12_faring N 1 B = some 0) ∨ ∃ m w : Nat, m < 6 ∧ w < 64 ∧ w ≠ 0 ∧ f_X8_firstOf N 45 1 A = some (iI (m : Int)) ∧ f_X12_faring N 1 B = some (iI (w : Int)) ∧ f_X12_lowestOf N (iI (w : Int)) = some (iI (m : Int)) := by
  obtain ⟨w, w1, w2, w3⟩ := bitsOf_eq (o := 45) (n := N) A 1 (by omega)
  have f1 : f_X12_faring N 1 B = some (iI (w : Int)) := by
    rw [← w2]; exact far_eq (v := 1) (Or.inr rfl) hQ (by omega) (by omega)
  obtain ⟨r, r1, r2⟩ := first_L (n := N) (o := 45) (A := A) (v := 1) 6 N 0 rfl (by omega) (fun j hj => absurd hj (by omega))
  have r1' : f_X8_firstOf N 45 1 A = some r := r1
  rcases r2 with ⟨rfl, r3⟩ | ⟨m, m1, rfl, m2, m3⟩
  · left
    have z : w = 0 := by
      have := zero_all ⟨w, w1⟩ (fun j => by
        show w.testBit (j : Nat) = false
        rw [w3 j j.isLt]; exact decide_eq_false (r3 j j.isLt))
      exact congrArg Fin.val this
    refine ⟨r1', ?_⟩
    rw [f1, z]; rfl
  · right
    have tb : w.testBit m = true := by rw [w3 m m1]; exact decide_eq_true m2
    have w0 : w ≠ 0 := fun e => by subst e; simp at tb
    obtain ⟨m', a1, a2, a3, a4⟩ := low_eq hN w1 w0
    have em : m' = m := by
      by_cases l1 : m' < m
      · rw [w3 m' a1] at a3
        exact absurd (of_decide_eq_true a3) (m3 m' l1)
      · by_cases l2 : m < m'
        · rw [a4 m l2] at tb; exact absurd tb (by decide)
        · omega
    rw [em] at a2
    exact ⟨m, w, m1, w1, w0, r1', f1, a2⟩
theorem fh_J {M : HMem} {N n : Nat} {w : Int} (hN : 300 ≤ N) (hFd : IFade M) (hLs : ILines M) (hD : ILand M) (hW : ILaw M) (hn : n ≤ 100) (w0 : 0 ≤ w) (w1 : w ≤ 1) : ∀ (d k k' i : Nat) (A B : HMem), i + d = n → d + 1 < k → d < k' → sta M A → sta M B → PQ 45 A B → ∃ r A' B', f_X11_firstHome_L34 N (iI (n : Int)) (iI w) k (iI i) A = some (r, A') ∧ f_X12_firstHome_L34 N (iI (n : Int)) (iI w) k' (iI i) B = some (r, bck B') ∧ FA 45 A A' ∧ FR B B' := by
  intro d
  induction d with
  | zero =>
    intro k k' i A B hi hk hk' sA sB hQ
    obtain ⟨k, rfl⟩ : ∃ q, k = q + 1 := ⟨k - 1, by omega⟩
    obtain ⟨k, rfl⟩ : ∃ q, k = q + 1 := ⟨k - 1, by omega⟩
    obtain ⟨k', rfl⟩ : ∃ q, k' = q + 1 := ⟨k' - 1, by omega⟩
    obtain rfl : i = n := by omega
    obtain ⟨⟨C, d0, d1, d2, d3⟩, -, -⟩ := id hQ
    have nlt : ¬ iI (i : Int) < iI (i : Int) := nlt_i (by omega) (by omega) (by omega)
    have le : iI (i : Int) ≤ iI (i : Int) := le_i (by omega) (by omega) (by omega)
    rcases home_J hN hQ with ⟨h1, h2⟩ | ⟨m, u, m1, u1, u0, h1, h2, h3⟩
    · refine ⟨-2, A, B, ?_, ?_, FA_rf _ _, FR_rf _⟩
      · rw [f_X11_firstHome_L34, if_neg nlt, h1, hb1_some, if_pos rfl, d2]
        by_cases z : C = 9999
        · rw [if_neg (show ¬ iI C < 9999 from nlt_i (b := 9999) (by omega) (by omega) (by omega))]
        · rw [if_pos (show iI C < 9999 from lt_i (b := 9999) (by omega) (by omega) (by omega)), if_pos le, iI_s, f_X11_firstHome_L34, if_pos (lt_i (by omega) (by omega) (by omega))]
      · rw [f_X12_firstHome_L34, h2, hb1_some, if_pos rfl, if_pos le, f_X12_firstHome_J71, h2, hb1_some, bck_eq hN, hb1_some, if_pos rfl]
    · have nm : ¬ iI (m : Int) = -1 := ne_i (b := -1) (by omega) (by omega) (by omega) (by omega) (by omega)
      have nu : ¬ iI (u : Int) = 0 := ne_i (b := 0) (by omega) (by omega) (by omega) (by omega) (by omega)
      refine ⟨if iI w = 0 then iI (i : Int) else iI (m : Int), A, B, ?_, ?_, FA_rf _ _, FR_rf _⟩
      · rw [f_X11_firstHome_L34, if_neg nlt, h1, hb1_some, if_neg nm]
        split <;> rfl
      · rw [f_X12_firstHome_L34, h2, hb1_some, if_neg nu, f_X12_firstHome_J71, h2, hb1_some, bck_eq hN, hb1_some, if_neg nu, h3, hb1_some]
        split <;> rfl
  | succ d ih =>
    intro k k' i A B hi hk hk' sA sB hQ
    obtain ⟨k, rfl⟩ : ∃ q, k = q + 1 := ⟨k - 1, by omega⟩
    obtain ⟨k', rfl⟩ : ∃ q, k' = q + 1 := ⟨k' - 1, by omega⟩
    obtain ⟨⟨C, d0, d1, d2, d3⟩, -, -⟩ := id hQ
    have nlt : ¬ iI (n : Int) < iI (i : Int) := nlt_i (by omega) (by omega) (by omega)
    have nle : ¬ iI (n : Int) ≤ iI (i : Int) := nl_i (by omega) (by omega) (by omega)
    rcases home_J hN hQ with ⟨h1, h2⟩ | ⟨m, u, m1, u1, u0, h1, h2, h3⟩
    · by_cases z : C = 9999
      · refine ⟨-2, A, B, ?_, ?_, FA_rf _ _, FR_rf _⟩
        · rw [f_X11_firstHome_L34, if_neg nlt, h1, hb1_some, if_pos rfl, d2, if_neg (show ¬ iI C < 9999 from nlt_i (b := 9999) (by omega) (by omega) (by omega))]
        · rw [f_X12_firstHome_L34, h2, hb1_some, if_pos rfl, if_neg nle, d3, if_pos (show (9999 : Int32) ≤ iI C from le_i (a := 9999) (by omega) (by omega) (by omega)), f_X12_firstHome_J71, h2, hb1_some, bck_eq hN, hb1_some, if_pos rfl]
      · obtain ⟨A1, B1, g1, g2, g3, g4, g5, g6⟩ := mom_J hN (Or.inr rfl) hFd hLs hD hW sA sB hQ d2 d0 (by omega)
        obtain ⟨r, A', B', u1, u2, u3, u4⟩ := ih k k' (i + 1) A1 B1 (by omega) (by omega) (by omega) (sA.trans (fun k j a b => g3.g (Or.inr rfl) k j (by omega) (by omega))) (sB.trans (fun k j a b => g4.g k j (by omega) (by omega))) g5
        refine ⟨r, A', B', ?_, ?_, g3.trans u3, g4.trans u4⟩
        · rw [f_X11_firstHome_L34, if_neg nlt, h1, hb1_some, if_pos rfl, d2, if_pos (show iI C < 9999 from lt_i (b := 9999) (by omega) (by omega) (by omega)), if_neg nle, g1, hb1_some, iI_s]; exact u1
        · rw [f_X12_firstHome_L34, h2, hb1_some, if_pos rfl, if_neg nle, d3, if_neg (show ¬ (9999 : Int32) ≤ iI C from nl_i (a := 9999) (by omega) (by omega) (by omega)), g2, hb1_some, iI_s]; exact u2
    · have nm : ¬ iI (m : Int) = -1 := ne_i (b := -1) (by omega) (by omega) (by omega) (by omega) (by omega)
      have nu : ¬ iI (u : Int) = 0 := ne_i (b := 0) (by omega) (by omega) (by omega) (by omega) (by omega)
      refine ⟨if iI w = 0 then iI (i : Int) else iI (m : Int), A, B, ?_, ?_, FA_rf _ _, FR_rf _⟩
      · rw [f_X11_firstHome_L34, if_neg nlt, h1, hb1_some, if_neg nm]
        split <;> rfl
      · rw [f_X12_firstHome_L34, h2, hb1_some, if_neg nu, f_X12_firstHome_J71, h2, hb1_some, bck_eq hN, hb1_some, if_neg nu, h3, hb1_some]
        split <;> rfl
theorem op_firstHome (v v' : Int32) {N : Nat} (hN : 300 ≤ N) {M : HMem} (hFd : IFade M) (hLs : ILines M) (hD : ILand M) (hW : ILaw M) (hP : PR 35 75 M) : ∃ r M1 M2, f_X11_firstHome N v v' M = some (r, M1) ∧ f_X12_firstHome N v v' M1 = some (r, M2) ∧ PR 35 75 M2 ∧ oth 6 M M2 := by
  obtain ⟨z, z1, z2, rfl⟩ := iI_of v
  obtain ⟨w, w1, w2, rfl⟩ := iI_of v'
  have i1 : f_X12_in (iI z) 1 100 = if 1 ≤ z ∧ z ≤ 100 then 1 else 0 := in_eq (a := 1) (m := 100) z1 z2 (by omega) (by omega) (by omega) (by omega)
  have i2 : f_X12_in (iI w) 0 1 = if 0 ≤ w ∧ w ≤ 1 then 1 else 0 := in_eq (a := 0) (m := 1) w1 w2 (by omega) (by omega) (by omega) (by omega)
  have i3 : f_X11_isWithin (iI w) 1 = if 0 ≤ w ∧ w ≤ 1 then 1 else 0 := isWithin_eq (m := 1) w1 w2 (by omega) (by omega)
  by_cases hz : 1 ≤ z ∧ z ≤ 100
  · by_cases hw : 0 ≤ w ∧ w ≤ 1
    · obtain ⟨n, rfl⟩ : ∃ n : Nat, z = n := ⟨z.toNat, by omega⟩
      have t0 := trial_sta (M := M) (FA_rf 45 _)
      obtain ⟨r, A', -, g1, -, g3, -⟩ := fh_J (n := n) (w := w) hN hFd hLs hD hW (by omega) hw.1 hw.2 n N N 0 _ _ (by omega) (by omega) (by omega) t0.1 t0.2.1 (trial_PQ hP t0.2.2)
      obtain ⟨s1, s2, s3⟩ := trial_sta (M := M) g3
      obtain ⟨r', A2, B', u1, u2, u3, u4⟩ := fh_J (n := n) (w := w) hN hFd hLs hD hW (by omega) hw.1 hw.2 n N N 0 _ _ (by omega) (by omega) (by omega) s1 s2 (trial_PQ hP s3)
      have e := g1.symm.trans u1
      injection e with e
      injection e with e1 e2
      subst e1 e2
      obtain ⟨p1, p2⟩ := trial_end hP u3 u4
      refine ⟨r, A', bck B', ?_, ?_, p1, p2⟩
      · rw [f_X11_firstHome, if_neg (show ¬ iI (n : Int) < 1 from nlt_i (b := 1) (by omega) (by omega) (by omega)), if_neg (show ¬ (100 : Int32) < iI (n : Int) from nlt_i (a := 100) (by omega) (by omega) (by omega)), i3, if_pos hw, if_neg i10]
        exact g1
      · rw [f_X12_firstHome, i1, if_pos hz, if_neg i10, i2, if_pos hw, if_neg i10, asd_eq hN, hb1_some]
        exact u2
    · refine ⟨-1, M, M, ?_, ?_, hP, oth_rf _ _⟩
      · rw [f_X11_firstHome, if_neg (show ¬ iI z < 1 from nlt_i (b := 1) (by omega) (by omega) (by omega)), if_neg (show ¬ (100 : Int32) < iI z from nlt_i (a := 100) (by omega) (by omega) (by omega)), i3, if_neg hw, if_pos rfl]
      · rw [f_X12_firstHome, i1, if_pos hz, if_neg i10, i2, if_neg hw, if_pos rfl]
  · refine ⟨-1, M, M, ?_, ?_, hP, oth_rf _ _⟩
    · rw [f_X11_firstHome]
      by_cases h : z < 1
      · rw [if_pos (show iI z < 1 from lt_i (b := 1) h (by omega) (by omega))]
      · rw [if_neg (show ¬ iI z < 1 from nlt_i (b := 1) (by omega) (by omega) (by omega)), if_pos (show (100 : Int32) < iI z from lt_i (a := 100) (by omega) (by omega) (by omega))]
    · rw [f_X12_firstHome, i1, if_neg hz, if_pos rfl]

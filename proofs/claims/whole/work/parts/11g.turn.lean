/-! THE HUNT: a hound's turn, whole -/
theorem laid_tot {M A : HMem} (hLs : ILines M) (sA : sta M A) (v : Int32) : ∃ r, f_X0_laid v A = some r := by
  obtain ⟨z, z1, z2, rfl⟩ := iI_of v
  by_cases hz : 0 ≤ z ∧ z ≤ 7
  · obtain ⟨c, rfl⟩ : ∃ c : Nat, z = c := ⟨z.toNat, by omega⟩
    have g2 : grp (50 + 3 * c) 2 = 3 := grp3 2 (by omega)
    have e := sA (50 + 3 * c) 2 (by omega) (by omega)
    rcases hLs c (by omega) with ⟨h, -⟩ | ⟨h, -⟩
    · exact ⟨_, laid_0 (by omega) (e.trans h)⟩
    · exact ⟨_, laid_1 (by omega) (e.trans h)⟩
  · exact ⟨_, laid_out hz z1 z2⟩
theorem ky_inj {w t s w' t' s' : Int} (h1 : 1 ≤ w) (h2 : w ≤ 9999) (t1 : 0 ≤ t) (t2 : t ≤ 10095) (s1 : 0 ≤ s) (s2 : s ≤ 4) (h1' : 1 ≤ w') (h2' : w' ≤ 9999) (t1' : 0 ≤ t') (t2' : t' ≤ 10095) (s1' : 0 ≤ s') (s2' : s' ≤ 4) (e : KY w t s = KY w' t' s') : w = w' ∧ t = t' ∧ s = s' := by
  rw [ky_rg h1 h2 t1 t2 s1 s2, ky_rg h1' h2' t1' t2' s1' s2'] at e
  omega
theorem BC.z {x : Nat → Int32} {j : Nat} {cr : Int} (h : BC x j 0 cr) : x j = iI 0 := by
  rcases h with ⟨-, h⟩ | ⟨w, t, s, h1, h2, h3, h4, h5, h6, h7, h8, h9, -⟩
  · exact h
  · rw [ky_rg h1 h2 h3 h4 h5 h6] at h9; omega
/-- what is best is gone to, or nothing -/
theorem foll_J {M A0 B0 : HMem} {N o h P : Nat} {T C f : Int} {n5 n7 : Int32} {nh : Nat → Int32} (hN : 300 ≤ N) (hW : ILaw M) (hLs : ILines M) (sA : sta M A0) (sB : sta M B0) (hXA : XA A0 N o h P T C f nh) (hXB : XB B0 N h P T C f n5 n7 nh) (hf : AF A0 h n5 n7) (a31 : A0 31 2 = iI 0) (b46 : B0 74 46 = iI 0) : ∃ A6 B6, FW A0 A6 ∧ FB B0 B6 ∧ ((f_X2_follow_L7 N o (iI h) N 0 A0 = some (0, A6) ∧ f_X12_turnOf_L98 N (iI h) (iI P) N 0 B0 = hb1 (f_X12_isAtFault (iI h) B6) (fun M101 => some M101)) ∨ ∃ (p : Nat) (t s : Int), p < 192 ∧ 0 ≤ t ∧ t < T ∧ (s = 0 ∨ s = 1) ∧ f_X2_follow_L7 N o (iI h) N 0 A0 = some (1, hset (hset (hset A6 (o + 1) h (iI (p : Int))) (o + 2) h (iI t)) (o + 4) h (iI s)) ∧ f_X12_turnOf_L98 N (iI h) (iI P) N 0 B0 = some (if s = 1 then hset (hset (hset B6 75 (6 + h) (iI (p : Int))) 75 (12 + h) (iI t)) 75 (24 + h) 1 else hset (hset B6 75 (6 + h) (iI (p : Int))) 75 (12 + h) (iI t))) := by
  obtain ⟨A6, B6, κ, cr, q, q', g1, g2, g3, g4, g5, g6, g7⟩ := cre_J hN hW hLs sA sB hXA hXB 8 0 N N A0 B0 0 0 rfl (by omega) (by omega) (FW_rf _) hf (FB_rf _) (Or.inl ⟨rfl, a31⟩) (Or.inl ⟨rfl, b46⟩) (Or.inl rfl)
  obtain ⟨ho, hh, hP, hT0, hT1, hC0, hC1, hf0, hf1, hD, x3, xC, xP, xT, xn⟩ := id hXA
  have g1' : f_X2_follow_L7 N o (iI h) N 0 A0 = f_X2_follow_L7 N o (iI h) (q + 1) 8 A6 := g1
  have g2' : f_X12_turnOf_L98 N (iI h) (iI P) N 0 B0 = f_X12_turnOf_L98 N (iI h) (iI P) (q' + 1) 8 B6 := g2
  have sA6 : sta M A6 := sA.trans (fun k j a b => g3.g k j (by omega))
  refine ⟨A6, B6, g3, g4, ?_⟩
  rw [g1', g2', f_X2_follow_L7, if_pos (show (8 : Int32) ≤ 8 by decide), f_X12_turnOf_L98, if_pos (show (8 : Int32) ≤ 8 by decide)]
  by_cases k0 : κ = 0
  · subst k0
    left
    have a2 : A6 31 2 = iI 0 := g5.z
    have b2 : B6 74 46 = iI 0 := g6.z
    have le0 : iI 0 ≤ 0 := le_i (b := 0) (by omega) (by omega) (by omega)
    obtain ⟨r, hr⟩ := laid_tot hLs sA6 (A6 31 5)
    rw [hr, hb1_some, a2, b2, if_pos (by rfl)]
    refine ⟨?_, rfl⟩
    rcases r with _ | o2
    · show (if iI 0 ≤ 0 then some ((0 : Int32), A6) else some (0, A6)) = _
      rw [if_pos le0]
    · show (if iI 0 ≤ 0 then some ((0 : Int32), A6) else _) = _
      rw [if_pos le0]
  · right
    rcases g5 with ⟨z, -⟩ | ⟨w, t, s, w1, w2, t1, t2, s1, s2, c1, c2, eκ, y2, y3, y4, y5⟩
    · exact absurd z k0
    rcases g6 with ⟨z, -⟩ | ⟨w', t', s', w1', w2', t1', t2', s1', s2', -, -, eκ', z2, z3, z4, z5⟩
    · exact absurd z k0
    obtain ⟨ew, et, es⟩ := ky_inj w1' w2' t1' t2' s1' s2' w1 w2 t1 t2 s1 s2 (eκ'.symm.trans eκ)
    rw [ew] at z2
    rw [et] at z3
    rw [es] at z4
    rcases g7 with z | ⟨c, fr, ln, w3, i, rfl, hL, hl, hi, u1, u2, u3, u4, u5⟩
    · exact absurd z k0
    have r := hL.rg
    have c8 := hL.c8
    have wr := wy_rg P (pl M c i)
    obtain ⟨ew3, et3, es3⟩ := ky_inj w1 w2 t1 t2 s1 s2 u1 u2 (by omega) (by omega) u3 (by omega) (eκ.symm.trans u5)
    rw [et3] at y3 z3
    rw [es3] at z4
    have hp := hL.pb hi
    have y3' : A6 31 3 = iI (fr + (i : Int)) := y3
    have y5' : A6 31 5 = iI (c : Int) := y5
    have z3' : B6 74 47 = iI (fr + (i : Int)) := z3
    have z4' : B6 74 48 = iI (wy P (pl M c i)) := z4
    have z5' : B6 74 49 = iI (c : Int) := z5
    have g2' : grp (50 + 3 * c) 2 = 3 := grp3 2 (by omega)
    have hLA : LN A6 c fr ln := hL.congr (fun k j e => sA6 k j (by omega) (by omega))
    have pE : pl A6 c i = pl M c i := by rw [sta_pl sA6 c8]
    have nw : ¬ iI w ≤ 0 := nl_i (b := 0) (by omega) (by omega) (by omega)
    have nw0 : ¬ iI w = 0 := ne_i (b := 0) (by omega) (by omega) (by omega) (by omega) (by omega)
    have sB6 : sta M B6 := sB.trans (fun k j a b => g4.g k j (by omega))
    have hLB : LN B6 c fr ln := hL.congr (fun k j e => sB6 k j (by omega) (by omega))
    have J67 : ∀ s0 : Int32, f_X2_follow_J67 N o (iI h) (50 + 3 * c) s0 A6 = some (1, hset (hset (hset A6 (o + 1) h (iI (pl M c i : Int))) (o + 2) h (iI (fr + (i : Int)))) (o + 4) h s0) := fun s0 => by
      rw [f_X2_follow_J67, y3', placeAt_in hLA hi, hb1_some, pE, f_X8_move, in5 hh, if_neg i10, hib6 hh, if_pos rfl, if_pos rfl, if_pos rfl, iI_natc (k := h) (by omega), hb1_some]
    obtain ⟨e1, e2⟩ := i18 hh 6 (by omega)
    have e1' : hib (6 + iI (h : Int)) 32 = true := e1
    have e2' : (6 + iI (h : Int)).toNatClampNeg = 6 + h := e2
    obtain ⟨e3, e4⟩ := i18 hh 12 (by omega)
    have e3' : hib (12 + iI (h : Int)) 32 = true := e3
    have e4' : (12 + iI (h : Int)).toNatClampNeg = 12 + h := e4
    obtain ⟨e5, e6⟩ := i18 hh 24 (by omega)
    have e5' : hib (24 + iI (h : Int)) 32 = true := e5
    have e6' : (24 + iI (h : Int)).toNatClampNeg = 24 + h := e6
    have hc8 : hib (iI (c : Int)) 8 = true := hib_t (by omega) (by omega) (by omega)
    have J216 : f_X12_turnOf_J216 N (iI h) (iI (pl M c i : Int)) (6 + iI (h : Int)) B6 = (if iI (fr + (i : Int)) = iI fr then some (hset (hset (hset B6 75 (6 + h) (iI (pl M c i : Int))) 75 (12 + h) (iI (fr + (i : Int)))) 75 (24 + h) 1) else some (hset (hset B6 75 (6 + h) (iI (pl M c i : Int))) 75 (12 + h) (iI (fr + (i : Int))))) := by
      rw [f_X12_turnOf_J216, e1', if_pos rfl, e3', if_pos rfl, hb1_some, e2', e4', hset_nek _ _ _ (show (74 : Nat) ≠ 75 by decide), hset_nek _ _ _ (show (74 : Nat) ≠ 75 by decide), z3', z5', hc8, if_pos rfl, iI_natc (k := c) (by omega), hset_nek _ _ _ (show (79 : Nat) ≠ 75 by decide), hset_nek _ _ _ (show (79 : Nat) ≠ 75 by decide), hLB.cf.2.2.2, e5', if_pos rfl, e6']
    have side : (if B6 74 48 = 0 then f_X12_turnOf_J216 N (iI h) (iI P) (6 + iI h) B6 else f_X12_turnOf_J216 N (iI h) (f_X12_beside (iI P) (B6 74 48 - 1)) (6 + iI h) B6) = f_X12_turnOf_J216 N (iI h) (iI (pl M c i : Int)) (6 + iI (h : Int)) B6 := by
      rw [z4']
      by_cases s0 : wy P (pl M c i) = 0
      · rw [if_pos (by rw [s0]; rfl), wy_0.mp s0]
      · obtain ⟨v, hv⟩ : ∃ v : Nat, wy P (pl M c i) = (v : Int) + 1 := ⟨(wy P (pl M c i) - 1).toNat, by omega⟩
        have hv4 : v < 4 := by omega
        have ns : ¬ iI (wy P (pl M c i)) = 0 := ne_i (b := 0) s0 (by omega) (by omega) (by omega) (by omega)
        rw [if_neg ns, q1, iI_sub, hv, show (v : Int) + 1 - 1 = (v : Int) by omega, (nbrs hP hv4).1, ← ((wy_s hP hp hv4).mp hv).1]
    rw [y5', laid_1 c8 ((sA6 (50 + 3 * c) 2 (by omega) (by omega)).trans hl), hb1_some]
    refine ⟨pl M c i, fr + (i : Int), if i = 0 then 1 else 0, hp, by omega, u4, ?_, ?_, ?_⟩
    · by_cases z : i = 0
      · rw [if_pos z]; exact Or.inr rfl
      · rw [if_neg z]; exact Or.inl rfl
    · show (if A6 31 2 ≤ 0 then some ((0 : Int32), A6) else if A6 31 3 = A6 (50 + 3 * c) 3 then f_X2_follow_J67 N o (iI h) (50 + 3 * c) 1 A6 else f_X2_follow_J67 N o (iI h) (50 + 3 * c) 0 A6) = _
      rw [y2, if_neg nw, y3', hLA.cf.1]
      by_cases z : i = 0
      · rw [if_pos (by rw [z]; congr 1; omega), if_pos z, J67]; rfl
      · rw [if_neg (ne_i (by omega) (by omega) (by omega) (by omega) (by omega)), if_neg z, J67]; rfl
    · rw [z2, if_neg nw0, side, J216]
      by_cases z : i = 0
      · rw [if_pos (by rw [z]; congr 1; omega), if_pos z, if_pos rfl]
      · rw [if_neg (ne_i (by omega) (by omega) (by omega) (by omega) (by omega)), if_neg z, if_neg (by decide)]
theorem isH_cg2 {B B' : HMem} (e : ∀ j, j < 12 → B' 75 j = B 75 j) {i : Nat} (hi : i < 6) : f_X12_isHound (iI (i : Int)) B' = f_X12_isHound (iI (i : Int)) B := by
  have e0 : (0 + iI (i : Int)).toNatClampNeg = i := by rw [q0, iI_add, show (0 : Int) + (i : Int) = (i : Int) by omega]; exact iI_natc (by omega)
  rw [f_X12_isHound, f_X12_isHound, e0, e i (by omega)]
theorem hAtR_cg2 {n : Nat} {B B' : HMem} {p : Int32} (e : ∀ j, j < 12 → B' 75 j = B 75 j) : ∀ (k i : Nat) (b : Int32), i ≤ 6 → f_X12_houndsAt_L4 n p B' k b (iI i) = f_X12_houndsAt_L4 n p B k b (iI i) := by
  intro k
  induction k with
  | zero => intro i b _; rfl
  | succ k ih =>
    intro i b hi
    rw [f_X12_houndsAt_L4, f_X12_houndsAt_L4]
    by_cases h6 : i = 6
    · subst h6; rw [if_pos (by decide), if_pos (by decide)]
    · have x : ¬ (6 : Int32) ≤ iI (i : Int) := nl_i (a := 6) (by omega) (by omega) (by omega)
      have e1 : (6 + iI (i : Int)).toNatClampNeg = 6 + i := (i18 (h := i) (by omega) 6 (by omega)).2
      rw [if_neg x, if_neg x, isH_cg2 e (by omega), iI_s, ih _ _ (by omega), ih _ _ (by omega), e1, e (6 + i) (by omega)]
theorem sta_LA {M A : HMem} {t sz : Nat} (h4 : M 23 3 = iI (t : Int)) (h6 : M 23 6 = iI (sz : Int)) (sA : sta M A) : LA M t sz A := by
  have ef : ∀ k, (∀ j, grp k j = 5) → A k = M k := fun k hk => funext (fun j => sA k j (by rw [hk]; omega) (by rw [hk]; omega))
  exact ⟨by rw [sA 23 3 (by decide) (by decide)]; exact h4, by rw [sA 23 6 (by decide) (by decide)]; exact h6, ef 24 (fun _ => rfl), ef 25 (fun _ => rfl), ef 26 (fun _ => rfl), ef 27 (fun _ => rfl), ef 28 (fun _ => rfl)⟩
theorem sta_LB {M B : HMem} {t : Nat} (h5 : M 74 21 = iI (t : Int)) (sB : sta M B) : LB M t B := by
  have ef : ∀ k, (∀ j, grp k j = 5) → B k = M k := fun k hk => funext (fun j => sB k j (by rw [hk]; omega) (by rw [hk]; omega))
  exact ⟨by rw [sB 74 21 (by decide) (by decide)]; exact h5, ef 91 (fun _ => rfl), ef 92 (fun _ => rfl), ef 93 (fun _ => rfl), ef 94 (fun _ => rfl), ef 95 (fun _ => rfl)⟩
theorem turn_J {M A B : HMem} {N o h : Nat} (hN : 300 ≤ N) (ho : o = 35 ∨ o = 45) (hh : h < 6) (hFd : IFade M) (hLs : ILines M) (hD : ILand M) (hW : ILaw M) (sA : sta M A) (sB : sta M B) (hQ : PQ o A B) (run : A (o + 4) h = 0) : ∃ A' B', f_X2_takeTurn N o (iI h) A = some A' ∧ f_X12_turnOf N (iI h) B = some B' ∧ FA o A A' ∧ FR B B' ∧ PQ o A' B' ∧ A' o 4 = A o 4 := by
  have o29 : ∀ j, j ≤ 4 → o + j ≠ 29 := fun j _ => by omega
  have o30 : ∀ j, j ≤ 4 → o + j ≠ 30 := fun j _ => by omega
  obtain ⟨⟨C, c0, c1, c2, c3⟩, ⟨x, x0, x1, x2, x3⟩, hp⟩ := id hQ
  obtain ⟨xn, rfl⟩ : ∃ n : Nat, x = n := ⟨x.toNat, by omega⟩
  obtain ⟨f, f0, f1, f2, f3⟩ := hFd
  have nhx : ∀ p : Nat, ∃ v : Int32, f_X8_houndsAt N o (iI (p : Int)) A = some v ∧ f_X12_houndsAt N (iI (p : Int)) B = some v := fun p => by
    have hj : PR o 75 (jn A B) := (PQ_iff ho A B).mpr hQ
    obtain ⟨w, -, hw⟩ := houndsAt_some (o := o) (n := N) (jn A B) (iI (p : Int)) (by omega)
    refine ⟨iI (w : Int), ?_, ?_⟩
    · rw [← hw]
      rcases ho with rfl | rfl
      · exact hAt_cg rfl rfl
      · exact hAt_cg rfl rfl
    · rw [← hw, ← houndsAt_eq hj]; exact hAtR_cg rfl
  obtain ⟨nh, hnh⟩ := Classical.axiomOfChoice nhx
  rcases hp h hh with ⟨-, p2⟩ | ⟨p1, ⟨P', P0, P1, P2, P3⟩, ⟨T, T0, T1, T2, T3⟩, ⟨f', fa, fb, fc, fd⟩, ⟨q, qa, qb, Q3, Q4, Q5⟩⟩
  · rw [run] at p2; exact absurd p2 (by decide)
  obtain ⟨P, rfl⟩ : ∃ n : Nat, P' = n := ⟨P'.toNat, by omega⟩
  obtain rfl : q = 0 := (iI_eq (a := q) (b := 0) (by omega) (by omega) (by omega) (by omega)).mp (Q3.symm.trans run)
  obtain ⟨g, ga, gb, gc⟩ := Q5 rfl
  obtain rfl : f' = g := (iI_eq (by omega) (by omega) (by omega) (by omega)).mp (fc.symm.trans gc)
  obtain ⟨t, sz, cm, l1, l2, l3, l4, l5, l6, l7⟩ := id hW
  obtain ⟨n7, hn7⟩ : ∃ n7 : Int32, n7 = iI C - iI C / 100 * 100 := ⟨_, rfl⟩
  have hPn : P < 192 := by omega
  -- the class's facts
  obtain ⟨A1, hA1⟩ : ∃ A1, A1 = hset (hset (hset (hset (hset (hset (hset (hset A 29 0 (iI (h : Int))) 29 5 (iI f')) 29 7 n7) 29 6 (nh P)) 29 1 0) 29 2 0) 29 3 0) 29 4 0 := ⟨_, rfl⟩
  have a1 : ∀ k, k ≠ 29 → A1 k = A k := fun k hk => by rw [hA1, hset_nek _ _ _ hk, hset_nek _ _ _ hk, hset_nek _ _ _ hk, hset_nek _ _ _ hk, hset_nek _ _ _ hk, hset_nek _ _ _ hk, hset_nek _ _ _ hk, hset_nek _ _ _ hk]
  have hn1 : f_X8_houndsAt N o (iI (P : Int)) (hset (hset (hset A 29 0 (iI (h : Int))) 29 5 (iI f')) 29 7 n7) = some (nh P) := by
    rw [← (hnh P).1]
    refine hAt_cg ?_ ?_
    · rw [hset_nek _ _ _ (by omega), hset_nek _ _ _ (by omega), hset_nek _ _ _ (by omega)]
    · rw [hset_nek _ _ _ (by omega), hset_nek _ _ _ (by omega), hset_nek _ _ _ (by omega)]
  have eA : f_X2_takeTurn N o (iI h) A = hb2 (f_X5_givesUp N 23 A1) (fun x112 M113 => if x112 = 0 then hb2 (f_X5_worth N 23 114 10 M113) (fun x114 M115 => hb2 (f_X8_draw o M115) (fun x116 M117 => if x116 < x114 then hb1 (f_X8_addFault o (iI h) M117) (fun M118 => some M118) else hb2 (f_X2_follow N o (iI h) M117) (fun x119 M120 => if x119 = 0 then hb1 (f_X8_addFault o (iI h) M120) (fun M121 => some M121) else some M120))) else hb1 (f_X8_lose o (iI h) M113) (fun M122 => some M122)) := by
    rw [f_X2_takeTurn, put0, hb1_some, faultsOf_in hh, hb1_some, hset_nek _ _ _ (show o + 3 ≠ 29 by omega), fc, put5, hb1_some, hset_nek _ _ _ (show o ≠ 29 by omega), hset_nek _ _ _ (show o ≠ 29 by omega), c2, ← hn7, put7, hb1_some, placeOfHound_in hh, hb1_some, hset_nek _ _ _ (show o + 1 ≠ 29 by omega), hset_nek _ _ _ (show o + 1 ≠ 29 by omega), hset_nek _ _ _ (show o + 1 ≠ 29 by omega), P2, hn1, hb1_some, put6, hb1_some, put1, hb1_some, put2, hb1_some, put3, hb1_some, put4, hb1_some, ← hA1]
  -- the reference's
  obtain ⟨B1, b1, b2, b3, b4, b5, b6, b7, b8, b9, b10⟩ := feels_eq (B := B) (n6 := nh P) hN hh (by rw [P3]; exact (hnh P).2)
  have eB : f_X12_turnOf N (iI h) B = hb2 (f_X12_holdsAny N 120 B1) (fun x102 M103 => if x102 = 0 then (hb2 (f_X12_byLaw N 114 10 M103) (fun x104 M105 => hb1 (some (hset M105 75 31 (((25173 * (M105 75 31)) + 13849) - ((25173 * (M105 75 31)) + 13849) / 65536 * 65536))) (fun M106 => if x104 ≤ ((M106 75 31) - (M106 75 31) / 10 * 10) then (if hib (6 + iI (h : Int)) 32 then f_X12_turnOf_L98 N (iI h) ((hset M106 74 46 0) 75 (Int32.toNatClampNeg (6 + iI (h : Int)))) N 0 (hset M106 74 46 0) else none) else (hb1 (f_X12_isAtFault (iI h) M106) (fun M107 => some M107))))) else (if hib (24 + iI (h : Int)) 32 then some (hset M103 75 (Int32.toNatClampNeg (24 + iI (h : Int))) 2) else none)) := by
    rw [f_X12_turnOf, b1, hb1_some]
  have fcE : ∀ j, j < 8 → A1 29 j = B1 97 j := fun j hj => by
    rcases (show j = 0 ∨ j = 1 ∨ j = 2 ∨ j = 3 ∨ j = 4 ∨ j = 5 ∨ j = 6 ∨ j = 7 by omega) with rfl | rfl | rfl | rfl | rfl | rfl | rfl | rfl
    · rw [b3, hA1, hset_nej _ _ (by decide), hset_nej _ _ (by decide), hset_nej _ _ (by decide), hset_nej _ _ (by decide), hset_nej _ _ (by decide), hset_nej _ _ (by decide), hset_nej _ _ (by decide), hset_self]
    · rw [b4, hA1, hset_nej _ _ (by decide), hset_nej _ _ (by decide), hset_nej _ _ (by decide), hset_self]
    · rw [b5, hA1, hset_nej _ _ (by decide), hset_nej _ _ (by decide), hset_self]
    · rw [b6, hA1, hset_nej _ _ (by decide), hset_self]
    · rw [b7, hA1, hset_self]
    · rw [b8, fd, hA1, hset_nej _ _ (by decide), hset_nej _ _ (by decide), hset_nej _ _ (by decide), hset_nej _ _ (by decide), hset_nej _ _ (by decide), hset_nej _ _ (by decide), hset_self]
    · rw [b9, hA1, hset_nej _ _ (by decide), hset_nej _ _ (by decide), hset_nej _ _ (by decide), hset_nej _ _ (by decide), hset_self]
    · rw [b10, c3, ← hn7, hA1, hset_nej _ _ (by decide), hset_nej _ _ (by decide), hset_nej _ _ (by decide), hset_nej _ _ (by decide), hset_nej _ _ (by decide), hset_self]
  have af1 : AF A1 h (iI f') n7 := ⟨by rw [fcE 0 (by omega), b3], by rw [fcE 5 (by omega), b8, fd], by rw [fcE 7 (by omega), b10, c3, ← hn7]⟩
  have lA : LA M t sz A1 := (sta_LA l4 l6 sA).fr (fun q _ _ => a1 q (by omega))
  have lB : LB M t B1 := (sta_LB l5 sB).fr (by rw [b2 74 (by decide)]) (fun q _ _ => b2 q (by omega))
  obtain ⟨r, A2, B2, u1, u2, u3, u4, u5⟩ := gives_V hN l1 l2 l7 lA lB fcE
  rw [eA, eB, u1, u2, hb2_some, hb2_some]
  have d2 : ∀ k, k ≠ 29 → k ≠ 30 → A2 k = A k := fun k a b => by rw [u3 k b, a1 k a]
  have e2 : ∀ k, k ≠ 96 → k ≠ 97 → B2 k = B k := fun k a b => by rw [u4 k a, b2 k b]
  rcases u5 with rfl | rfl
  · rw [if_pos rfl, if_pos rfl]
    obtain ⟨r2, A3, B3, v1, v2, v3, v4, v5, v6⟩ := tenths_V hN l1 l2 l7 (A := A2) (B := B2) (lA.fr (fun q _ _ => u3 q (by omega))) (lB.fr (by rw [u4 74 (by decide)]) (fun q _ _ => u4 q (by omega))) (fun q hq => by rw [u3 29 (by decide), u4 97 (by decide)]; exact fcE q hq)
    have d3 : ∀ k, k ≠ 29 → k ≠ 30 → A3 k = A k := fun k a b => by rw [v3 k b, d2 k a b]
    have e3 : ∀ k, k ≠ 96 → k ≠ 97 → B3 k = B k := fun k a b => by rw [v4 k a, e2 k a b]
    obtain ⟨y, hy⟩ : ∃ y : Nat, y = (25173 * xn + 13849) % 65536 := ⟨_, rfl⟩
    have y1 : y ≤ 65535 := by omega
    obtain ⟨A4, hA4⟩ : ∃ A4, A4 = hset A3 o 5 (iI (y : Int)) := ⟨_, rfl⟩
    obtain ⟨B4, hB4⟩ : ∃ B4, B4 = hset B3 75 31 (iI (y : Int)) := ⟨_, rfl⟩
    have dr : f_X8_draw o A3 = some (iI ((y % 10 : Nat) : Int), A4) := by
      rw [f_X8_draw, d3 o (by omega) (by omega), x2, draw_x (by omega), ← hy, hb1_some, ← hA4, show A4 o 5 = iI (y : Int) by rw [hA4, hset_self], draw_10 y1]
    rw [v1, v2, hb2_some, hb2_some, dr, hb2_some, e3 75 (by decide) (by decide), x3, draw_x (by omega), ← hy, hb1_some, ← hB4, show B4 75 31 = iI (y : Int) by rw [hB4, hset_self], draw_10 y1]
    have d4 : ∀ k, k ≠ 29 → k ≠ 30 → k ≠ o → A4 k = A k := fun k a b c => by rw [hA4, hset_nek _ _ _ c, d3 k a b]
    have e4 : ∀ k, k ≠ 75 → k ≠ 96 → k ≠ 97 → B4 k = B k := fun k a b c => by rw [hB4, hset_nek _ _ _ a, e3 k b c]
    have e475 : ∀ j, j ≠ 31 → B4 75 j = B 75 j := fun j a => by rw [hB4, hset_nej _ _ a, e3 75 (by decide) (by decide)]
    have o44 : A4 o 4 = A o 4 := by rw [hA4, hset_nej _ _ (by decide), d3 o (by omega) (by omega)]
    have hx4 : ∃ x : Int, 0 ≤ x ∧ x ≤ 65535 ∧ A4 o 5 = iI x ∧ B4 75 31 = iI x := ⟨(y : Int), by omega, by omega, by rw [hA4, hset_self], by rw [hB4, hset_self]⟩
    have F4 : FA o A A4 := fun k a b => d4 k (by omega) (by omega) (by omega)
    have R4 : FR B B4 := ⟨fun k _ a b c => e4 k a b c, fun j _ => by rw [e4 74 (by decide) (by decide) (by decide)], fun j hj => e475 j (by omega)⟩
    by_cases dd : ((y % 10 : Nat) : Int) < r2
    · rw [if_pos (lt_i dd (by omega) (by omega)), if_neg (nl_i dd (by omega) (by omega))]
      obtain ⟨A', B', w1, w2, w3, w4, w5, w6⟩ := fault_Q (A1 := A4) (B1 := B4) ho hh hQ fa (by omega) fc fd run (fun j j1 j4 => d4 _ (by omega) (by omega) (by omega)) o44 e475 hx4
      rw [w1, w2]
      exact ⟨A', B', rfl, rfl, F4.trans w3, R4.trans w4, w5, w6.trans o44⟩
    · rw [if_neg (nlt_i (by omega) (by omega) (by omega)), if_pos (le_i (by omega) (by omega) (by omega))]
      obtain ⟨i1, i2⟩ := i18 hh 6 (by omega)
      have i1' : hib (6 + iI (h : Int)) 32 = true := i1
      have i2' : (6 + iI (h : Int)).toNatClampNeg = 6 + h := i2
      obtain ⟨A5, hA5⟩ : ∃ A5, A5 = hset A4 31 2 0 := ⟨_, rfl⟩
      obtain ⟨B5, hB5⟩ : ∃ B5, B5 = hset B4 74 46 0 := ⟨_, rfl⟩
      have d5 : ∀ k, k ≠ 29 → k ≠ 30 → k ≠ 31 → k ≠ o → A5 k = A k := fun k a b c d => by rw [hA5, hset_nek _ _ _ c, d4 k a b d]
      have o5 : A5 o = A4 o := by rw [hA5, hset_nek _ _ _ (by omega)]
      have e575 : B5 75 = B4 75 := by rw [hB5, hset_nek _ _ _ (by decide)]
      have FA5 : FA o A A5 := F4.trans (fun k a _ => by rw [hA5, hset_nek _ _ _ (by omega)])
      have FR5 : FR B B5 := R4.trans ⟨fun k a _ _ _ => by rw [hB5, hset_nek _ _ _ a], fun j a => by rw [hB5, hset_nej _ _ (by omega)], fun j _ => by rw [e575]⟩
      have sA5 : sta M A5 := sA.trans (fun k j a b => FA5.g ho k j (by omega) (by omega))
      have sB5 : sta M B5 := sB.trans (fun k j a b => FR5.g k j (by omega) (by omega))
      have b5c : B5 75 30 = iI C := by rw [e575, e475 30 (by omega)]; exact c3
      have hXA : XA A5 N o h P T C f nh := by
        refine ⟨ho, hh, hPn, T0, T1, c0, c1, f0, f1, hD.congr (fun k j e => sA5 k j (by omega) (by omega)), ?_, ?_, ?_, ?_, fun p hp' => ?_⟩
        · rw [sA5 3 2 (by decide) (by decide)]; exact f2
        · rw [o5, o44]; exact c2
        · rw [d5 (o + 1) (by omega) (by omega) (by omega) (by omega)]; exact P2
        · rw [d5 (o + 2) (by omega) (by omega) (by omega) (by omega)]; exact T2
        · rw [← (hnh p).1]
          exact hAt_cg (d5 (o + 1) (by omega) (by omega) (by omega) (by omega)) (d5 (o + 4) (by omega) (by omega) (by omega) (by omega))
      have hXB : XB B5 N h P T C f (iI f') n7 nh := by
        refine ⟨hh, hPn, T0, T1, hD.congr (fun k j e => sB5 k j (by omega) (by omega)), ⟨c0, c1, f0, f1, ?_, ?_, b5c⟩, ?_, ?_, ?_, hn7, fun p hp' => ?_⟩
        · rw [sB5 3 2 (by decide) (by decide)]; exact f2
        · rw [sB5 74 9 (by decide) (by decide)]; exact f3
        · rw [e575, e475 _ (by omega)]; exact P3
        · rw [e575, e475 _ (by omega)]; exact T3
        · rw [e575, e475 _ (by omega)]; exact fd
        · rw [← (hnh p).2]
          exact hAtR_cg2 (fun j hj => by rw [e575, e475 j (by omega)]) N 0 0 (by omega)
      have af5 : AF A5 h (iI f') n7 := af1.fr (by rw [hA5, hset_nek _ _ _ (by decide), hA4, hset_nek _ _ _ (by omega), v3 29 (by decide), u3 29 (by decide)])
      obtain ⟨A6, B6, m1, m2, m3⟩ := foll_J hN hW hLs sA5 sB5 hXA hXB af5 (by rw [hA5, hset_self]; rfl) (by rw [hB5, hset_self]; rfl)
      have d6 : ∀ j, 1 ≤ j → j ≤ 4 → A6 (o + j) = A (o + j) := fun j j1 j4 => by rw [m1 _ (by omega), d5 _ (by omega) (by omega) (by omega) (by omega)]
      have o6 : A6 o = A4 o := by rw [m1 o (by omega), o5]
      have e6 : B6 75 = B4 75 := by rw [m2.1 75 (by decide) (by decide) (by decide), e575]
      have e675 : ∀ j, j ≠ 31 → B6 75 j = B 75 j := fun j a => by rw [e6, e475 j a]
      have hx6 : ∃ x : Int, 0 ≤ x ∧ x ≤ 65535 ∧ A6 o 5 = iI x ∧ B6 75 31 = iI x := by rw [o6, e6]; exact hx4
      have FA6 : FA o A A6 := FA5.trans m1.A
      have FR6 : FR B B6 := FR5.trans m2.R
      rw [i1', if_pos rfl, i2', f_X2_follow, ← hA5, ← hB5, e575, e475 (6 + h) (by omega), P3]
      rcases m3 with ⟨w1, w2⟩ | ⟨p, tt, s, pb, tt0, tt1, ss, w1, w2⟩
      · obtain ⟨A', B', z1, z2, z3, z4, z5, z6⟩ := fault_Q (A1 := A6) (B1 := B6) ho hh hQ fa (by omega) fc fd run d6 (by rw [o6]; exact o44) e675 hx6
        rw [w1, hb2_some, if_pos rfl, z1, w2, z2]
        exact ⟨A', B', rfl, rfl, FA6.trans z3, FR6.trans z4, z5, by rw [z6, o6]; exact o44⟩
      · rw [w1, hb2_some, if_neg i10, w2]
        obtain ⟨A7, hA7⟩ : ∃ A7, A7 = hset (hset (hset A6 (o + 1) h (iI (p : Int))) (o + 2) h (iI tt)) (o + 4) h (iI s) := ⟨_, rfl⟩
        obtain ⟨B7, hB7⟩ : ∃ B7, B7 = (if s = 1 then hset (hset (hset B6 75 (6 + h) (iI (p : Int))) 75 (12 + h) (iI tt)) 75 (24 + h) 1 else hset (hset B6 75 (6 + h) (iI (p : Int))) 75 (12 + h) (iI tt)) := ⟨_, rfl⟩
        rw [← hA7, ← hB7]
        have r7 : ∀ k, k ≠ 75 → B7 k = B6 k := fun k a => by
          rw [hB7]; split
          · rw [hset_nek _ _ _ a, hset_nek _ _ _ a, hset_nek _ _ _ a]
          · rw [hset_nek _ _ _ a, hset_nek _ _ _ a]
        have r75 : ∀ j, j ≠ 6 + h → j ≠ 12 + h → j ≠ 24 + h → B7 75 j = B6 75 j := fun j a b c => by
          rw [hB7]; split
          · rw [hset_nej _ _ c, hset_nej _ _ b, hset_nej _ _ a]
          · rw [hset_nej _ _ b, hset_nej _ _ a]
        have r6 : B7 75 (6 + h) = iI (p : Int) := by
          rw [hB7]; split
          · rw [hset_nej _ _ (by omega), hset_nej _ _ (by omega), hset_self]
          · rw [hset_nej _ _ (by omega), hset_self]
        have r12 : B7 75 (12 + h) = iI tt := by
          rw [hB7]; split
          · rw [hset_nej _ _ (by omega), hset_self]
          · rw [hset_self]
        have r24 : B7 75 (24 + h) = iI s := by
          rw [hB7]; split
          · next z => rw [hset_self, z]; rfl
          · next z =>
            have : s = 0 := by omega
            rw [hset_nej _ _ (by omega), hset_nej _ _ (by omega), e675 _ (by omega), Q4, this]
        have t7 : ∀ k, k ≠ o + 1 → k ≠ o + 2 → k ≠ o + 4 → A7 k = A6 k := fun k a b c => by rw [hA7, hset_nek _ _ _ c, hset_nek _ _ _ b, hset_nek _ _ _ a]
        refine ⟨A7, B7, rfl, rfl, FA6.trans (fun k a b => t7 k (by omega) (by omega) (by omega)), FR6.trans ⟨fun k _ a _ _ => r7 k a, fun j _ => by rw [r7 74 (by decide)], fun j hj => r75 j (by omega) (by omega) (by omega)⟩, ?_, by rw [t7 o (by omega) (by omega) (by omega), o6]; exact o44⟩
        refine PQ.up (h0 := h) hQ ?_ ?_ ?_ (fun j i j1 j4 hi hne => ?_) (fun a i ha hi hne => ?_) ?_
        · rw [t7 o (by omega) (by omega) (by omega), o6]; exact o44
        · rw [r75 30 (by omega) (by omega) (by omega)]; exact e675 30 (by omega)
        · obtain ⟨x', a1, a2, a3, a4⟩ := hx6
          exact ⟨x', a1, a2, by rw [t7 o (by omega) (by omega) (by omega)]; exact a3, by rw [r75 31 (by omega) (by omega) (by omega)]; exact a4⟩
        · rw [← d6 j j1 j4]
          rcases (show j = 1 ∨ j = 2 ∨ j = 3 ∨ j = 4 by omega) with rfl | rfl | rfl | rfl
          · rw [hA7, hset_nek _ _ _ (by omega), hset_nek _ _ _ (by omega), hset_nej _ _ hne]
          · rw [hA7, hset_nek _ _ _ (by omega), hset_nej _ _ hne, hset_nek _ _ _ (by omega)]
          · rw [t7 (o + 3) (by omega) (by omega) (by omega)]
          · rw [hA7, hset_nej _ _ hne, hset_nek _ _ _ (by omega), hset_nek _ _ _ (by omega)]
        · rw [r75 _ (by omega) (by omega) (by omega), e675 _ (by omega)]
        · refine Or.inr ⟨?_, ⟨(p : Int), by omega, by omega, ?_, r6⟩, ⟨tt, tt0, by omega, ?_, r12⟩, ⟨f', fa, fb, ?_, ?_⟩, ⟨s, by omega, by omega, ?_, r24, fun _ => ⟨f', ga, gb, ?_⟩⟩⟩
          · rw [r75 h (by omega) (by omega) (by omega), e675 h (by omega)]; exact p1
          · rw [hA7, hset_nek _ _ _ (by omega), hset_nek _ _ _ (by omega), hset_self]
          · rw [hA7, hset_nek _ _ _ (by omega), hset_self]
          · rw [t7 (o + 3) (by omega) (by omega) (by omega), d6 3 (by omega) (by omega)]; exact fc
          · rw [r75 (18 + h) (by omega) (by omega) (by omega), e675 _ (by omega)]; exact fd
          · rw [hA7, hset_self]
          · rw [t7 (o + 3) (by omega) (by omega) (by omega), d6 3 (by omega) (by omega)]; exact fc
  · rw [if_neg i10, if_neg i10]
    obtain ⟨i1, i2⟩ := i18 hh 24 (by omega)
    have i1' : hib (24 + iI (h : Int)) 32 = true := i1
    have i2' : (24 + iI (h : Int)).toNatClampNeg = 24 + h := i2
    have lo : f_X8_lose o (iI h) A2 = some (hset A2 (o + 4) h 2) := by
      rw [f_X8_lose, in5 hh, if_neg i10, hib6 hh, if_pos rfl, iI_natc (k := h) (by omega)]
    rw [lo, hb1_some, i1', if_pos rfl, i2']
    have b75 : B2 75 = B 75 := e2 75 (by decide) (by decide)
    refine ⟨_, _, rfl, rfl, ?_, ?_, ?_, by rw [hset_nek _ _ _ (by omega), d2 o (o29 0 (by omega)) (o30 0 (by omega))]⟩
    · exact FA.trans (A' := A2) (fun k a b => d2 k (by omega) (by omega)) (FA_set _ _ _ (by omega))
    · exact FR.trans (B' := B2) ⟨fun k _ _ b c => e2 k b c, fun j _ => by rw [e2 74 (by decide) (by decide)], fun j _ => by rw [b75]⟩ (FR_set _ _ _ (by omega))
    · refine PQ.up (h0 := h) hQ ?_ ?_ ?_ (fun j i j1 j4 hi hne => ?_) (fun a i ha hi hne => ?_) ?_
      · rw [hset_nek _ _ _ (by omega), d2 o (by omega) (by omega)]
      · rw [hset_nej _ _ (by omega), b75]
      · exact ⟨(xn : Int), x0, x1, by rw [hset_nek _ _ _ (by omega), d2 o (by omega) (by omega)]; exact x2, by rw [hset_nej _ _ (by omega), b75]; exact x3⟩
      · by_cases z : j = 4
        · subst z; rw [hset_nej _ _ hne, d2 (o + 4) (o29 4 j4) (o30 4 j4)]
        · rw [hset_nek _ _ _ (show o + j ≠ o + 4 by omega), d2 (o + j) (o29 j j4) (o30 j j4)]
      · rw [hset_nej _ _ (by omega), b75]
      · refine Or.inr ⟨?_, ⟨(P : Int), P0, P1, ?_, ?_⟩, ⟨T, T0, T1, ?_, ?_⟩, ⟨f', fa, fb, ?_, ?_⟩, ⟨2, by omega, by omega, hset_self _ _ _ _, hset_self _ _ _ _, fun z => absurd z (by omega)⟩⟩
        · rw [hset_nej _ _ (by omega), b75]; exact p1
        · rw [hset_nek _ _ _ (by omega), d2 _ (by omega) (by omega)]; exact P2
        · rw [hset_nej _ _ (by omega), b75]; exact P3
        · rw [hset_nek _ _ _ (by omega), d2 _ (by omega) (by omega)]; exact T2
        · rw [hset_nej _ _ (by omega), b75]; exact T3
        · rw [hset_nek _ _ _ (by omega), d2 _ (by omega) (by omega)]; exact fc
        · rw [hset_nej _ _ (by omega), b75]; exact fd

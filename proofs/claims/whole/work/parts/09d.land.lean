theorem LR.cg {A A' B B' : HMem} {t : Nat} (h : LR A B t) (e1 : A' 11 = A 11) (e2 : A' 12 = A 12) (e3 : A' 13 = A 13) (e4 : B' 74 45 = B 74 45) (e5 : B' 102 = B 102) (e6 : B' 103 = B 103) : LR A' B' t := by
  unfold LR at h ⊢
  rw [e1, e2, e3, e4, e5, e6]; exact h
theorem ground_L {tb : Nat → Nat} {A B : HMem} {n p N t : Nat} (hN : 300 ≤ N) (hA : CP tb A n p) (hB : RP tb B n p) (hR : LR A B t) : ∃ A' B' : HMem, f_X4_readOne N A = some A' ∧ ocL A A' ∧ oBL B B' ∧ ((∃ p', p < p' ∧ CP tb A' n p' ∧ RP tb B' n p' ∧ t < 12 ∧ LR A' B' (t + 1) ∧ f_X12_readsGround N B = some (1, B')) ∨ (FT A' B' ∧ f_X12_readsGround N B = some (0, B'))) := by
  have hs := sgn_rg hA
  have hp := hA.2.2.1
  have hn := hA.2.1
  rw [f_X4_readOne, sign_ok hA, hb1_some, f_X12_readsGround, here_ok hB, hb1_some (iI (sgn tb n p))]
  obtain ⟨f1, f2, f3⟩ := FT_here (B := B) 1 p hA (by omega) (by omega) (by omega) (by omega)
  have bad : ∃ A' B' : HMem, (some (f_X10_failHere 1 A) : Option HMem) = some A' ∧ ocL A A' ∧ oBL B B' ∧ (FT A' B' ∧ hb2 (f_X12_wrongAt 1 (B 74 13) B) (fun x102 M103 => if x102 &&& 1 = x102 then some (x102, M103) else none) = some (0, B')) := by
    refine ⟨_, _, rfl, ?_, f3.L, ?_, ?_⟩
    · rw [fh_eq, hA.2.2.2.2.1]; exact f2.L
    · rw [fh_eq, hA.2.2.2.2.1]; exact f1
    · rw [hB.2.2.2.2, show (1 : Int32) = iI 1 from rfl, wrong_eq, hb2_some, if_pos (by decide)]
  by_cases hpn : p < n
  · have es : sgn tb n p = (tb p : Int) := if_pos hpn
    have hb := (hA.1 p (by omega)).1
    rw [es, show f_X4_kindOf (iI ((tb p : Nat) : Int)) = _ from kindOf_eq ⟨tb p, hb⟩]
    dsimp only
    have ein : f_X12_in (iI ((tb p : Nat) : Int)) 97 104 = if 97 ≤ tb p ∧ tb p ≤ 104 then 1 else 0 := by
      rw [show (97 : Int32) = iI 97 from rfl, show (104 : Int32) = iI 104 from rfl, in_eq (by omega) (by omega) (by omega) (by omega) (by omega) (by omega)]
      by_cases q : 97 ≤ tb p ∧ tb p ≤ 104
      · rw [if_pos q, if_pos (by omega)]
      · rw [if_neg q, if_neg (by omega)]
    by_cases hc : tb p = 126 ∨ (97 ≤ tb p ∧ tb p ≤ 104)
    · obtain ⟨a, ka1, ka2, ka3, ka4⟩ := kc_rg hc
      have eR : (if iI ((tb p : Nat) : Int) = 126 then f_X12_readsGround_J32 N (iI ((tb p : Nat) : Int)) B else if f_X12_in (iI ((tb p : Nat) : Int)) 97 104 = 0 then hb2 (f_X12_wrongAt 1 (B 74 13) B) (fun x102 M103 => if x102 &&& 1 = x102 then some (x102, M103) else none) else f_X12_readsGround_J32 N (iI ((tb p : Nat) : Int)) B) = f_X12_readsGround_J32 N (iI ((tb p : Nat) : Int)) B := by
        rw [ein]
        rcases hc with hc | hc
        · rw [if_pos (by rw [hc]; rfl)]
        · rw [if_pos hc, if_neg i10, ite_self]
      rw [eR, if_pos hc, if_neg (by rw [ka3, q0]; exact ne_i (by omega) (by omega) (by omega) (by omega) (by omega)), f_X12_readsGround_J32, hR.2.1, hR.2.2.1]
      have ht := hR.1
      by_cases h12 : t = 12
      · rw [if_neg (by rw [q12]; exact nlt_i (by omega) (by omega) (by omega)), if_pos (by rw [h12]; rfl)]
        obtain ⟨f1, f2, f3⟩ := FT_here (B := B) 4 p hA (by omega) (by omega) (by omega) (by omega)
        refine ⟨_, _, rfl, ?_, f3.L, Or.inr ⟨?_, ?_⟩⟩
        · rw [fh_eq, hA.2.2.2.2.1]; exact f2.L
        · rw [fh_eq, hA.2.2.2.2.1]; exact f1
        · rw [hB.2.2.2.2, show (4 : Int32) = iI 4 from rfl, wrong_eq, hb2_some, if_pos (by decide)]
      · obtain ⟨e1, e2⟩ := pass_ok hA hpn
        have x1 : ¬ iI (t : Int) = 12 := ne_i (b := 12) (by omega) (by omega) (by omega) (by omega) (by omega)
        have x2 : iI (t : Int) < 12 := lt_i (b := 12) (by omega) (by omega) (by omega)
        rw [if_pos x2, if_neg x1, hb1_some, hb1_some, e1]
        rw [e1] at e2
        rw [hset_nek A 3 _ (show 11 ≠ 1 by decide), hR.2.1, hset_nej B _ (show 13 ≠ 45 by decide), hB.2.2.2.2, iI_s, iI_s]
        have hA2 : CP tb (hset (hset A 1 3 (iI ((p + 1 : Nat) : Int))) 11 2 (iI ((t + 1 : Nat) : Int))) n (p + 1) := e2.cg (hset_nek _ _ _ (by decide)) (hset_nek _ _ _ (by decide))
        have hB2 : RP tb (hset (hset B 74 45 (iI ((t + 1 : Nat) : Int))) 74 13 (iI ((p + 1 : Nat) : Int))) n (p + 1) := by
          have : RP tb (hset B 74 45 (iI ((t + 1 : Nat) : Int))) n p := hB.cg (hset_nek _ _ _ (by decide)) (hset_nej _ _ (by decide)) (hset_nej _ _ (by decide))
          exact this.step hpn
        have hR2 : LR (hset (hset A 1 3 (iI ((p + 1 : Nat) : Int))) 11 2 (iI ((t + 1 : Nat) : Int))) (hset (hset B 74 45 (iI ((t + 1 : Nat) : Int))) 74 13 (iI ((p + 1 : Nat) : Int))) (t + 1) := by
          refine ⟨by omega, hset_self _ _ _ _, by rw [hset_nej _ _ (by decide), hset_self], fun p hp => ?_⟩
          rw [hset_nek _ _ _ (show 12 ≠ 11 by decide), hset_nek _ _ _ (show 12 ≠ 1 by decide), hset_nek _ _ _ (show 13 ≠ 11 by decide), hset_nek _ _ _ (show 13 ≠ 1 by decide), hset_nek _ _ _ (show 102 ≠ 74 by decide), hset_nek _ _ _ (show 102 ≠ 74 by decide), hset_nek _ _ _ (show 103 ≠ 74 by decide), hset_nek _ _ _ (show 103 ≠ 74 by decide)]
          exact hR.2.2.2 p hp
        obtain ⟨A', B', g1, g2, g3, g4⟩ := places_L (N := N) hN hc hA2 hB2 hR2
        rw [g1, hb1_some]
        have oA : ocL A A' := fun k a1 a2 a3 a4 => by rw [g2 k a1 a2 a3 a4, hset_nek _ _ _ a2, hset_nek _ _ _ a1]
        have oBB : oBL B B' := ⟨fun k a1 a2 a3 => by rw [g3.1 k a1 a2 a3, hset_nek _ _ _ a1, hset_nek _ _ _ a1], fun j a1 a2 a3 a4 => by rw [g3.2 j a1 a2 a3 a4, hset_nej _ _ a1, hset_nej _ _ a4]⟩
        refine ⟨A', B', rfl, oA, oBB, ?_⟩
        rcases g4 with ⟨p', h1, h2, h3, h4, h5⟩ | h
        · exact Or.inl ⟨p', by omega, h2, h3, by omega, h4, h5⟩
        · exact Or.inr h
    · rw [if_neg hc, if_pos rfl, if_neg (show ¬ iI ((tb p : Nat) : Int) = 126 from ne_i (b := 126) (by omega) (by omega) (by omega) (by omega) (by omega)), ein, if_neg (show ¬ (97 ≤ tb p ∧ tb p ≤ 104) by omega), if_pos rfl]
      obtain ⟨A', B', b1, b2, b3, b4⟩ := bad
      exact ⟨A', B', b1, b2, b3, Or.inr b4⟩
  · have es : sgn tb n p = -1 := if_neg hpn
    rw [es, if_pos (by decide), if_neg (by decide), if_pos (by decide)]
    obtain ⟨A', B', b1, b2, b3, b4⟩ := bad
    exact ⟨A', B', b1, b2, b3, Or.inr b4⟩
theorem ground_dead {A : HMem} {N : Nat} (h : ¬ A 1 4 = 0) : f_X4_readOne N A = some A := by
  rw [f_X4_readOne, sign_dead h, hb1_some, if_pos (by decide), fh_eq, fail_dead h]
theorem ld_dead {A : HMem} {N k : Nat} (v : Int32) (h : ¬ A 1 4 = 0) : f_X4_read_L9 N (k + 1) v A = some A := by
  rw [f_X4_read_L9]
  split
  · rfl
  · rw [ground_dead h, hb1_some, f_X10_isAt, sign_dead h, hb1_some, if_pos rfl, hb1_some, if_neg i10]
theorem land_L {tb : Nat → Nat} {n N : Nat} (hN : 300 ≤ N) : ∀ (k p t : Nat) (A B : HMem), CP tb A n p → RP tb B n p → LR A B t → 12 - t + 1 < k → ∃ A' B' : HMem, f_X4_read_L9 N k (iI t) A = some A' ∧ ocL A A' ∧ oBL B B' ∧ ((∃ t', 1 ≤ t' ∧ A' 1 4 = 0 ∧ LR A' B' t' ∧ hb2 (f_X12_readsGround N B) (fun x M => f_X12_land_L65 N k x M) = f_X12_land_J105 N 1 B') ∨ (FT A' B' ∧ hb2 (f_X12_readsGround N B) (fun x M => f_X12_land_L65 N k x M) = f_X12_land_J105 N 0 B')) := by
  intro k
  induction k with
  | zero => intro p t _ _ _ _ _ h; exfalso; omega
  | succ k ih =>
    intro p t A B hA hB hR hk
    have ht := hR.1
    obtain ⟨A1, B1, g1, g2, g3, g4⟩ := ground_L (N := N) hN hA hB hR
    rw [f_X4_read_L9, if_neg (by rw [q12]; exact nlt_i (by omega) (by omega) (by omega)), g1, hb1_some]
    rcases g4 with ⟨p', h1, h2, h3, h4, h5, h6⟩ | ⟨h1, h2⟩
    · have hs := sgn_rg h2
      have hn := h2.2.1
      have hp' := h2.2.2.1
      rw [h6, hb2_some, f_X12_land_L65, if_neg i10, f_X10_isAt, sign_ok h2, hb1_some, h3.2.2.2.1, h3.2.2.2.2]
      by_cases e : p' < n
      · have es : ¬ iI (sgn tb n p') = -1 := by
          rw [sgn, if_pos e]; exact ne_i (a := (tb p' : Int)) (b := -1) (by omega) (by omega) (by have := (h2.1 p' (by omega)).1; omega) (by omega) (by omega)
        obtain ⟨A2, B2, e1, e2, e3, -, e5⟩ := ex_tk (c := 59) h2 h3 (by omega) (by omega)
        have e1' : f_X10_expect 59 A1 = some A2 := e1
        rw [if_neg es, hb1_some, if_pos rfl, e1', hb1_some, if_neg (nl_i (by omega) (by omega) (by omega)), iI_s]
        rcases e5 with ⟨e5, e6, e7, e8⟩ | ⟨e5, e6⟩
        · have e5' : f_X12_takes 59 B1 = some (1, B2) := e5
          have hR2 : LR A2 B2 (t + 1) := h5.cg (e2 _ (by decide)) (e2 _ (by decide)) (e2 _ (by decide)) (e3.2 _ (by decide) (by decide) (by decide)) (e3.1 _ (by decide)) (e3.1 _ (by decide))
          obtain ⟨A3, B3, i1, i2, i3, i4⟩ := ih (p' + 1) (t + 1) A2 B2 e7 e8 hR2 (by omega)
          have es2 : ∀ X : Option (Int32 × HMem), (hb2 X (fun x103 M104 => if x103 = 0 then f_X12_land_L65 N k 0 M104 else f_X12_land_L65 N k 1 M104) = hb2 X (fun x M => f_X12_land_L65 N k x M)) ∨ (∃ x M, X = some (x, M) ∧ ¬ x = 0 ∧ ¬ x = 1) := fun X => by
            rcases X with _ | ⟨x, M⟩
            · exact Or.inl rfl
            · by_cases q : x = 0
              · left; subst q; rfl
              · by_cases q1 : x = 1
                · left; subst q1; rfl
                · exact Or.inr ⟨x, M, rfl, q, q1⟩
          rw [e5', hb2_some, if_neg i10]
          have bool : ∀ x M, f_X12_readsGround N B2 = some (x, M) → x = 0 ∨ x = 1 := fun x M hx => by
            obtain ⟨_, _, _, _, _, y⟩ := ground_L (N := N) hN e7 e8 hR2
            rcases y with ⟨_, _, _, _, _, _, y⟩ | ⟨_, y⟩
            · rw [y] at hx; right; injection hx with hx; injection hx with hx _; exact hx.symm
            · rw [y] at hx; left; injection hx with hx; injection hx with hx _; exact hx.symm
          have es3 : hb2 (f_X12_readsGround N B2) (fun x103 M104 => if x103 = 0 then f_X12_land_L65 N k 0 M104 else f_X12_land_L65 N k 1 M104) = hb2 (f_X12_readsGround N B2) (fun x M => f_X12_land_L65 N k x M) := by
            rcases es2 (f_X12_readsGround N B2) with q | ⟨x, M, q1, q2, q3⟩
            · exact q
            · rcases bool x M q1 with q | q
              · exact absurd q q2
              · exact absurd q q3
          rw [es3]
          exact ⟨A3, B3, i1, g2.trans (e2.L.trans i2), g3.trans (e3.L.trans i3), i4⟩
        · have e5' : f_X12_takes 59 B1 = some (0, B2) := e5
          obtain ⟨q, rfl⟩ : ∃ q, k = q + 1 := ⟨k - 1, by omega⟩
          rw [e5', hb2_some, if_pos rfl, ld_dead _ e6.dead, f_X12_land_L65, if_pos rfl]
          exact ⟨A2, B2, rfl, g2.trans e2.L, g3.trans e3.L, Or.inr ⟨e6, rfl⟩⟩
      · have es : sgn tb n p' = -1 := if_neg e
        rw [es, if_pos (show iI (-1) = -1 from rfl), hb1_some, if_neg i10, if_pos (le_i (by omega) (by omega) (by omega))]
        exact ⟨A1, B1, rfl, g2, g3, Or.inl ⟨t + 1, by omega, h2.2.2.2.2.2, h5, rfl⟩⟩
    · rw [f_X10_isAt, sign_dead h1.dead, hb1_some, if_pos rfl, hb1_some, if_neg i10, h2, hb2_some, f_X12_land_L65, if_pos rfl]
      exact ⟨A1, B1, rfl, g2, g3, Or.inr ⟨h1, rfl⟩⟩
theorem clr_L {N : Nat} (M : HMem) : ∀ (k i : Nat) (g g' : Nat → Int32), i ≤ 192 → 192 - i < k → (∀ p, p < i → g p = 0) → (∀ p, p < i → g' p = 0) → ∃ gk gp, (∀ p, p < 192 → gk p = 0) ∧ (∀ p, p < 192 → gp p = 0) ∧ f_X12_land_L33 N k (iI i) (hput (hput M 102 g) 103 g') = hb2 (f_X12_readsGround N (hput (hput M 102 gk) 103 gp)) (fun x M => f_X12_land_L65 N N x M) := by
  intro k
  induction k with
  | zero => intro i _ _ _ h; exfalso; omega
  | succ k ih =>
    intro i g g' hi hk h1 h2
    rw [f_X12_land_L33]
    by_cases e : i = 192
    · subst e
      rw [if_pos (by decide)]
      exact ⟨g, g', h1, h2, rfl⟩
    · rw [if_neg (by rw [q192]; exact nl_i (by omega) (by omega) (by omega)), hib_t (by omega) (by omega) (by omega), if_pos rfl, if_pos rfl, iI_natc (by omega), iI_s, hset_put_ne _ _ _ _ (by decide), hset_put, hset_put]
      have nx : ∀ g : Nat → Int32, (∀ p, p < i → g p = 0) → ∀ p, p < i + 1 → upd g i 0 p = 0 := fun g hg p hp => by
        simp only [upd]
        by_cases q : p = i
        · rw [if_pos q]
        · rw [if_neg q]; exact hg p (by omega)
      exact ih (i + 1) _ _ (by omega) (by omega) (nx g h1) (nx g' h2)
theorem cpy_L {N : Nat} (M : HMem) : ∀ (k i : Nat) (g g' : Nat → Int32), i ≤ 192 → 192 - i < k → (∀ p, p < i → g p = M 102 p) → (∀ p, p < i → g' p = M 103 p) → ∃ gk gp, (∀ p, p < 192 → gk p = M 102 p) ∧ (∀ p, p < 192 → gp p = M 103 p) ∧ f_X12_land_L129 N k (iI i) (hput (hput M 82 g) 83 g') = some (M 74 45, hput (hput M 82 gk) 83 gp) := by
  intro k
  induction k with
  | zero => intro i _ _ _ h; exfalso; omega
  | succ k ih =>
    intro i g g' hi hk h1 h2
    rw [f_X12_land_L129]
    by_cases e : i = 192
    · subst e
      rw [if_pos (by decide), hput_ne _ _ (by decide), hput_ne _ _ (by decide)]
      exact ⟨g, g', h1, h2, rfl⟩
    · have e1 : hput (hput M 82 g) 83 g' 102 i = M 102 i := by rw [hput_ne _ _ (by decide), hput_ne _ _ (by decide)]
      have e3 : ∀ u, hset (hput (hput M 82 g) 83 g') 82 i u = hput (hput M 82 (upd g i u)) 83 g' := fun u => by rw [hset_put_ne _ _ _ _ (by decide), hset_put]
      have e2 : ∀ u, hput (hput M 82 u) 83 g' 103 i = M 103 i := fun u => by rw [hput_ne _ _ (by decide), hput_ne _ _ (by decide)]
      rw [if_neg (by rw [q192]; exact nl_i (by omega) (by omega) (by omega)), show hib (iI (i : Int)) 192 = true from hib_t (by omega) (by omega) (by omega), if_pos rfl, if_pos rfl, hb1_some, if_pos rfl, if_pos rfl, iI_natc (by omega), iI_s, e1, e3, e2, hset_put]
      have nx : ∀ (g f : Nat → Int32), (∀ p, p < i → g p = f p) → ∀ p, p < i + 1 → upd g i (f i) p = f p := fun g f hg p hp => by
        simp only [upd]
        by_cases q : p = i
        · rw [if_pos q, q]
        · rw [if_neg q]; exact hg p (by omega)
      exact ih (i + 1) _ _ (by omega) (by omega) (nx g _ h1) (nx g' _ h2)

/-! WALKS: the class's spread and the reference's walk go side by side -/
def nbr (p w : Nat) : Nat := if w = 0 then (if p < 16 then p else p - 16) else if w = 1 then (if p % 16 = 15 then p else p + 1) else if w = 2 then (if p + 16 < 192 then p + 16 else p) else (if p % 16 = 0 then p else p - 1)
theorem nbr_all : ∀ p : Fin 192, ∀ w : Fin 4, f_X12_beside (iI ((p : Nat) : Int)) (iI ((w : Nat) : Int)) = iI ((nbr p w : Nat) : Int) ∧ f_X11_beside (iI ((p : Nat) : Int)) (iI (((w : Nat) + 1 : Nat) : Int)) = (if nbr p w = p then -1 else iI ((nbr p w : Nat) : Int)) ∧ nbr p w < 192 := by decide +kernel
theorem nbrs {p w : Nat} (hp : p < 192) (hw : w < 4) : f_X12_beside (iI (p : Int)) (iI (w : Int)) = iI ((nbr p w : Nat) : Int) ∧ f_X11_beside (iI (p : Int)) (iI ((w + 1 : Nat) : Int)) = (if nbr p w = p then -1 else iI ((nbr p w : Nat) : Int)) ∧ nbr p w < 192 := nbr_all ⟨p, hp⟩ ⟨w, hw⟩
def WK (sh : Nat → Int32) (I : Nat → Prop) (g row sg qu : Nat → Int32) (T : Nat) : Prop :=
  (∀ p, p < 192 → ∃ s : Int, -1 ≤ s ∧ s < T ∧ sg p = iI s ∧ ((sh p = 0 ∧ g p = iI (s + 1)) ∨ (¬ sh p = 0 ∧ g p = -1 ∧ s = -1)))
  ∧ (∀ i, i < T → ∃ q : Nat, q < 192 ∧ row i = iI q ∧ qu i = iI q ∧ ¬ sg q = -1)
  ∧ (∀ q : Nat, q < 192 → ¬ sg q = -1 → ∃ i, i < T ∧ qu i = iI q)
  ∧ fb_ct (fun p => decide (¬ sg p = -1)) 192 = T
  ∧ (∀ X : Nat → Prop, (∀ q, q < 192 → I q → X q) → (∀ q, q < 192 → X q → ∀ w, w < 4 → sh (nbr q w) = 0 → X (nbr q w)) → ∀ q, q < 192 → ¬ sg q = -1 → X q)
theorem WK.mk' {sh : Nat → Int32} {I : Nat → Prop} {g row sg qu : Nat → Int32} {T : Nat} (h : WK sh I g row sg qu T) : ∀ p, p < 192 → ∃ s : Int, -1 ≤ s ∧ s < T ∧ sg p = iI s ∧ ((sh p = 0 ∧ g p = iI (s + 1)) ∨ (¬ sh p = 0 ∧ g p = -1 ∧ s = -1)) := h.1
theorem WK.rw' {sh : Nat → Int32} {I : Nat → Prop} {g row sg qu : Nat → Int32} {T : Nat} (h : WK sh I g row sg qu T) : ∀ i, i < T → ∃ q : Nat, q < 192 ∧ row i = iI q ∧ qu i = iI q ∧ ¬ sg q = -1 := h.2.1
theorem WK.al {sh : Nat → Int32} {I : Nat → Prop} {g row sg qu : Nat → Int32} {T : Nat} (h : WK sh I g row sg qu T) : ∀ q : Nat, q < 192 → ¬ sg q = -1 → ∃ i, i < T ∧ qu i = iI q := h.2.2.1
theorem WK.ct {sh : Nat → Int32} {I : Nat → Prop} {g row sg qu : Nat → Int32} {T : Nat} (h : WK sh I g row sg qu T) : fb_ct (fun p => decide (¬ sg p = -1)) 192 = T := h.2.2.2.1
theorem WK.xx {sh : Nat → Int32} {I : Nat → Prop} {g row sg qu : Nat → Int32} {T : Nat} (h : WK sh I g row sg qu T) : ∀ X : Nat → Prop, (∀ q, q < 192 → I q → X q) → (∀ q, q < 192 → X q → ∀ w, w < 4 → sh (nbr q w) = 0 → X (nbr q w)) → ∀ q, q < 192 → ¬ sg q = -1 → X q := h.2.2.2.2
theorem WK.le {sh : Nat → Int32} {I : Nat → Prop} {g row sg qu : Nat → Int32} {T : Nat} (h : WK sh I g row sg qu T) : T ≤ 192 := by rw [← h.ct]; exact fb_ct_le _ _
theorem WK.lt {sh : Nat → Int32} {I : Nat → Prop} {g row sg qu : Nat → Int32} {T q : Nat} (h : WK sh I g row sg qu T) (hq : q < 192) (h2 : sg q = -1) : T < 192 := by
  have h1 := h.le
  refine Nat.lt_of_le_of_ne h1 (fun e => ?_)
  have := fb_ct_all.mp (h.ct.trans e) q hq
  simp [h2] at this
/-- one more place is come to -/
theorem WK.add {sh : Nat → Int32} {I : Nat → Prop} {g row sg qu : Nat → Int32} {T q c : Nat} {s : Int} (h : WK sh I g row sg qu T) (hc : c < 192) (hcs : sg c = iI s) (s0 : 0 ≤ s) (sT : s < T) (hq : q < 192) (hsh : sh q = 0) (hs : sg q = -1) (hw : ∃ w, w < 4 ∧ q = nbr c w) : WK sh I (upd g q (iI (s + 2))) (upd row T (iI q)) (upd sg q (iI (s + 1))) (upd qu T (iI q)) (T + 1) := by
  have hT := h.lt hq hs
  have n1 : ∀ z : Int, 0 ≤ z → z < 1000 → ¬ iI z = -1 := fun z a b => by rw [qm1]; exact ne_i (by omega) (by omega) (by omega) (by omega) (by omega)
  refine ⟨fun p hp => ?_, fun i hi => ?_, fun p hp h1 => ?_, ?_, fun X h1 h2 p hp h3 => ?_⟩
  · by_cases e : p = q
    · subst e
      refine ⟨s + 1, by omega, by omega, upd_self _ _ _, Or.inl ⟨hsh, ?_⟩⟩
      rw [upd_self, show s + 1 + 1 = s + 2 by omega]
    · obtain ⟨s', a1, a2, a3, a4⟩ := h.mk' p hp
      exact ⟨s', a1, by omega, by rw [upd_ne _ _ e]; exact a3, by rw [upd_ne _ _ e]; exact a4⟩
  · by_cases e : i = T
    · subst e
      exact ⟨q, hq, upd_self _ _ _, upd_self _ _ _, by rw [upd_self]; exact n1 _ (by omega) (by omega)⟩
    · obtain ⟨q', a1, a2, a3, a4⟩ := h.rw' i (by omega)
      refine ⟨q', a1, by rw [upd_ne _ _ e]; exact a2, by rw [upd_ne _ _ e]; exact a3, ?_⟩
      by_cases e2 : q' = q
      · rw [e2, upd_self]; exact n1 _ (by omega) (by omega)
      · rw [upd_ne _ _ e2]; exact a4
  · by_cases e : p = q
    · exact ⟨T, by omega, by rw [upd_self, e]⟩
    · rw [upd_ne _ _ e] at h1
      obtain ⟨i, i1, i2⟩ := h.al p hp h1
      exact ⟨i, by omega, by rw [upd_ne _ _ (by omega)]; exact i2⟩
  · have := fb_ct_upd (fun p => decide (¬ sg p = -1)) true (i := q) (n := 192) hq
    rw [h.ct] at this
    simp only [hs, not_true_eq_false, decide_false, if_true] at this
    have e : fb_ct (fun p => decide (¬ upd sg q (iI (s + 1)) p = -1)) 192 = fb_ct (fun k => if k = q then true else decide (¬ sg k = -1)) 192 := by
      apply fb_ct_cong
      intro k hk
      by_cases e : k = q
      · rw [if_pos e, e, upd_self]; simp [n1 (s + 1) (by omega) (by omega)]
      · rw [if_neg e, upd_ne _ _ e]
    rw [e]
    simpa using this
  · by_cases e : p = q
    · obtain ⟨w, w1, w2⟩ := hw
      have := h2 c hc (h.xx X h1 h2 c hc (by rw [hcs]; exact n1 _ s0 (by omega))) w w1 (by rw [← w2]; exact hsh)
      rw [← w2] at this
      rw [e]; exact this
    · rw [upd_ne _ _ e] at h3
      exact h.xx X h1 h2 p hp h3
def mA (A0 : HMem) (g row : Nat → Int32) : HMem := hput (hput A0 33 g) 34 row
def mB (B0 : HMem) (sg qu : Nat → Int32) : HMem := hput (hput B0 106 sg) 107 qu
theorem mA33 (A0 : HMem) (g row : Nat → Int32) : mA A0 g row 33 = g := by rw [mA, hput_ne _ _ (by decide), hput_self]
theorem mA34 (A0 : HMem) (g row : Nat → Int32) : mA A0 g row 34 = row := by rw [mA, hput_self]
theorem mB106 (A0 : HMem) (g row : Nat → Int32) : mB A0 g row 106 = g := by rw [mB, hput_ne _ _ (by decide), hput_self]
theorem mB107 (A0 : HMem) (g row : Nat → Int32) : mB A0 g row 107 = row := by rw [mB, hput_self]
theorem mB108 (A0 : HMem) (g row : Nat → Int32) : mB A0 g row 108 = A0 108 := by rw [mB, hput_ne _ _ (by decide), hput_ne _ _ (by decide)]
theorem mA_set34 (A0 : HMem) (g row : Nat → Int32) (j : Nat) (v : Int32) : hset (mA A0 g row) 34 j v = mA A0 g (upd row j v) := by rw [mA, hset_put, mA]
theorem mA_set33 (A0 : HMem) (g row : Nat → Int32) (j : Nat) (v : Int32) : hset (mA A0 g row) 33 j v = mA A0 (upd g j v) row := by rw [mA, hset_put_ne _ _ _ _ (by decide), hset_put, mA]
theorem mB_set107 (A0 : HMem) (g row : Nat → Int32) (j : Nat) (v : Int32) : hset (mB A0 g row) 107 j v = mB A0 g (upd row j v) := by rw [mB, hset_put, mB]
theorem mB_set106 (A0 : HMem) (g row : Nat → Int32) (j : Nat) (v : Int32) : hset (mB A0 g row) 106 j v = mB A0 (upd g j v) row := by rw [mB, hset_put_ne _ _ _ _ (by decide), hset_put, mB]
theorem n1i {z : Int} (a : 0 ≤ z) (b : z < 1000) : ¬ iI z = -1 := by rw [qm1]; exact ne_i (by omega) (by omega) (by omega) (by omega) (by omega)
theorem wk_in {A0 B0 : HMem} {n i c : Nat} {I : Nat → Prop} (hc : c < 192) (hi : i < 192) (r r' : Int32 → Int32 → HMem → Option HMem) : ∀ (k w T : Nat) (g row sg qu : Nat → Int32), WK (B0 108) I g row sg qu T → i < T → qu i = iI c → w ≤ 4 → 4 - w < k → (∀ w', w' < w → B0 108 (nbr c w') = 0 → ¬ sg (nbr c w') = -1) → ∃ (T' : Nat) (g' row' sg' qu' : Nat → Int32), WK (B0 108) I g' row' sg' qu' T' ∧ T ≤ T' ∧ (∀ p, p < 192 → ¬ sg p = -1 → ¬ sg' p = -1) ∧ (∀ j, j < T → qu' j = qu j) ∧ (∀ w', w' < 4 → B0 108 (nbr c w') = 0 → ¬ sg' (nbr c w') = -1) ∧ f_X9_spread_L27 n r (iI i) (iI c) k (iI T) (iI ((w + 1 : Nat) : Int)) (mA A0 g row) = r (iI T') (iI ((i + 1 : Nat) : Int)) (mA A0 g' row') ∧ f_X12_walksFrom_L48 n r' (iI i) k (iI T) (iI w) (mB B0 sg qu) = r' (iI T') (iI ((i + 1 : Nat) : Int)) (mB B0 sg' qu') := by
  intro k
  induction k with
  | zero => intro w _ _ _ _ _ _ _ _ _ h; exfalso; omega
  | succ k ih =>
    intro w T g row sg qu hW hiT hqi w1 w2 hd
    have hle := hW.le
    rw [f_X9_spread_L27, f_X12_walksFrom_L48]
    by_cases hw4 : w = 4
    · subst hw4
      rw [if_pos (by decide), if_pos (by decide), iI_s]
      exact ⟨T, g, row, sg, qu, hW, Nat.le_refl _, fun p _ h => h, fun j _ => rfl, hd, rfl, rfl⟩
    · obtain ⟨b1, b2, b3⟩ := nbrs hc (show w < 4 by omega)
      have x5 : ¬ (5 : Int32) ≤ iI ((w + 1 : Nat) : Int) := by rw [q5]; exact nl_i (by omega) (by omega) (by omega)
      have x4 : ¬ (4 : Int32) ≤ iI (w : Int) := by rw [show (4 : Int32) = iI 4 from rfl]; exact nl_i (by omega) (by omega) (by omega)
      have hi' : hib (iI (i : Int)) 192 = true := hib_t (by omega) (by omega) (by omega)
      have hb' : hib (iI ((nbr c w : Nat) : Int)) 192 = true := hib_t (by omega) (by omega) (by omega)
      have hc' : hib (iI (c : Int)) 192 = true := hib_t (by omega) (by omega) (by omega)
      rw [if_neg x5, if_neg x4, b2, iI_natc (k := i) (by omega), mB107, hqi, b1, iI_natc (k := nbr c w) (by omega), iI_natc (k := c) (by omega), mB106, mB108, iI_s w, iI_s (w + 1), iI_s T]
      simp only [hi', hb', hc', if_true]
      have go : (B0 108 (nbr c w) = 0 → ¬ sg (nbr c w) = -1) → ∃ (T' : Nat) (g' row' sg' qu' : Nat → Int32), WK (B0 108) I g' row' sg' qu' T' ∧ T ≤ T' ∧ (∀ p, p < 192 → ¬ sg p = -1 → ¬ sg' p = -1) ∧ (∀ j, j < T → qu' j = qu j) ∧ (∀ w', w' < 4 → B0 108 (nbr c w') = 0 → ¬ sg' (nbr c w') = -1) ∧ f_X9_spread_L27 n r (iI i) (iI c) k (iI T) (iI ((w + 1 + 1 : Nat) : Int)) (mA A0 g row) = r (iI T') (iI ((i + 1 : Nat) : Int)) (mA A0 g' row') ∧ f_X12_walksFrom_L48 n r' (iI i) k (iI T) (iI ((w + 1 : Nat) : Int)) (mB B0 sg qu) = r' (iI T') (iI ((i + 1 : Nat) : Int)) (mB B0 sg' qu') := fun h => ih (w + 1) T g row sg qu hW hiT hqi (by omega) (by omega) (fun w' h1 => by
        by_cases e : w' = w
        · rw [e]; exact h
        · exact hd w' (by omega))
      have hcv : ¬ sg c = -1 := by
        obtain ⟨q, q1, q2, q3, q4⟩ := hW.rw' i hiT
        rw [hqi, iI_eq (by omega) (by omega) (by omega) (by omega)] at q3
        rw [show c = q by omega]; exact q4
      obtain ⟨s, s1, s2, s3, s4⟩ := hW.mk' _ b3
      obtain ⟨t, t1, t2, t3, t4⟩ := hW.mk' c hc
      have t0 : 0 ≤ t := by
        by_cases e : t = -1
        · rw [e] at t3; exact absurd t3 hcv
        · clear s4 t4; omega
      by_cases e : nbr c w = c
      · -- off the land
        rw [if_pos e, if_pos (show (-1 : Int32) = -1 from rfl), e, if_neg hcv]
        have := go (fun _ => by rw [e]; exact hcv)
        rw [ite_self]
        exact this
      · have ne1 : ¬ iI ((nbr c w : Nat) : Int) = -1 := n1i (by omega) (by omega)
        rw [if_neg e, if_neg ne1, markAt_in b3, hb1_some, mA33]
        rcases s4 with ⟨s5, s6⟩ | ⟨s5, s6, s7⟩
        · rw [if_pos s5, s6]
          by_cases z : s = -1
          · subst z
            have hT := hW.lt b3 s3
            rw [if_pos (show iI (-1 + 1) = 0 from rfl), if_neg (show ¬ (192 : Int32) ≤ iI (T : Int) by rw [q192]; exact nl_i (by omega) (by omega) (by omega)), show hib (iI (T : Int)) 192 = true from hib_t (by omega) (by omega) (by omega), if_pos rfl, if_pos rfl, hb1_some, iI_natc (k := T) (by omega), mA_set34, markAt_in hc, hb1_some, mA33, markPlace_in b3, hb1_some, mA_set33, if_pos (show sg (nbr c w) = -1 from s3), mB_set106, mB_set107]
            have gc : g c = iI (t + 1) := by
              rcases t4 with ⟨_, t6⟩ | ⟨_, _, t7⟩
              · exact t6
              · omega
            rw [gc, t3, iI_1, iI_1, show t + 1 + 1 = t + 2 by omega]
            have hW2 := hW.add hc t3 t0 t2 b3 s5 s3 ⟨w, by omega, rfl⟩
            obtain ⟨T', g', row', sg', qu', c1, c2, c3, c4, c5, c6, c7⟩ := ih (w + 1) (T + 1) _ _ _ _ hW2 (by omega) (by rw [upd_ne _ _ (by omega)]; exact hqi) (by omega) (by omega) (fun w' h1 h2 => by
              by_cases e2 : nbr c w' = nbr c w
              · rw [e2, upd_self]; exact n1i (by omega) (by omega)
              · rw [upd_ne _ _ e2]
                by_cases e3 : w' = w
                · rw [e3] at e2; exact absurd rfl e2
                · exact hd w' (by omega) h2)
            refine ⟨T', g', row', sg', qu', c1, by omega, fun p hp h => c3 p hp ?_, fun j hj => ?_, c5, c6, c7⟩
            · by_cases e2 : p = nbr c w
              · rw [e2, upd_self]; exact n1i (by omega) (by omega)
              · rw [upd_ne _ _ e2]; exact h
            · rw [c4 j (by omega), upd_ne _ _ (by omega)]
          · rw [if_neg (show ¬ iI (s + 1) = 0 by rw [q0]; exact ne_i (by omega) (by omega) (by omega) (by omega) (by omega)), s3, if_neg (n1i (by omega) (by omega))]
            exact go (fun _ => by rw [s3]; exact n1i (by omega) (by omega))
        · rw [if_neg s5, s6, if_neg (by decide)]
          exact go (fun h => absurd h s5)
theorem wk_out {A0 B0 : HMem} {n : Nat} {I : Nat → Prop} (hn : 10 ≤ n) : ∀ (k i T : Nat) (g row sg qu : Nat → Int32), WK (B0 108) I g row sg qu T → i ≤ T → 192 - i < k → (∀ j, j < i → ∀ q : Nat, q < 192 → qu j = iI q → ∀ w, w < 4 → B0 108 (nbr q w) = 0 → ¬ sg (nbr q w) = -1) → ∃ (T' : Nat) (g' row' sg' qu' : Nat → Int32), WK (B0 108) I g' row' sg' qu' T' ∧ (∀ p, p < 192 → ¬ sg p = -1 → ¬ sg' p = -1) ∧ (∀ q, q < 192 → ¬ sg' q = -1 → ∀ w, w < 4 → B0 108 (nbr q w) = 0 → ¬ sg' (nbr q w) = -1) ∧ f_X9_spread_L4 n k (iI T) (iI i) (mA A0 g row) = some (mA A0 g' row') ∧ f_X12_walksFrom_L40 n k (iI T) (iI i) (mB B0 sg qu) = some (mB B0 sg' qu') := by
  intro k
  induction k with
  | zero => intro i _ _ _ _ _ _ _ h; exfalso; omega
  | succ k ih =>
    intro i T g row sg qu hW hiT hk hd
    have hle := hW.le
    rw [f_X9_spread_L4, f_X12_walksFrom_L40]
    by_cases he : i = T
    · subst he
      have : f_X9_spread_L4 n (k + 1) (iI i) (iI i) (mA A0 g row) = some (mA A0 g row) := by
        rw [f_X9_spread_L4]
        split
        · rfl
        · rw [if_pos (le_i (Int.le_refl _) (by omega) (by omega))]
      rw [f_X9_spread_L4] at this
      rw [this, if_pos (le_i (Int.le_refl _) (by omega) (by omega))]
      refine ⟨i, g, row, sg, qu, hW, fun p _ h => h, fun q hq h w hw h2 => ?_, rfl, rfl⟩
      obtain ⟨j, j1, j2⟩ := hW.al q hq h
      exact hd j j1 q hq j2 w hw h2
    · obtain ⟨c, c1, c2, c3, c4⟩ := hW.rw' i (by omega)
      rw [if_neg (show ¬ (192 : Int32) ≤ iI (i : Int) by rw [q192]; exact nl_i (by omega) (by omega) (by omega)), if_neg (show ¬ iI (T : Int) ≤ iI (i : Int) from nl_i (by omega) (by omega) (by omega)), hib_t (by omega) (by omega) (by omega), if_pos rfl, iI_natc (by omega), mA34, c2, if_neg (show ¬ iI (T : Int) ≤ iI (i : Int) from nl_i (by omega) (by omega) (by omega))]
      obtain ⟨T', g', row', sg', qu', e1, e2, e3, e4, e5, e6, e7⟩ := wk_in (A0 := A0) (B0 := B0) (n := n) (i := i) c1 (by omega) (f_X9_spread_L4 n k) (f_X12_walksFrom_L40 n k) n 0 T g row sg qu hW (by omega) c3 (by omega) (by omega) (fun w' h => absurd h (by omega))
      have e6' : f_X9_spread_L27 n (f_X9_spread_L4 n k) (iI i) (iI c) n (iI T) 1 (mA A0 g row) = f_X9_spread_L4 n k (iI T') (iI ((i + 1 : Nat) : Int)) (mA A0 g' row') := e6
      have e7' : f_X12_walksFrom_L48 n (f_X12_walksFrom_L40 n k) (iI i) n (iI T) 0 (mB B0 sg qu) = f_X12_walksFrom_L40 n k (iI T') (iI ((i + 1 : Nat) : Int)) (mB B0 sg' qu') := e7
      rw [e6', e7']
      obtain ⟨T2, g2, row2, sg2, qu2, d1, d2, d3, d4, d5⟩ := ih (i + 1) T' g' row' sg' qu' e1 (by omega) (by omega) (fun j hj q hq h w hw h2 => by
        by_cases x : j = i
        · rw [x, e4 i (by omega), c3, iI_eq (by omega) (by omega) (by omega) (by omega)] at h
          have : q = c := by omega
          rw [this]
          rw [this] at h2
          exact e5 w hw h2
        · rw [e4 j (by omega)] at h
          have b3 := (nbrs hq hw).2.2
          exact e3 _ b3 (hd j (by omega) q hq h w hw h2))
      exact ⟨T2, g2, row2, sg2, qu2, d1, fun p hp h => d2 p hp (e3 p hp h), d3, d4, d5⟩

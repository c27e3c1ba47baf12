/-! crowd -/
/-- where creature c is at time t; 192: nowhere -/
def wc (M : HMem) (t : Int) (c : Nat) : Nat := match f_X12_whereAt (iI c) (iI t) M with | some v => if v = -1 then 192 else v.toNatClampNeg | none => 192
theorem wc_C {M : HMem} (hLs : ILines M) {t : Int} (t0 : 0 ≤ t) (t1 : t ≤ 20000) {c : Nat} (hc : c < 8) : (wc M t c = 192 ∧ f_X12_whereAt (iI c) (iI t) M = some (-1) ∧ (f_X0_laid (iI c) M = some none ∨ (f_X0_laid (iI c) M = some (some (50 + 3 * c)) ∧ f_X1_placeAt (50 + 3 * c) (iI t) M = some (-2)))) ∨ (wc M t c < 192 ∧ f_X12_whereAt (iI c) (iI t) M = some (iI (wc M t c)) ∧ f_X0_laid (iI c) M = some (some (50 + 3 * c)) ∧ f_X1_placeAt (50 + 3 * c) (iI t) M = some (iI (wc M t c))) := by
  rcases lineC hLs hc with ⟨l1, l2, l3⟩ | ⟨fr, ln, hL, l1, l2⟩
  · have e := whereAt_no (w := iI t) l2
    exact Or.inl ⟨by simp [wc, e], e, Or.inl l1⟩
  · have hr := hL.rg
    by_cases h : fr ≤ t ∧ t ≤ fr + ln
    · have e := whereAt_t hL h
      have hp := hL.pb (k := (t - fr).toNat) (by omega)
      have ew : wc M t c = pl M c (t - fr).toNat := by
        unfold wc
        rw [e]
        show (if iI _ = -1 then 192 else _) = _
        rw [if_neg (pl_ne hL (by omega)), iI_natc (by omega)]
      rw [ew]
      exact Or.inr ⟨hp, e, l1, placeAt_t hL h⟩
    · have e := whereAt_out hL (by omega) (by omega) h
      exact Or.inl ⟨by simp [wc, e], e, Or.inr ⟨l1, placeAt_out hL (by omega) (by omega) h⟩⟩
def nA (M : HMem) (t : Int) (i p : Nat) : Nat := fb_ct (fun c => wc M t c == p) i
theorem nA_s (M : HMem) (t : Int) (i p : Nat) : nA M t (i + 1) p = nA M t i p + (if wc M t i = p then 1 else 0) := by
  rw [nA, fb_ct_succ]
  by_cases h : wc M t i = p <;> simp [nA, h]
theorem nA_le (M : HMem) (t : Int) (i p : Nat) : nA M t i p ≤ i := fb_ct_le _ _
theorem crAt_L {M : HMem} {n : Nat} (hLs : ILines M) {t : Int} (t0 : 0 ≤ t) (t1 : t ≤ 20000) {p : Nat} (hp : p < 192) : ∀ (k c : Nat), c ≤ 8 → 8 - c < k → f_X0_creaturesAt_L5 n (iI p) (iI t) M k (iI (nA M t c p : Nat)) (iI c) = some (iI (nA M t 8 p : Nat)) := by
  intro k
  induction k with
  | zero => intro c _ h; exfalso; omega
  | succ k ih =>
    intro c c1 c2
    rw [f_X0_creaturesAt_L5]
    by_cases hc : c = 8
    · subst hc; rw [if_pos (by decide)]
    · have e := ih (c + 1) (by omega) (by omega)
      rw [if_neg (nle8 (by omega)), isPlace_1 (by omega) (by omega), if_neg i10, iI_s, iI_s]
      rw [nA_s] at e
      rcases wc_C hLs t0 t1 (c := c) (by omega) with ⟨w1, w2, w3 | ⟨w3, w4⟩⟩ | ⟨w1, w2, w3, w4⟩
      · rw [if_neg (by omega)] at e
        rw [w3, hb1_some]; exact e
      · rw [if_neg (by omega)] at e
        rw [w3, hb1_some]
        dsimp only
        rw [w4, hb1_some, if_neg (by rw [qm2]; exact ne_i (by omega) (by omega) (by omega) (by omega) (by omega))]
        exact e
      · rw [w3, hb1_some]
        dsimp only
        rw [w4, hb1_some]
        by_cases q : wc M t c = p
        · rw [if_pos q] at e
          rw [if_pos (by rw [q])]; exact e
        · rw [if_neg q] at e
          rw [if_neg (ne_i (by omega) (by omega) (by omega) (by omega) (by omega))]; exact e
theorem crAt_eq {M : HMem} {n : Nat} (hn : 200 ≤ n) (hLs : ILines M) {t : Int} (t0 : 0 ≤ t) (t1 : t ≤ 20000) {p : Nat} (hp : p < 192) : f_X0_creaturesAt n (iI p) (iI t) M = some (iI (nA M t 8 p : Nat)) := crAt_L hLs t0 t1 hp n 0 (by omega) (by omega)
theorem crAt_no {M : HMem} {n : Nat} (hn : 200 ≤ n) (v : Int32) : f_X0_creaturesAt n (-2) v M = some 0 := by
  obtain ⟨q, rfl⟩ : ∃ q, n = q + 1 := ⟨n - 1, by omega⟩
  rw [f_X0_creaturesAt, f_X0_creaturesAt_L5, if_neg (by decide), if_pos (by decide)]
theorem crw_R {M : HMem} {n p : Nat} (hLs : ILines M) {t : Int} (t0 : 0 ≤ t) (t1 : t ≤ 20000) (hp : p < 192) (r : Int32 → Int32 → Int32 → Option Int32) (v2 v3 : Int32) (m : Nat) (hm : m ≤ 100) : ∀ (k c : Nat), c ≤ 8 → 8 - c < k → f_X12_crowd_L45 n r (iI t) v2 v3 (iI m) (iI p) M k (iI (nA M t c p : Nat)) (iI c) = if m < nA M t 8 p then r (iI p) (iI (nA M t 8 p : Nat)) (iI ((p + 1 : Nat) : Int)) else r v3 (iI m) (iI ((p + 1 : Nat) : Int)) := by
  intro k
  induction k with
  | zero => intro c _ h; exfalso; omega
  | succ k ih =>
    intro c c1 c2
    rw [f_X12_crowd_L45]
    by_cases hc : c = 8
    · subst hc
      have := nA_le M t 8 p
      rw [if_pos (by decide), iI_s]
      by_cases q : m < nA M t 8 p
      · rw [if_pos q, if_pos (lt_i (by omega) (by omega) (by omega))]
      · rw [if_neg q, if_neg (nlt_i (by omega) (by omega) (by omega))]
    · have e := ih (c + 1) (by omega) (by omega)
      rw [if_neg (nle8 (by omega)), iI_s, iI_s]
      rw [nA_s] at e
      rcases wc_C hLs t0 t1 (c := c) (by omega) with ⟨w1, w2, w3⟩ | ⟨w1, w2, w3, w4⟩
      · rw [if_neg (show ¬ wc M t c = p by omega)] at e
        rw [w2, hb1_some, if_neg (by rw [qm1]; exact ne_i (by omega) (by omega) (by omega) (by omega) (by omega))]; exact e
      · rw [w2, hb1_some]
        by_cases q : wc M t c = p
        · rw [if_pos q] at e
          rw [if_pos (by rw [q])]; exact e
        · rw [if_neg q] at e
          rw [if_neg (ne_i (by omega) (by omega) (by omega) (by omega) (by omega))]; exact e
/-- the fullest place, the lowest of them -/
def isF (N : Nat → Nat) (q : Nat) : Prop := q < 192 ∧ 1 ≤ N q ∧ ∀ p, p < 192 → N p < N q ∨ (N p = N q ∧ q ≤ p)
theorem crw_O {M : HMem} {n : Nat} (hn : 200 ≤ n) (hLs : ILines M) {t : Int} (t0 : 0 ≤ t) (t1 : t ≤ 20000) (v2 : Int32) : ∀ (k i : Nat), i ≤ 192 → 192 - i < k → (∀ p, p < i → nA M t 8 p = 0) → ((∀ p, p < 192 → nA M t 8 p = 0) ∧ f_X12_crowd_L31 n (iI t) v2 M k (-2) 0 (iI i) = some (if v2 = 0 then -2 else 0)) ∨ (∃ q, isF (nA M t 8) q ∧ f_X12_crowd_L31 n (iI t) v2 M k (-2) 0 (iI i) = some (if v2 = 0 then iI q else iI (nA M t 8 q : Nat))) := by
  have sec : ∀ (k i b : Nat), i ≤ 192 → 192 - i < k → b < i → 1 ≤ nA M t 8 b → (∀ p, p < i → nA M t 8 p < nA M t 8 b ∨ (nA M t 8 p = nA M t 8 b ∧ b ≤ p)) → ∃ q, isF (nA M t 8) q ∧ f_X12_crowd_L31 n (iI t) v2 M k (iI b) (iI (nA M t 8 b : Nat)) (iI i) = some (if v2 = 0 then iI q else iI (nA M t 8 q : Nat)) := by
    intro k
    induction k with
    | zero => intro i b _ h; exfalso; omega
    | succ k ih =>
      intro i b i1 i2 i3 i4 i5
      rw [f_X12_crowd_L31]
      by_cases hi : i = 192
      · subst hi
        rw [if_pos (by decide)]
        refine ⟨b, ⟨i3, i4, i5⟩, ?_⟩
        split <;> rfl
      · have := nA_le M t 8 b
        have e := crw_R (n := n) (p := i) hLs t0 t1 (by omega) (f_X12_crowd_L31 n (iI t) v2 M k) v2 (iI b) (nA M t 8 b) (by omega) n 0 (by omega) (by omega)
        rw [show nA M t 0 i = 0 from rfl] at e
        rw [if_neg (by rw [q192]; exact nl_i (by omega) (by omega) (by omega)), show (0 : Int32) = iI ((0 : Nat) : Int) from rfl, e]
        by_cases q : nA M t 8 b < nA M t 8 i
        · rw [if_pos q]
          refine ih (i + 1) i (by omega) (by omega) (by omega) (by omega) (fun p hp => ?_)
          by_cases h : p = i
          · subst h; right; omega
          · have := i5 p (by omega); left; omega
        · rw [if_neg q]
          refine ih (i + 1) b (by omega) (by omega) (by omega) (by omega) (fun p hp => ?_)
          by_cases h : p = i
          · subst h; omega
          · exact i5 p (by omega)
  intro k
  induction k with
  | zero => intro i _ h; exfalso; omega
  | succ k ih =>
    intro i i1 i2 i3
    rw [f_X12_crowd_L31]
    by_cases hi : i = 192
    · subst hi
      rw [if_pos (by decide)]
      refine Or.inl ⟨i3, ?_⟩
      split <;> rfl
    · have e := crw_R (n := n) (p := i) hLs t0 t1 (by omega) (f_X12_crowd_L31 n (iI t) v2 M k) v2 (-2) 0 (by omega) n 0 (by omega) (by omega)
      rw [show nA M t 0 i = 0 from rfl] at e
      rw [if_neg (by rw [q192]; exact nl_i (by omega) (by omega) (by omega)), show (0 : Int32) = iI ((0 : Nat) : Int) from rfl, e]
      by_cases q : 0 < nA M t 8 i
      · rw [if_pos q]
        refine Or.inr (sec k (i + 1) i (by omega) (by omega) (by omega) (by omega) (fun p hp => ?_))
        by_cases h : p = i
        · subst h; right; omega
        · have := i3 p (by omega); left; omega
      · rw [if_neg q]
        exact ih (i + 1) (by omega) (by omega) (fun p hp => by
          by_cases h : p = i
          · subst h; omega
          · exact i3 p (by omega))
theorem fst_O {M : HMem} {n : Nat} (hn : 200 ≤ n) (hLs : ILines M) {t : Int} (t0 : 0 ≤ t) (t1 : t ≤ 20000) {q : Nat} (hq : isF (nA M t 8) q) : ∀ (k c : Nat) (a b : Int32), c ≤ 8 → 8 - c < k → ((a = -2 ∧ b = 0) ∨ ∃ d, d < 192 ∧ 1 ≤ nA M t 8 d ∧ a = iI d ∧ b = iI (nA M t 8 d : Nat)) → ((∀ e, e < c → wc M t e ≠ q) ∨ (a = iI q ∧ b = iI (nA M t 8 q : Nat))) → f_X9_fullestPlace_L8 n (iI t) M k a b (iI c) = some (iI q) := by
  obtain ⟨q1, q2, q3⟩ := hq
  have hN := fun p => nA_le M t 8 p
  intro k
  induction k with
  | zero => intro c _ _ _ h; exfalso; omega
  | succ k ih =>
    intro c a b c1 c2 hab hc
    rw [f_X9_fullestPlace_L8]
    by_cases h8 : c = 8
    · subst h8
      rw [if_pos (by decide)]
      rcases hc with hc | ⟨rfl, rfl⟩
      · exfalso
        obtain ⟨e, e1, e2⟩ := fb_ct_pos.mp q2
        exact hc e e1 (by simpa using e2)
      · rfl
    · have hc8 : c < 8 := by clear hab hc; omega
      have c3 : 8 - (c + 1) < k := by clear hab hc; omega
      rw [if_neg (nle8 hc8)]
      have skip : wc M t c ≠ q → f_X9_fullestPlace_L8 n (iI t) M k a b (iI ((c + 1 : Nat) : Int)) = some (iI q) := fun hne => ih (c + 1) a b hc8 c3 hab (by
        rcases hc with hc | hc
        · left; intro e he
          by_cases x : e = c
          · rw [x]; exact hne
          · exact hc e (by omega)
        · exact Or.inr hc)
      have none2 : wc M t c = 192 → f_X9_fullestPlace_J42 n (f_X9_fullestPlace_L8 n (iI t) M k) (iI t) a b (iI c) (-2) M = some (iI q) := fun h19 => by
        have s := skip (by omega)
        rw [f_X9_fullestPlace_J42, crAt_no hn, hb1_some, iI_s]
        have hb0 : ∃ m : Nat, m ≤ 8 ∧ b = iI m := by
          rcases hab with ⟨-, rfl⟩ | ⟨d, -, -, -, rfl⟩
          · exact ⟨0, by omega, rfl⟩
          · exact ⟨_, hN d, rfl⟩
        obtain ⟨m, m1, rfl⟩ := hb0
        rw [if_neg (by rw [q0]; exact nlt_i (by omega) (by omega) (by omega))]
        split
        · rw [if_pos (by decide)]; exact s
        · exact s
      rcases wc_C hLs t0 t1 hc8 with ⟨w1, w2, w3 | ⟨w3, w4⟩⟩ | ⟨w1, w2, w3, w4⟩
      · rw [w3, hb1_some]
        exact none2 w1
      · rw [w3, hb1_some]
        dsimp only
        rw [w4, hb1_some]
        exact none2 w1
      · rw [w3, hb1_some]
        dsimp only
        rw [w4, hb1_some, f_X9_fullestPlace_J42, crAt_eq hn hLs t0 t1 w1, hb1_some, iI_s]
        have hpos : 1 ≤ nA M t 8 (wc M t c) := fb_ct_pos.mpr ⟨c, hc8, by simp⟩
        have hN1 := hN (wc M t c)
        have take : ((∀ e, e < c → wc M t e ≠ q) ∨ wc M t c = q) → f_X9_fullestPlace_L8 n (iI t) M k (iI (wc M t c)) (iI (nA M t 8 (wc M t c) : Nat)) (iI ((c + 1 : Nat) : Int)) = some (iI q) := fun h => ih (c + 1) _ _ hc8 c3 (Or.inr ⟨_, w1, hpos, rfl, rfl⟩) (by
          by_cases x : wc M t c = q
          · right; rw [x]; exact ⟨rfl, rfl⟩
          · rcases h with h | h
            · left; intro e he
              by_cases y : e = c
              · rw [y]; exact x
              · exact h e (by clear hab hc; omega)
            · exact absurd h x)
        have d3 := q3 (wc M t c) w1
        have fromc : ∀ {d : Nat}, d ≠ q → a = iI d → d < 192 → ∀ e, e < c → wc M t e ≠ q := fun {d} hd ha hd2 => by
          rcases hc with hc | ⟨hc, -⟩
          · exact hc
          · rw [ha, iI_eq (by omega) (by omega) (by omega) (by omega)] at hc
            omega
        rcases hab with ⟨rfl, rfl⟩ | ⟨d, d1, d2, rfl, rfl⟩
        · rw [if_pos (by rw [q0]; exact lt_i (by omega) (by omega) (by omega))]
          refine take (Or.inl ?_)
          rcases hc with hc | ⟨hc, -⟩
          · exact hc
          · exact absurd hc (by rw [qm2]; exact ne_i (by omega) (by omega) (by omega) (by omega) (by omega))
        · have hN2 := hN d
          have d4 := q3 d d1
          by_cases x : nA M t 8 d < nA M t 8 (wc M t c)
          · rw [if_pos (lt_i (by omega) (by omega) (by omega))]
            exact take (Or.inl (fromc (d := d) (fun h => by subst h; omega) rfl d1))
          · rw [if_neg (nlt_i (by omega) (by omega) (by omega))]
            by_cases y : nA M t 8 (wc M t c) = nA M t 8 d
            · rw [if_pos (by rw [y]), if_neg (by rw [q0]; exact nl_i (by omega) (by omega) (by omega))]
              by_cases z : d ≤ wc M t c
              · rw [if_pos (le_i (by omega) (by omega) (by omega))]
                by_cases u : wc M t c = q
                · have : d = q := by rw [u] at y z; omega
                  subst this
                  exact ih (c + 1) _ _ hc8 c3 (Or.inr ⟨d, d1, d2, rfl, rfl⟩) (Or.inr ⟨rfl, rfl⟩)
                · exact skip u
              · rw [if_neg (nl_i (by omega) (by omega) (by omega))]
                exact take (Or.inl (fromc (d := d) (fun h => by subst h; omega) rfl d1))
            · rw [if_neg (ne_i (by omega) (by omega) (by omega) (by omega) (by omega))]
              exact skip (fun h => by rw [h] at x y; omega)
theorem fst_0 {M : HMem} {n : Nat} (hn : 200 ≤ n) (hLs : ILines M) {t : Int} (t0 : 0 ≤ t) (t1 : t ≤ 20000) (hq : ∀ p, p < 192 → nA M t 8 p = 0) : ∀ (k c : Nat), c ≤ 8 → 8 - c < k → f_X9_fullestPlace_L8 n (iI t) M k (-2) 0 (iI c) = some (-2) := by
  intro k
  induction k with
  | zero => intro c _ h; exfalso; omega
  | succ k ih =>
    intro c c1 c2
    rw [f_X9_fullestPlace_L8]
    by_cases h8 : c = 8
    · subst h8
      rw [if_pos (by decide)]
    · have e := ih (c + 1) (by omega) (by omega)
      have e2 : f_X9_fullestPlace_J42 n (f_X9_fullestPlace_L8 n (iI t) M k) (iI t) (-2) 0 (iI c) (-2) M = some (-2) := by
        rw [f_X9_fullestPlace_J42, crAt_no hn, hb1_some, iI_s, if_neg (by decide), if_pos rfl, if_pos (by decide)]; exact e
      rw [if_neg (nle8 (by omega))]
      rcases wc_C hLs t0 t1 (c := c) (by omega) with ⟨w1, w2, w3 | ⟨w3, w4⟩⟩ | ⟨w1, w2, w3, w4⟩
      · rw [w3, hb1_some]; exact e2
      · rw [w3, hb1_some]
        dsimp only
        rw [w4, hb1_some]; exact e2
      · exfalso
        have := hq _ w1
        have : 0 < nA M t 8 (wc M t c) := fb_ct_pos.mpr ⟨c, by omega, by simp⟩
        omega
theorem op_crowd (v w : Int32) {n : Nat} (hn : 200 ≤ n) {M : HMem} (hL : ILines M) : ∃ r, f_X11_crowd n v w M = some r ∧ f_X12_crowd n v w M = some r := by
  obtain ⟨t, t1, t2, rfl⟩ := iI_of v
  obtain ⟨z, z1, z2, rfl⟩ := iI_of w
  by_cases ht : 0 ≤ t ∧ t ≤ 20000
  · by_cases hz : 0 ≤ z ∧ z ≤ 1
    · rw [f_X11_crowd, show f_X11_isWithin (iI t) 20000 = 1 from isWithin_1 (m := 20000) ht.1 ht.2 (by omega), if_neg i10, show f_X11_isWithin (iI z) 1 = 1 from isWithin_1 (m := 1) hz.1 hz.2 (by omega), if_neg i10, f_X12_crowd, show f_X12_in (iI t) 0 20000 = 1 from in01 (m := 20000) ht.1 ht.2 (by omega), if_neg i10, show f_X12_in (iI z) 0 1 = 1 from in01 (m := 1) hz.1 hz.2 (by omega), if_neg i10]
      rcases crw_O hn hL ht.1 ht.2 (iI z) n 0 (by omega) (by omega) (fun p h => absurd h (by omega)) with ⟨h1, h2⟩ | ⟨q, h1, h2⟩
      · have e := fst_0 hn hL ht.1 ht.2 h1 n 0 (by omega) (by omega)
        refine ⟨_, ?_, h2⟩
        show hb1 (f_X9_fullestPlace_L8 n (iI t) M n (-2) 0 (iI ((0 : Nat) : Int))) _ = _
        rw [e, hb1_some, crAt_no hn, hb1_some]
        split <;> rfl
      · have e := fst_O hn hL ht.1 ht.2 h1 n 0 (-2) 0 (by omega) (by omega) (Or.inl ⟨rfl, rfl⟩) (Or.inl (fun e h => absurd h (by omega)))
        refine ⟨_, ?_, h2⟩
        show hb1 (f_X9_fullestPlace_L8 n (iI t) M n (-2) 0 (iI ((0 : Nat) : Int))) _ = _
        rw [e, hb1_some, crAt_eq hn hL ht.1 ht.2 h1.1, hb1_some]
        split <;> rfl
    · refine ⟨-1, ?_, ?_⟩
      · rw [f_X11_crowd, show f_X11_isWithin (iI t) 20000 = 1 from isWithin_1 (m := 20000) ht.1 ht.2 (by omega), if_neg i10, show f_X11_isWithin (iI z) 1 = 0 from isWithin_0 (m := 1) hz z1 z2 (by omega) (by omega), if_pos rfl]
      · rw [f_X12_crowd, show f_X12_in (iI t) 0 20000 = 1 from in01 (m := 20000) ht.1 ht.2 (by omega), if_neg i10, show f_X12_in (iI z) 0 1 = 0 from in00 (m := 1) hz z1 z2 (by omega) (by omega), if_pos rfl]
  · refine ⟨-1, ?_, ?_⟩
    · rw [f_X11_crowd, show f_X11_isWithin (iI t) 20000 = 0 from isWithin_0 (m := 20000) ht t1 t2 (by omega) (by omega), if_pos rfl]
    · rw [f_X12_crowd, show f_X12_in (iI t) 0 20000 = 0 from in00 (m := 20000) ht t1 t2 (by omega) (by omega), if_pos rfl]

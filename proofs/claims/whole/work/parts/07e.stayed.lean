/-! stayed -/
def cn (f : Nat → Nat) (N p : Nat) : Nat := fb_ct (fun k => f k == p) N
theorem cn_s (f : Nat → Nat) (i p : Nat) : cn f (i + 1) p = cn f i p + (if f i = p then 1 else 0) := by
  rw [cn, fb_ct_succ]
  by_cases h : f i = p
  · rw [if_pos h, if_pos (by simpa using h)]; rfl
  · rw [if_neg h, if_neg (by simpa using h)]; rfl
theorem cn_le (f : Nat → Nat) (N p : Nat) : cn f N p ≤ N := fb_ct_le _ _
theorem cn_pos {f : Nat → Nat} {N i : Nat} (h : i < N) : 1 ≤ cn f N (f i) := fb_ct_pos.mpr ⟨i, h, by simp⟩
def bs (f : Nat → Nat) (C : Nat → Nat) : Nat → Nat
  | 0 => f 0
  | i + 1 => if C (f i) ≤ C (bs f C i) then bs f C i else f i
theorem bs_in (f : Nat → Nat) (C : Nat → Nat) (P : Nat → Prop) (N : Nat) (h : ∀ i, i < N → P (f i)) (h0 : 0 < N) : ∀ i, i ≤ N → P (bs f C i)
  | 0, _ => h 0 h0
  | i + 1, hi => by
    rw [bs]
    split
    · exact bs_in f C P N h h0 i (by omega)
    · exact h i (by omega)
theorem nP_i {ln : Int} (h : 1 ≤ ln) (h2 : ln ≤ 96) : (nP ln : Int) = ln + 1 ∧ 2 ≤ nP ln ∧ nP ln ≤ 97 := by unfold nP; omega
theorem timesAt_C {M : HMem} {c n p : Nat} {fr ln : Int} (h : LN M c fr ln) (hp : p < 192) : ∀ (k i : Nat), (i : Int) ≤ ln + 1 → ln + 1 - i < k → f_X1_timesAt_L4 n (50 + 3 * c) (iI p) M k (iI (cn (pl M c) i p : Nat)) (iI i) = some (iI (cn (pl M c) (nP ln) p : Nat)) := by
  have hr := h.rg
  obtain ⟨g3, g4, g5, g6⟩ := h.cf
  intro k
  induction k with
  | zero => intro i _ h; omega
  | succ k ih =>
    intro i i1 i2
    rw [f_X1_timesAt_L4, g4]
    by_cases hi : ln < i
    · rw [if_pos (by rw [iI_lt (by omega) (by omega) (by omega) (by omega)]; exact hi), show nP ln = i by unfold nP; omega]
    · have e0 : ¬ iI ln < iI (i : Int) := by rw [iI_lt (by omega) (by omega) (by omega) (by omega)]; exact hi
      have e1 : ¬ (97 : Int32) ≤ iI (i : Int) := nle_i (a := 97) (by omega) (by omega) (by omega) (by omega) (by omega)
      have hq := h.pb (k := i) (by omega)
      have e := ih (i + 1) (by omega) (by omega)
      rw [cn_s] at e
      rw [if_neg e0, if_neg e1, hib_t (by omega) (by omega) (by omega), if_pos rfl, iI_natc (by omega), show 50 + 3 * c + 2 = 52 + 3 * c by omega, (h.p1 (k := i) (by omega)).1, iI_s, iI_s]
      by_cases b : pl M c i = p
      · rw [if_pos (by rw [b])]
        rw [if_pos b] at e
        exact e
      · rw [if_neg (by rw [iI_eq (by omega) (by omega) (by omega) (by omega)]; omega)]
        rw [if_neg b] at e
        exact e
theorem timesAt_R {M : HMem} {c n p : Nat} {fr ln : Int} (h : LN M c fr ln) (hp : p < 192) : ∀ (k i : Nat), (i : Int) ≤ ln + 1 → ln + 1 - i < k → f_X12_timesAt_L5 n (iI c) (iI p) M k (iI (cn (pl M c) i p : Nat)) (iI i) = some (iI (cn (pl M c) (nP ln) p : Nat)) := by
  have hr := h.rg
  have hc := h.c8
  obtain ⟨g3, g4, g5, g6⟩ := h.cf
  intro k
  induction k with
  | zero => intro i _ h; omega
  | succ k ih =>
    intro i i1 i2
    rw [f_X12_timesAt_L5, hib_t (by omega) (by omega) (by omega), if_pos rfl, iI_natc (k := c) (by omega), g5]
    by_cases hi : ln < i
    · rw [if_pos (by rw [iI_lt (by omega) (by omega) (by omega) (by omega)]; exact hi), show nP ln = i by unfold nP; omega]
    · have e0 : ¬ iI ln < iI (i : Int) := by rw [iI_lt (by omega) (by omega) (by omega) (by omega)]; exact hi
      have hq := h.pb (k := i) (by omega)
      have e := ih (i + 1) (by omega) (by omega)
      rw [cn_s] at e
      rw [if_neg e0, q97, iI_mul, iI_add, hib_t (by omega) (by omega) (by omega), if_pos rfl, iI_nat (by omega) (by omega), show (97 * (c : Int) + (i : Int)).toNat = 97 * c + i by omega, (h.p1 (k := i) (by omega)).2, iI_s, iI_s]
      by_cases b : pl M c i = p
      · rw [if_pos (by rw [b])]
        rw [if_pos b] at e
        exact e
      · rw [if_neg (by rw [iI_eq (by omega) (by omega) (by omega) (by omega)]; omega)]
        rw [if_neg b] at e
        exact e
theorem timesC_eq {M : HMem} {c n p : Nat} {fr ln : Int} (h : LN M c fr ln) (hp : p < 192) (hn : 100 ≤ n) : f_X1_timesAt n (50 + 3 * c) (iI p) M = some (iI (cn (pl M c) (nP ln) p : Nat)) := by
  have hr := h.rg
  exact timesAt_C h hp n 0 (by omega) (by omega)
theorem timesR_eq {M : HMem} {c n p : Nat} {fr ln : Int} (h : LN M c fr ln) (hp : p < 192) (hn : 100 ≤ n) : f_X12_timesAt n (iI c) (iI p) M = some (iI (cn (pl M c) (nP ln) p : Nat)) := by
  have hr := h.rg
  exact timesAt_R h hp n 0 (by omega) (by omega)
theorem long_L2 {M : HMem} {c n : Nat} {fr ln : Int} (h : LN M c fr ln) {g : Nat → Int32} (hg : ∀ p, p < 192 → g p = iI (cn (pl M c) (nP ln) p : Nat)) : ∀ (k i : Nat), (i : Int) ≤ ln + 1 → ln + 1 - i < k → f_X9_longestStay_L59 n (50 + 3 * c) (hput M 33 g) k (iI (bs (pl M c) (cn (pl M c) (nP ln)) i : Nat)) (iI (fr + i)) = some (iI (bs (pl M c) (cn (pl M c) (nP ln)) (nP ln) : Nat), hput M 33 g) := by
  have hr := h.rg
  have hN := nP_i hr.1 hr.2.1
  have hm := h.put g (k0 := 33) (fun j => by rw [grp33]; decide)
  intro k
  induction k with
  | zero => intro i _ h; omega
  | succ k ih =>
    intro i i1 i2
    rw [f_X9_longestStay_L59, last_eq hm]
    by_cases hi : ln < i
    · rw [if_pos (by rw [iI_lt (by omega) (by omega) (by omega) (by omega)]; omega), show nP ln = i by unfold nP; omega]
    · have hq := h.pb (k := i) (by omega)
      have hb := bs_in (pl M c) (cn (pl M c) (nP ln)) (fun p => p < 192) (nP ln) (fun i hi => h.pb (by omega)) (by omega) i (by omega)
      have e := ih (i + 1) (by omega) (by omega)
      have l1 := cn_le (pl M c) (nP ln) (pl M c i)
      have l2 := cn_le (pl M c) (nP ln) (bs (pl M c) (cn (pl M c) (nP ln)) i)
      rw [bs] at e
      rw [if_neg (by rw [iI_lt (by omega) (by omega) (by omega) (by omega)]; omega), placeAt_in hm (by omega), hb1_some, pl_put _ h.c8 (fun j => by rw [grp33]; decide), markAt_in hq, hb1_some, markAt_in hb, hb1_some, hput_self, hg _ hq, hg _ hb, iI_t]
      by_cases b : cn (pl M c) (nP ln) (pl M c i) ≤ cn (pl M c) (nP ln) (bs (pl M c) (cn (pl M c) (nP ln)) i)
      · rw [if_pos (by rw [iI_le (by omega) (by omega) (by omega) (by omega)]; omega)]
        rw [if_pos b] at e
        exact e
      · rw [if_neg (by rw [iI_le (by omega) (by omega) (by omega) (by omega)]; omega)]
        rw [if_neg b] at e
        exact e
theorem long_L1 {M : HMem} {c n : Nat} {fr ln : Int} (h : LN M c fr ln) (hn : 100 ≤ n) : ∀ (k i : Nat) (g : Nat → Int32), (i : Int) ≤ ln + 1 → ln + 1 - i < k → (∀ p, p < 192 → g p = iI (cn (pl M c) i p : Nat)) → ∃ g', f_X9_longestStay_L13 n (50 + 3 * c) k (iI (fr + i)) (hput M 33 g) = some (iI (bs (pl M c) (cn (pl M c) (nP ln)) (nP ln) : Nat), hput M 33 g') := by
  have hr := h.rg
  intro k
  induction k with
  | zero => intro i _ _ h; omega
  | succ k ih =>
    intro i g i1 i2 hg
    have hm := h.put g (k0 := 33) (fun j => by rw [grp33]; decide)
    rw [f_X9_longestStay_L13, last_eq hm]
    by_cases hi : ln < i
    · rw [if_pos (by rw [iI_lt (by omega) (by omega) (by omega) (by omega)]; omega), hm.cf.1]
      have e0 := placeAt_in hm (k := 0) (by omega)
      rw [show fr + ((0 : Nat) : Int) = fr by omega, pl_put _ h.c8 (fun j => by rw [grp33]; decide)] at e0
      rw [e0, hb1_some]
      have e := long_L2 (n := n) h (g := g) (by rw [show nP ln = i by unfold nP; omega]; exact hg) n 0 (by omega) (by omega)
      rw [show fr + ((0 : Nat) : Int) = fr by omega] at e
      exact ⟨g, e⟩
    · have hq := h.pb (k := i) (by omega)
      rw [if_neg (by rw [iI_lt (by omega) (by omega) (by omega) (by omega)]; omega), placeAt_in hm (by omega), hb1_some, pl_put _ h.c8 (fun j => by rw [grp33]; decide), markAt_in hq, hb1_some, hput_self, hg _ hq, markPlace_in hq, hb1_some, hset_put, iI_t, iI_s]
      refine ih (i + 1) (upd g (pl M c i) (iI ((cn (pl M c) i (pl M c i) + 1 : Nat) : Int))) (by omega) (by omega) (fun p hp => ?_)
      rw [cn_s]
      simp only [upd]
      by_cases e : p = pl M c i
      · rw [if_pos e, e, if_pos rfl]
      · rw [if_neg e, if_neg (fun q => e q.symm), hg p hp]; rfl
theorem longest_eq {M : HMem} {c n : Nat} {fr ln : Int} (h : LN M c fr ln) (hn : 200 ≤ n) : ∃ g, f_X9_longestStay n (50 + 3 * c) M = some (iI (bs (pl M c) (cn (pl M c) (nP ln)) (nP ln) : Nat), hput M 33 g) := by
  have hr := h.rg
  have hc := h.c8
  rw [f_X9_longestStay, fill_eq (by omega) (by omega), hb1_some, hput_ne _ _ (by omega), h.cf.1]
  obtain ⟨g', e⟩ := long_L1 (n := n) h (by omega) n 0 (fun j => if j < 192 then 0 else M 33 j) (by omega) (by omega) (fun p hp => by rw [if_pos hp]; rfl)
  rw [show fr + ((0 : Nat) : Int) = fr by omega] at e
  exact ⟨g', e⟩
-- how often one comes to a place
def vi (f : Nat → Nat) (p k : Nat) : Bool := f k == p && (k == 0 || !(f (k - 1) == p))
def vs (f : Nat → Nat) (i p : Nat) : Nat := fb_ct (vi f p) i
theorem vs_s (f : Nat → Nat) (i p : Nat) : vs f (i + 1) p = vs f i p + (if vi f p i = true then 1 else 0) := by rw [vs, fb_ct_succ]; rfl
theorem vs_le (f : Nat → Nat) (N p : Nat) : vs f N p ≤ N := fb_ct_le _ _
theorem staysAt_L {M : HMem} {c n p : Nat} {fr ln : Int} (h : LN M c fr ln) (hp : p < 192) : ∀ (k i : Nat), (i : Int) ≤ ln + 1 → ln + 1 - i < k → f_X12_staysAt_L5 n (iI c) (iI p) M k (iI (vs (pl M c) i p : Nat)) (iI i) = some (iI (vs (pl M c) (nP ln) p : Nat)) := by
  have hr := h.rg
  have hc := h.c8
  obtain ⟨g3, g4, g5, g6⟩ := h.cf
  intro k
  induction k with
  | zero => intro i _ h; omega
  | succ k ih =>
    intro i i1 i2
    rw [f_X12_staysAt_L5, hib_t (by omega) (by omega) (by omega), if_pos rfl, iI_natc (k := c) (by omega), g5]
    by_cases hi : ln < i
    · rw [if_pos (by rw [iI_lt (by omega) (by omega) (by omega) (by omega)]; exact hi), show nP ln = i by unfold nP; omega]
    · have e0 : ¬ iI ln < iI (i : Int) := by rw [iI_lt (by omega) (by omega) (by omega) (by omega)]; exact hi
      have hq := h.pb (k := i) (by omega)
      have e := ih (i + 1) (by omega) (by omega)
      rw [vs_s] at e
      have hJ : ∀ s0 : Int32, (s0 = 0 ∧ (i = 0 ∨ ¬ pl M c (i - 1) = p)) ∨ (s0 = 1 ∧ ¬ (i = 0 ∨ ¬ pl M c (i - 1) = p)) → f_X12_staysAt_J44 n (f_X12_staysAt_L5 n (iI c) (iI p) M k) (iI c) (iI p) (iI (vs (pl M c) i p : Nat)) (iI i) s0 M = some (iI (vs (pl M c) (nP ln) p : Nat)) := by
        intro s0 hs
        rw [f_X12_staysAt_J44, q97, iI_mul, iI_add, hib_t (by omega) (by omega) (by omega), if_pos rfl, iI_nat (by omega) (by omega), show (97 * (c : Int) + (i : Int)).toNat = 97 * c + i by omega, (h.p1 (k := i) (by omega)).2, iI_s, iI_s]
        by_cases b : pl M c i = p
        · rw [if_pos (by rw [b])]
          rcases hs with ⟨s1, s2⟩ | ⟨s1, s2⟩
          · rw [if_pos s1]
            rw [if_pos (by simp [vi, b]; exact s2)] at e
            exact e
          · rw [if_neg (by rw [s1]; decide)]
            rw [if_neg (by simp [vi, b]; omega)] at e
            exact e
        · rw [if_neg (by rw [iI_eq (by omega) (by omega) (by omega) (by omega)]; omega)]
          rw [if_neg (by simp [vi, b])] at e
          exact e
      rw [if_neg e0]
      by_cases h0 : i = 0
      · rw [if_pos (by rw [q0, iI_le (by omega) (by omega) (by omega) (by omega)]; omega)]
        exact hJ 0 (Or.inl ⟨rfl, Or.inl h0⟩)
      · have hq1 := h.pb (k := i - 1) (by omega)
        rw [if_neg (by rw [q0, iI_le (by omega) (by omega) (by omega) (by omega)]; omega), q97, iI_mul, iI_add, q1, iI_sub, hib_t (by omega) (by omega) (by omega), if_pos rfl, iI_nat (by omega) (by omega), show (97 * (c : Int) + (i : Int) - 1).toNat = 97 * c + (i - 1) by omega, (h.p1 (k := i - 1) (by omega)).2]
        by_cases b : pl M c (i - 1) = p
        · rw [if_pos (by rw [b])]
          exact hJ 1 (Or.inr ⟨rfl, by omega⟩)
        · rw [if_neg (by rw [iI_eq (by omega) (by omega) (by omega) (by omega)]; omega)]
          exact hJ 0 (Or.inl ⟨rfl, Or.inr b⟩)
theorem staysAt_eq {M : HMem} {c n p : Nat} {fr ln : Int} (h : LN M c fr ln) (hp : p < 192) (hn : 100 ≤ n) : f_X12_staysAt n (iI c) (iI p) M = some (iI (vs (pl M c) (nP ln) p : Nat)) := by
  have hr := h.rg
  exact staysAt_L h hp n 0 (by omega) (by omega)
theorem stay_R2 {M : HMem} {c n : Nat} {fr ln : Int} (h : LN M c fr ln) (hn : 100 ≤ n) (v2 v3 v4 : Int32) : ∀ (k i : Nat), i ≤ 192 → 192 - i < k → f_X12_stayed_L91 n (iI c) v2 v3 v4 M k (iI (fb_ct (fun p => decide (2 ≤ vs (pl M c) (nP ln) p)) i : Nat)) (iI i) = some (if v2 = 0 then v3 else if v2 = 1 then v4 else iI (fb_ct (fun p => decide (2 ≤ vs (pl M c) (nP ln) p)) 192 : Nat)) := by
  have hr := h.rg
  have hN := nP_i hr.1 hr.2.1
  intro k
  induction k with
  | zero => intro i _ h; omega
  | succ k ih =>
    intro i i1 i2
    rw [f_X12_stayed_L91]
    by_cases hi : i = 192
    · subst hi
      rw [if_pos (by decide)]
      split
      · rfl
      · split <;> rfl
    · have e := ih (i + 1) (by omega) (by omega)
      have l1 := vs_le (pl M c) (nP ln) i
      rw [if_neg (by rw [q192, iI_le (by omega) (by omega) (by omega) (by omega)]; omega), staysAt_eq h (by omega) hn, hb1_some, iI_s, iI_s]
      rw [fb_ct_succ] at e
      by_cases b : 2 ≤ vs (pl M c) (nP ln) i
      · rw [if_neg (by rw [q1, iI_le (by omega) (by omega) (by omega) (by omega)]; omega)]
        rw [if_pos (by simpa using b)] at e
        exact e
      · rw [if_pos (by rw [q1, iI_le (by omega) (by omega) (by omega) (by omega)]; omega)]
        rw [if_neg (by simpa using b)] at e
        exact e
theorem stay_R1 {M : HMem} {c n : Nat} {fr ln : Int} (h : LN M c fr ln) (hn : 200 ≤ n) (v2 : Int32) : ∀ (k i : Nat) (a b : Int32), (i : Int) ≤ ln + 1 → ln + 1 - i < k → ((i = 0 ∧ a = -1 ∧ b = 0) ∨ (0 < i ∧ a = iI (bs (pl M c) (cn (pl M c) (nP ln)) i : Nat) ∧ b = iI (cn (pl M c) (nP ln) (bs (pl M c) (cn (pl M c) (nP ln)) i) : Nat))) → f_X12_stayed_L27 n (iI c) v2 M k a b (iI i) = some (if v2 = 0 then iI (bs (pl M c) (cn (pl M c) (nP ln)) (nP ln) : Nat) else if v2 = 1 then iI (cn (pl M c) (nP ln) (bs (pl M c) (cn (pl M c) (nP ln)) (nP ln)) : Nat) else iI (fb_ct (fun p => decide (2 ≤ vs (pl M c) (nP ln) p)) 192 : Nat)) := by
  have hr := h.rg
  have hc := h.c8
  have hN := nP_i hr.1 hr.2.1
  obtain ⟨g3, g4, g5, g6⟩ := h.cf
  intro k
  induction k with
  | zero => intro i a b _ h; omega
  | succ k ih =>
    intro i a b i1 i2 hab
    rw [f_X12_stayed_L27, hib_t (by omega) (by omega) (by omega), if_pos rfl, iI_natc (k := c) (by omega), g5]
    by_cases hi : ln < i
    · rw [if_pos (by rw [iI_lt (by omega) (by omega) (by omega) (by omega)]; exact hi)]
      rcases hab with ⟨h0, -⟩ | ⟨-, h1, h2⟩
      · omega
      · rw [h1, h2]
        have e := stay_R2 (n := n) h (by omega) v2 (iI (bs (pl M c) (cn (pl M c) (nP ln)) i : Nat)) (iI (cn (pl M c) (nP ln) (bs (pl M c) (cn (pl M c) (nP ln)) i) : Nat)) n 0 (by omega) (by omega)
        rw [show iI ((0 : Nat) : Int) = 0 from rfl, show iI ((fb_ct (fun p => decide (2 ≤ vs (pl M c) (nP ln) p)) 0 : Nat) : Int) = 0 from rfl] at e
        rw [e, show nP ln = i by unfold nP; omega]
    · have e0 : ¬ iI ln < iI (i : Int) := by rw [iI_lt (by omega) (by omega) (by omega) (by omega)]; exact hi
      have hq := h.pb (k := i) (by omega)
      have l1 := cn_le (pl M c) (nP ln) (pl M c i)
      have l0 := cn_pos (f := pl M c) (N := nP ln) (i := i) (by omega)
      rw [if_neg e0, q97, iI_mul, iI_add, hib_t (by omega) (by omega) (by omega), if_pos rfl, iI_nat (by omega) (by omega), show (97 * (c : Int) + (i : Int)).toNat = 97 * c + i by omega, (h.p1 (k := i) (by omega)).2, timesR_eq h hq (by omega), hb1_some, hb1_some, iI_s]
      rcases hab with ⟨h0, h1, h2⟩ | ⟨h0, h1, h2⟩
      · rw [h2, if_pos (by rw [q0, iI_lt (by omega) (by omega) (by omega) (by omega)]; omega)]
        refine ih (i + 1) _ _ (by omega) (by omega) (Or.inr ⟨by omega, ?_, ?_⟩)
        · rw [h0, bs, bs, if_pos (Nat.le_refl _)]
        · rw [h0, bs, bs, if_pos (Nat.le_refl _)]
      · have l2 := cn_le (pl M c) (nP ln) (bs (pl M c) (cn (pl M c) (nP ln)) i)
        rw [h2]
        by_cases b2 : cn (pl M c) (nP ln) (pl M c i) ≤ cn (pl M c) (nP ln) (bs (pl M c) (cn (pl M c) (nP ln)) i)
        · rw [if_neg (by rw [iI_lt (by omega) (by omega) (by omega) (by omega)]; omega)]
          exact ih (i + 1) _ _ (by omega) (by omega) (Or.inr ⟨by omega, by rw [h1, bs, if_pos b2], by rw [bs, if_pos b2]⟩)
        · rw [if_pos (by rw [iI_lt (by omega) (by omega) (by omega) (by omega)]; omega)]
          exact ih (i + 1) _ _ (by omega) (by omega) (Or.inr ⟨by omega, by rw [bs, if_neg b2], by rw [bs, if_neg b2]⟩)
theorem back_L {M : HMem} {c n : Nat} {fr ln : Int} (h : LN M c fr ln) : ∀ (k i : Nat) (b : Int32) (g : Nat → Int32), (i : Int) ≤ ln + 1 → ln + 1 - i < k → ((i = 0 ∧ b = -1) ∨ (0 < i ∧ b = iI (pl M c (i - 1) : Nat))) → (∀ p, p < 192 → g p = iI (vs (pl M c) i p : Nat)) → ∃ g', f_X9_placesComeBackTo_L18 n (50 + 3 * c) k (iI (fb_ct (fun p => decide (2 ≤ vs (pl M c) i p)) 192 : Nat)) b (iI (fr + i)) (hput M 33 g) = some (iI (fb_ct (fun p => decide (2 ≤ vs (pl M c) (nP ln) p)) 192 : Nat), hput M 33 g') := by
  have hr := h.rg
  intro k
  induction k with
  | zero => intro i _ _ _ h; omega
  | succ k ih =>
    intro i b g i1 i2 hb hg
    have hm := h.put g (k0 := 33) (fun j => by rw [grp33]; decide)
    rw [f_X9_placesComeBackTo_L18, last_eq hm]
    by_cases hi : ln < i
    · rw [if_pos (by rw [iI_lt (by omega) (by omega) (by omega) (by omega)]; omega), show nP ln = i by unfold nP; omega]
      exact ⟨g, rfl⟩
    · have hq := h.pb (k := i) (by omega)
      have l1 := vs_le (pl M c) i (pl M c i)
      rw [if_neg (by rw [iI_lt (by omega) (by omega) (by omega) (by omega)]; omega), placeAt_in hm (by omega), hb1_some, pl_put _ h.c8 (fun j => by rw [grp33]; decide)]
      have hnext : (i + 1 = 0 ∧ iI (pl M c i : Nat) = -1) ∨ (0 < i + 1 ∧ iI (pl M c i : Nat) = iI (pl M c (i + 1 - 1) : Nat)) := Or.inr ⟨by omega, rfl⟩
      by_cases hsame : 0 < i ∧ pl M c i = pl M c (i - 1)
      · have hbb : iI (pl M c i : Nat) = b := by
          rcases hb with ⟨h0, -⟩ | ⟨-, h1⟩
          · omega
          · rw [h1, hsame.2]
        rw [if_pos hbb, iI_t]
        have hv : ∀ p, vs (pl M c) (i + 1) p = vs (pl M c) i p := fun p => by
          rw [vs_s, if_neg (by
            simp only [vi, Bool.and_eq_true, Bool.or_eq_true, beq_iff_eq, Bool.not_eq_true', beq_eq_false_iff_ne]
            rintro ⟨q1, q2 | q2⟩
            · omega
            · exact q2 (hsame.2 ▸ q1))]
          rfl
        have := ih (i + 1) (iI (pl M c i : Nat)) g (by omega) (by omega) hnext (fun p hp => by rw [hv]; exact hg p hp)
        simp only [hv] at this
        exact this
      · have hbb : ¬ iI (pl M c i : Nat) = b := by
          rcases hb with ⟨h0, h1⟩ | ⟨h0, h1⟩
          · rw [h1]; exact iI_m1 (by omega) (by omega)
          · have := h.pb (k := i - 1) (by omega)
            rw [h1, iI_eq (by omega) (by omega) (by omega) (by omega)]; omega
        rw [if_neg hbb, markAt_in hq, hb1_some, hput_self, hg _ hq, iI_s, markPlace_in hq, hb1_some, hset_put, markAt_in hq, hb1_some, hput_self, upd_self, iI_t]
        have hv : ∀ p, vs (pl M c) (i + 1) p = vs (pl M c) i p + (if p = pl M c i then 1 else 0) := fun p => by
          rw [vs_s]
          congr 1
          by_cases e : p = pl M c i
          · rw [if_pos e, if_pos (by
              simp only [vi, Bool.and_eq_true, Bool.or_eq_true, beq_iff_eq, Bool.not_eq_true', beq_eq_false_iff_ne]
              exact ⟨e.symm, by
                by_cases z : i = 0
                · exact Or.inl z
                · exact Or.inr (fun q => hsame ⟨by omega, by rw [← e]; exact q.symm⟩)⟩)]
          · rw [if_neg e, if_neg (by
              simp only [vi, Bool.and_eq_true, beq_iff_eq]
              exact fun q => e q.1.symm)]
        have hg' : ∀ p, p < 192 → upd g (pl M c i) (iI ((vs (pl M c) i (pl M c i) + 1 : Nat) : Int)) p = iI (vs (pl M c) (i + 1) p : Nat) := fun p hp => by
          rw [hv p]
          simp only [upd]
          by_cases e : p = pl M c i
          · rw [if_pos e, if_pos e, e]
          · rw [if_neg e, if_neg e, hg p hp]; rfl
        have hct := fb_ct_upd (fun p => decide (2 ≤ vs (pl M c) i p)) (decide (2 ≤ vs (pl M c) i (pl M c i) + 1)) (i := pl M c i) (n := 192) hq
        have key : fb_ct (fun p => decide (2 ≤ vs (pl M c) (i + 1) p)) 192 = fb_ct (fun k => if k = pl M c i then decide (2 ≤ vs (pl M c) i (pl M c i) + 1) else decide (2 ≤ vs (pl M c) i k)) 192 := by
          apply fb_ct_cong
          intro p hp
          rw [hv p]
          by_cases e : p = pl M c i
          · rw [if_pos e, if_pos e, e]
          · rw [if_neg e, if_neg e]; rfl
        rw [← key] at hct
        have := ih (i + 1) (iI (pl M c i : Nat)) _ (by omega) (by omega) hnext hg'
        by_cases b2 : vs (pl M c) i (pl M c i) = 1
        · rw [if_pos (by rw [b2]; rfl), iI_s]
          rw [show fb_ct (fun p => decide (2 ≤ vs (pl M c) (i + 1) p)) 192 = fb_ct (fun p => decide (2 ≤ vs (pl M c) i p)) 192 + 1 by simp [b2] at hct; omega] at this
          exact this
        · rw [if_neg (by rw [q2, iI_eq (by omega) (by omega) (by omega) (by omega)]; omega)]
          rw [show fb_ct (fun p => decide (2 ≤ vs (pl M c) (i + 1) p)) 192 = fb_ct (fun p => decide (2 ≤ vs (pl M c) i p)) 192 by
            by_cases z : 2 ≤ vs (pl M c) i (pl M c i)
            · simp [z, show 2 ≤ vs (pl M c) i (pl M c i) + 1 by omega] at hct; omega
            · simp [z, show ¬ 2 ≤ vs (pl M c) i (pl M c i) + 1 by omega] at hct; omega] at this
          exact this
theorem op_stayed (v w : Int32) {n : Nat} (hn : 200 ≤ n) {M : HMem} (hL : ILines M) : ∃ r M1, f_X11_stayed n v w M = some (r, M1) ∧ f_X12_stayed n v w M1 = some r ∧ (M1 = M ∨ ∃ g, M1 = hput M 33 g) := by
  obtain ⟨y, y1, y2, rfl⟩ := iI_of w
  rcases lineV hL v with ⟨h1, h2⟩ | ⟨c, fr, ln, rfl, h, h1, h2⟩
  · exact ⟨-1, M, by rw [f_X11_stayed, h1, hb1_some], by rw [f_X12_stayed, h2, hb1_some, if_pos rfl], Or.inl rfl⟩
  · have hr := h.rg
    have hc := h.c8
    have hN := nP_i hr.1 hr.2.1
    have hC : f_X11_stayed n (iI c) (iI y) M = if iI y = 0 then hb2 (f_X9_longestStay n (50 + 3 * c) M) (fun a b => some (a, b)) else if iI y = 1 then hb2 (f_X9_longestStay n (50 + 3 * c) M) (fun a b => hb1 (f_X1_timesAt n (50 + 3 * c) a b) (fun x => some (x, b))) else if iI y = 2 then hb2 (f_X9_placesComeBackTo n (50 + 3 * c) M) (fun a b => some (a, b)) else some (-1, M) := by
      rw [f_X11_stayed, h1, hb1_some]
    rw [hC]
    have hR : ∀ g, 0 ≤ y ∧ y ≤ 2 → f_X12_stayed n (iI c) (iI y) (hput M 33 g) = some (if iI y = 0 then iI (bs (pl M c) (cn (pl M c) (nP ln)) (nP ln) : Nat) else if iI y = 1 then iI (cn (pl M c) (nP ln) (bs (pl M c) (cn (pl M c) (nP ln)) (nP ln)) : Nat) else iI (fb_ct (fun p => decide (2 ≤ vs (pl M c) (nP ln) p)) 192 : Nat)) := by
      intro g hy
      have hm := h.put g (k0 := 33) (fun j => by rw [grp33]; decide)
      have k2 := hasLine_1 hm.c8 hm.cf.2.2.1 hr.1 hr.2.1
      have e := stay_R1 (n := n) hm hn (iI y) n 0 (-1) 0 (by omega) (by omega) (Or.inl ⟨rfl, rfl, rfl⟩)
      have e1 : pl (hput M 33 g) c = pl M c := funext fun k => pl_put _ hm.c8 (fun j => by rw [grp33]; decide) k
      rw [e1, show iI ((0 : Nat) : Int) = 0 from rfl] at e
      rw [f_X12_stayed, k2, hb1_some, if_neg i10, q2, in01 hy.1 hy.2 (by omega), if_neg i10, e]
    by_cases hy : 0 ≤ y ∧ y ≤ 2
    · rcases (show y = 0 ∨ y = 1 ∨ y = 2 by omega) with rfl | rfl | rfl
      · obtain ⟨g, e⟩ := longest_eq h hn
        rw [if_pos q0.symm, e, hb2_some]
        exact ⟨_, _, rfl, by rw [hR g hy, if_pos q0.symm], Or.inr ⟨g, rfl⟩⟩
      · obtain ⟨g, e⟩ := longest_eq h hn
        have hm := h.put g (k0 := 33) (fun j => by rw [grp33]; decide)
        have e1 : pl (hput M 33 g) c = pl M c := funext fun k => pl_put _ hm.c8 (fun j => by rw [grp33]; decide) k
        have hb := bs_in (pl M c) (cn (pl M c) (nP ln)) (fun p => p < 192) (nP ln) (fun i hi => h.pb (by omega)) (by omega) (nP ln) (by omega)
        have e2 := timesC_eq (n := n) hm hb (by omega)
        rw [e1] at e2
        rw [if_neg (by decide), if_pos q1.symm, e, hb2_some, e2, hb1_some]
        exact ⟨_, _, rfl, by rw [hR g hy, if_neg (by decide), if_pos q1.symm], Or.inr ⟨g, rfl⟩⟩
      · obtain ⟨g', e⟩ := back_L (n := n) h n 0 (-1) (fun j => if j < 192 then 0 else M 33 j) (by omega) (by omega) (Or.inl ⟨rfl, rfl⟩) (fun p hp => by rw [if_pos hp]; rfl)
        have h0 : fb_ct (fun p => decide (2 ≤ vs (pl M c) 0 p)) 192 = 0 := fb_ct_zero.mpr (fun k _ => by simp [vs, fb_ct])
        rw [h0, show fr + ((0 : Nat) : Int) = fr by omega, show iI ((0 : Nat) : Int) = 0 from rfl] at e
        rw [if_neg (by decide), if_neg (by decide), if_pos q2.symm, f_X9_placesComeBackTo, fill_eq (by omega) (by omega), hb1_some, hput_ne _ _ (by omega), h.cf.1, e, hb2_some]
        exact ⟨_, _, rfl, by rw [hR g' hy, if_neg (by decide), if_neg (by decide)], Or.inr ⟨g', rfl⟩⟩
    · refine ⟨-1, M, ?_, ?_, Or.inl rfl⟩
      · simp (disch := omega) only [q0, q1, q2, iI_eq]
        rw [if_neg (by omega), if_neg (by omega), if_neg (by omega)]
      · rw [f_X12_stayed, h2, hb1_some, if_neg i10, q2, in00 hy y1 y2 (by omega) (by omega), if_pos rfl]

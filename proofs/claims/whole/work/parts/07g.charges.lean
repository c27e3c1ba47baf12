/-! charges -/
def sK (M : HMem) (f : Nat → Nat) (q : Nat) : Nat → Nat := fb_sm (fun k => if kd M (f k) = q then pe M (f k) else 0)
def sA (M : HMem) (f : Nat → Nat) : Nat → Nat := fb_sm (fun k => pe M (f k))
theorem sm_le {g : Nat → Nat} (h : ∀ k, g k ≤ 99) : ∀ n, fb_sm g n ≤ 99 * n
  | 0 => by simp [fb_sm]
  | n + 1 => by rw [fb_sm_succ]; have := sm_le h n; have := h n; omega
theorem fb_sm_b {g : Nat → Nat} {N : Nat} (h : ∀ k, k < N → g k ≤ 99) : ∀ n, n ≤ N → fb_sm g n ≤ 99 * n
  | 0, _ => by simp [fb_sm]
  | n + 1, hn => by rw [fb_sm_succ]; have := fb_sm_b h n (by omega); have := h n (by omega); omega
theorem penceAt_in {M : HMem} {p : Nat} (hD : ILand M) (hp : p < 192) : f_X3_penceAt 5 (iI p) M = some (iI (pe M p : Nat)) := by
  obtain ⟨-, -, -, -, -, h5, -⟩ := hD.2 p hp
  rw [f_X3_penceAt, isPlace_1 (by omega) (by omega), if_neg i10, hib_t (by omega) (by omega) (by omega), if_pos rfl, iI_natc (by omega)]
  exact congrArg some h5
theorem kindAt_in {M : HMem} {p : Nat} (hD : ILand M) (hp : p < 192) : f_X3_kindAt 5 (iI p) M = some (iI (kd M p : Nat)) := by
  obtain ⟨-, -, -, h4, -⟩ := hD.2 p hp
  rw [f_X3_kindAt, isPlace_1 (by omega) (by omega), if_neg i10, hib_t (by omega) (by omega) (by omega), if_pos rfl, iI_natc (by omega)]
  exact congrArg some h4
theorem iI_an (a b : Nat) : iI (a : Int) + iI (b : Int) = iI ((a + b : Nat) : Int) := by rw [iI_add]; rfl
theorem paidAll_L {M : HMem} {c n : Nat} {fr ln : Int} (h : LN M c fr ln) (hD : ILand M) : ∀ (k i : Nat), (i : Int) ≤ ln + 1 → ln + 1 - i < k → f_X9_paidInAll_L7 n (50 + 3 * c) M k (iI (sA M (pl M c) i : Nat)) (iI (fr + i)) = some (iI (sA M (pl M c) (nP ln) : Nat)) := by
  have hr := h.rg
  intro k
  induction k with
  | zero => intro i _ h; omega
  | succ k ih =>
    intro i i1 i2
    rw [f_X9_paidInAll_L7, last_eq h]
    by_cases hi : ln < i
    · rw [if_pos (by rw [iI_lt (by omega) (by omega) (by omega) (by omega)]; omega), show nP ln = i by unfold nP; omega]
    · have hq := h.pb (k := i) (by omega)
      rw [if_neg (by rw [iI_lt (by omega) (by omega) (by omega) (by omega)]; omega), placeAt_in h (by omega), hb1_some, penceAt_in hD hq, hb1_some, iI_t, iI_an]
      exact ih (i + 1) (by omega) (by omega)
theorem paidFor_L {M : HMem} {c n q : Nat} {fr ln : Int} (h : LN M c fr ln) (hD : ILand M) (hq8 : q < 8) : ∀ (k i : Nat), (i : Int) ≤ ln + 1 → ln + 1 - i < k → f_X9_paidFor_L8 n (50 + 3 * c) (iI q) M k (iI (sK M (pl M c) (2 + q) i : Nat)) (iI (fr + i)) = some (iI (sK M (pl M c) (2 + q) (nP ln) : Nat)) := by
  have hr := h.rg
  intro k
  induction k with
  | zero => intro i _ h; omega
  | succ k ih =>
    intro i i1 i2
    rw [f_X9_paidFor_L8, last_eq h]
    by_cases hi : ln < i
    · rw [if_pos (by rw [iI_lt (by omega) (by omega) (by omega) (by omega)]; omega), show nP ln = i by unfold nP; omega]
    · have hq := h.pb (k := i) (by omega)
      obtain ⟨k1, -⟩ := hD.2 _ hq
      have e := ih (i + 1) (by omega) (by omega)
      have e1 : ¬ iI (q : Int) < 0 := by rw [q0, iI_lt (by omega) (by omega) (by omega) (by omega)]; omega
      rw [if_neg (by rw [iI_lt (by omega) (by omega) (by omega) (by omega)]; omega), if_neg e1, placeAt_in h (by omega), hb1_some, kindAt_in hD hq, hb1_some, penceAt_in hD hq, hb1_some, iI_t, q2, iI_add, iI_an]
      rw [sK, fb_sm_succ] at e
      by_cases b : kd M (pl M c i) = 2 + q
      · rw [if_pos (by rw [b]; rfl)]
        rw [if_pos b] at e
        exact e
      · rw [if_neg (by rw [iI_eq (by omega) (by omega) (by omega) (by omega)]; omega)]
        rw [if_neg b] at e
        exact e
theorem paidFor_eq {M : HMem} {c n q : Nat} {fr ln : Int} (h : LN M c fr ln) (hD : ILand M) (hq8 : q < 8) (hn : 200 ≤ n) : f_X9_paidFor n (50 + 3 * c) (iI q) M = some (iI (sK M (pl M c) (2 + q) (nP ln) : Nat)) := by
  have hr := h.rg
  have e := paidFor_L (n := n) h hD hq8 n 0 (by omega) (by omega)
  rw [show fr + ((0 : Nat) : Int) = fr by omega, show iI ((sK M (pl M c) (2 + q) 0 : Nat) : Int) = 0 from rfl] at e
  rw [f_X9_paidFor, h.cf.1, e]
theorem sK_b {M : HMem} {c q : Nat} {fr ln : Int} (h : LN M c fr ln) (hD : ILand M) : sK M (pl M c) q (nP ln) ≤ 99 * 97 := by
  have hr := h.rg
  have hN := nP_i hr.1 hr.2.1
  have := fb_sm_b (g := fun k => if kd M (pl M c k) = q then pe M (pl M c k) else 0) (N := nP ln) (fun k hk => by
    split
    · exact (hD.2 _ (h.pb (by omega))).2.1
    · omega) (nP ln) (by omega)
  unfold sK
  omega
/-- the dearest field: both walk alike -/
theorem dear_L {M M2 : HMem} {c n : Nat} {fr ln : Int} (h : LN M c fr ln) (hD : ILand M) (hn : 200 ≤ n) (h5 : ∀ q, 2 ≤ q → q < 10 → M2 105 q = iI (sK M (pl M c) q (nP ln) : Nat)) (v2 v3 : Int32) : ∀ (k i : Nat) (b m : Int32), i ≤ 8 → 8 - i < k → ((b = -2 ∧ m = 0) ∨ ∃ j : Nat, j < 8 ∧ b = iI j ∧ m = iI (sK M (pl M c) (2 + j) (nP ln) : Nat)) → ∃ b' m', f_X9_dearestField_L8 n (50 + 3 * c) M k b m (iI i) = some b' ∧ f_X12_charges_L131 n v2 v3 M2 k b m (iI ((2 + i : Nat) : Int)) = some (if v2 = 0 then v3 else if v2 = 1 then b' else m', M2) ∧ ((b' = -2 ∧ m' = 0) ∨ ∃ j : Nat, j < 8 ∧ b' = iI j ∧ m' = iI (sK M (pl M c) (2 + j) (nP ln) : Nat)) := by
  intro k
  induction k with
  | zero => intro i b m _ h; omega
  | succ k ih =>
    intro i b m i1 i2 hbm
    rw [f_X9_dearestField_L8, f_X12_charges_L131]
    by_cases hi : i = 8
    · subst hi
      rw [if_pos (by decide), if_pos (by decide)]
      refine ⟨b, m, rfl, ?_, hbm⟩
      split
      · rfl
      · split <;> rfl
    · have e0 : ¬ (10 : Int32) ≤ iI ((2 + i : Nat) : Int) := nle_i (a := 10) (by omega) (by omega) (by omega) (by omega) (by omega)
      have lb := sK_b (q := 2 + i) h hD
      rw [if_neg (nle8 (i := i) (by omega)), if_neg e0, paidFor_eq h hD (by omega) hn, hb1_some, hib_t (by omega) (by omega) (by omega), if_pos rfl, if_pos rfl, iI_natc (by omega), h5 (2 + i) (by omega) (by omega), iI_s, iI_s, show 2 + i + 1 = 2 + (i + 1) by omega, q2, iI_sub, show ((2 + i : Nat) : Int) - 2 = (i : Int) by omega]
      obtain ⟨m0, z1, z2, rfl⟩ : ∃ m0 : Int, 0 ≤ m0 ∧ m0 ≤ 99 * 97 ∧ m = iI m0 := by
        rcases hbm with ⟨-, q⟩ | ⟨j, -, -, q⟩
        · exact ⟨0, by omega, by omega, q⟩
        · have := sK_b (q := 2 + j) h hD
          exact ⟨_, by omega, by omega, q⟩
      by_cases hm : (sK M (pl M c) (2 + i) (nP ln) : Int) ≤ m0
      · rw [if_pos (by rw [iI_le (by omega) (by omega) (by omega) (by omega)]; exact hm), if_neg (by rw [iI_lt (by omega) (by omega) (by omega) (by omega)]; omega)]
        exact ih (i + 1) b _ (by omega) (by omega) hbm
      · rw [if_neg (by rw [iI_le (by omega) (by omega) (by omega) (by omega)]; exact hm), if_pos (by rw [iI_lt (by omega) (by omega) (by omega) (by omega)]; omega)]
        exact ih (i + 1) _ _ (by omega) (by omega) (Or.inr ⟨i, by omega, rfl, rfl⟩)
theorem grp105 (j : Nat) : grp 105 j = 0 := rfl
theorem ILand.put {M : HMem} (h : ILand M) {k0 : Nat} (g : Nat → Int32) (h0 : ∀ j, grp k0 j ≠ 4) : ILand (hput M k0 g) := h.congr (fun k j e => by rw [hput_ne _ _ (fun q => by subst q; exact h0 j e)])
theorem chR_L2 {M : HMem} {c n : Nat} {fr ln : Int} (h : LN M c fr ln) (hD : ILand M) (v2 : Int32) : ∀ (k i : Nat) (g : Nat → Int32), (i : Int) ≤ ln + 1 → ln + 1 - i < k → (∀ q, q < 10 → g q = iI (sK M (pl M c) q i : Nat)) → ∃ g', (∀ q, q < 10 → g' q = iI (sK M (pl M c) q (nP ln) : Nat)) ∧ f_X12_charges_L48 n (iI c) v2 k (iI (sA M (pl M c) i : Nat)) (iI i) (hput M 105 g) = f_X12_charges_L131 n v2 (iI (sA M (pl M c) (nP ln) : Nat)) (hput M 105 g') n (-2) 0 2 := by
  have hr := h.rg
  have hc := h.c8
  intro k
  induction k with
  | zero => intro i g _ h; omega
  | succ k ih =>
    intro i g i1 i2 hg
    have hm := h.put g (k0 := 105) (fun j => by rw [grp105]; decide)
    rw [f_X12_charges_L48, hib_t (z := (c : Int)) (by omega) (by omega) (by omega), if_pos rfl, iI_natc (k := c) (by omega), hm.cf.2.2.1]
    by_cases hi : ln < i
    · rw [if_pos (by rw [iI_lt (by omega) (by omega) (by omega) (by omega)]; exact hi), show nP ln = i by unfold nP; omega]
      exact ⟨g, hg, rfl⟩
    · have e0 : ¬ iI ln < iI (i : Int) := by rw [iI_lt (by omega) (by omega) (by omega) (by omega)]; exact hi
      have hq := h.pb (k := i) (by omega)
      obtain ⟨k1, k2, k3, k4, k5, k6, k7⟩ := hD.2 _ hq
      have e81 : hput M 105 g 81 (97 * c + i) = iI (pl M c i : Nat) := by rw [hput_ne _ _ (by decide)]; exact (h.p1 (by omega)).2
      rw [if_neg e0, q97, iI_mul, iI_add, hib_t (z := 97 * (c : Int) + i) (by omega) (by omega) (by omega), if_pos rfl, iI_nat (z := 97 * (c : Int) + i) (by omega) (by omega), show (97 * (c : Int) + (i : Int)).toNat = 97 * c + i by omega, e81, hib_t (z := (pl M c i : Int)) (by omega) (by omega) (by omega), if_pos rfl, iI_natc (k := pl M c i) (by omega), hput_ne M g (show 83 ≠ 105 by decide), k7, hb1_some, if_pos rfl, if_pos rfl, hput_ne M g (show 82 ≠ 105 by decide), k5, hib_t (z := (kd M (pl M c i) : Int)) (by omega) (by omega) (by omega), if_pos rfl, if_pos rfl, if_pos rfl, iI_natc (k := kd M (pl M c i)) (by omega), hput_self, hg _ (by omega), hset_put, iI_s, iI_an, iI_an]
      refine ih (i + 1) _ (by omega) (by omega) (fun q hq10 => ?_)
      simp only [upd]
      rw [show sK M (pl M c) q (i + 1) = sK M (pl M c) q i + (if kd M (pl M c i) = q then pe M (pl M c i) else 0) from fb_sm_succ _ _]
      by_cases b : kd M (pl M c i) = q
      · rw [if_pos b.symm, if_pos b, b]
      · rw [if_neg (fun z => b z.symm), if_neg b, hg q hq10]; rfl
theorem chR_L1 {M : HMem} {n : Nat} (v1 v2 v3 : Int32) : ∀ (k i : Nat) (g : Nat → Int32), i ≤ 10 → 10 - i < k → (∀ q, q < i → g q = 0) → ∃ g', (∀ q, q < 10 → g' q = 0) ∧ f_X12_charges_L24 n v1 v2 v3 k (iI i) (hput M 105 g) = f_X12_charges_L48 n v1 v2 n v3 0 (hput M 105 g') := by
  intro k
  induction k with
  | zero => intro i g _ h; omega
  | succ k ih =>
    intro i g i1 i2 hg
    rw [f_X12_charges_L24]
    by_cases hi : i = 10
    · subst hi
      rw [if_pos (by decide)]
      exact ⟨g, hg, rfl⟩
    · have e0 : ¬ (10 : Int32) ≤ iI (i : Int) := nle_i (a := 10) (by omega) (by omega) (by omega) (by omega) (by omega)
      rw [if_neg e0, hib_t (by omega) (by omega) (by omega), if_pos rfl, iI_natc (by omega), hset_put, iI_s]
      refine ih (i + 1) _ (by omega) (by omega) (fun q hq => ?_)
      simp only [upd]
      by_cases b : q = i
      · rw [if_pos b]
      · rw [if_neg b]; exact hg q (by omega)
theorem op_charges (v w : Int32) {n : Nat} (hn : 200 ≤ n) {M : HMem} (hL : ILines M) (hD : ILand M) : ∃ r M2, f_X11_charges n v w M = some r ∧ f_X12_charges n v w M = some (r, M2) ∧ oth 0 M M2 := by
  obtain ⟨y, y1, y2, rfl⟩ := iI_of w
  rcases lineV hL v with ⟨h1, h2⟩ | ⟨c, fr, ln, rfl, h, h1, h2⟩
  · exact ⟨-1, M, by rw [f_X11_charges, h1, hb1_some], by rw [f_X12_charges, h2, hb1_some, if_pos rfl], oth_rf _ _⟩
  · have hr := h.rg
    have hC : f_X11_charges n (iI c) (iI y) M = if iI y = 0 then hb1 (f_X9_paidInAll n (50 + 3 * c) M) (fun x => some x) else if iI y = 1 then hb1 (f_X9_dearestField n (50 + 3 * c) M) (fun x => some x) else if iI y = 2 then hb1 (f_X9_dearestField n (50 + 3 * c) M) (fun a => hb1 (f_X9_paidFor n (50 + 3 * c) a M) (fun x => some x)) else some (-1) := by
      rw [f_X11_charges, h1, hb1_some]
    rw [hC]
    by_cases hy : 0 ≤ y ∧ y ≤ 2
    · obtain ⟨g1, a1, a2⟩ := chR_L1 (M := M) (n := n) (iI c) (iI y) 0 n 0 (M 105) (by omega) (by omega) (fun q hq => absurd hq (Nat.not_lt_zero _))
      obtain ⟨g2, b1, b2⟩ := chR_L2 (n := n) h hD (iI y) n 0 g1 (by omega) (by omega) (fun q hq => by rw [a1 q hq]; rfl)
      rw [hput_eta, show iI ((0 : Nat) : Int) = 0 from rfl] at a2
      rw [show iI ((0 : Nat) : Int) = 0 from rfl, show iI ((sA M (pl M c) 0 : Nat) : Int) = 0 from rfl] at b2
      obtain ⟨b', m', d1, d2, d3⟩ := dear_L (n := n) (M2 := hput M 105 g2) h hD hn (fun q q1 q2 => by rw [hput_self]; exact b1 q q2) (iI y) (iI (sA M (pl M c) (nP ln) : Nat)) n 0 (-2) 0 (by omega) (by omega) (Or.inl ⟨rfl, rfl⟩)
      rw [show iI ((0 : Nat) : Int) = 0 from rfl] at d1
      rw [show iI ((2 + 0 : Nat) : Int) = 2 from rfl] at d2
      have hR : f_X12_charges n (iI c) (iI y) M = some (if iI y = 0 then iI (sA M (pl M c) (nP ln) : Nat) else if iI y = 1 then b' else m', hput M 105 g2) := by
        rw [f_X12_charges, h2, hb1_some, if_neg i10, show (2 : Int32) = iI 2 from rfl, in01 hy.1 hy.2 (by omega), if_neg i10, a2, b2, d2]
      rw [hR]
      have hdear : f_X9_dearestField n (50 + 3 * c) M = some b' := d1
      rcases (show y = 0 ∨ y = 1 ∨ y = 2 by omega) with rfl | rfl | rfl
      · have e := paidAll_L (n := n) h hD n 0 (by omega) (by omega)
        rw [show fr + ((0 : Nat) : Int) = fr by omega, show iI ((sA M (pl M c) 0 : Nat) : Int) = 0 from rfl] at e
        rw [if_pos q0.symm, if_pos q0.symm, f_X9_paidInAll, h.cf.1, e, hb1_some]
        exact ⟨_, _, rfl, rfl, oth_put (fun j => Or.inl (grp105 j))⟩
      · rw [if_neg (by decide), if_pos q1.symm, if_neg (by decide), if_pos q1.symm, hdear, hb1_some]
        exact ⟨_, _, rfl, rfl, oth_put (fun j => Or.inl (grp105 j))⟩
      · rw [if_neg (by decide), if_neg (by decide), if_pos q2.symm, if_neg (by decide), if_neg (by decide), hdear, hb1_some]
        rcases d3 with ⟨e1, e2⟩ | ⟨j, e0, e1, e2⟩
        · refine ⟨0, _, ?_, by rw [e2], oth_put (fun j => Or.inl (grp105 j))⟩
          obtain ⟨n', rfl⟩ : ∃ n', n = n' + 1 := ⟨n - 1, by omega⟩
          rw [e1, f_X9_paidFor, f_X9_paidFor_L8, if_pos (show (-2 : Int32) < 0 by decide), ite_self, hb1_some]
        · rw [e1, paidFor_eq h hD e0 hn, hb1_some, e2]
          exact ⟨_, _, rfl, rfl, oth_put (fun j => Or.inl (grp105 j))⟩
    · refine ⟨-1, M, ?_, ?_, oth_rf _ _⟩
      · simp (disch := omega) only [q0, q1, q2, iI_eq]
        rw [if_neg (by omega), if_neg (by omega), if_neg (by omega)]
      · rw [f_X12_charges, h2, hb1_some, if_neg i10, show (2 : Int32) = iI 2 from rfl, in00 hy y1 y2 (by omega) (by omega), if_pos rfl]

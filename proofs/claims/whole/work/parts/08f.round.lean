/-! round -/
theorem mark0_L {M : HMem} {n : Nat} (hD : ILand M) (v1 v2 : Int32) : ∀ (k i : Nat) (g : Nat → Int32), i ≤ 192 → 192 - i < k → (∀ p, p < i → g p = if kd M p = 1 then -1 else 0) → ∃ g', (∀ p, p < 192 → g' p = if kd M p = 1 then -1 else 0) ∧ f_X9_stepsByLand_L2 n v1 v2 k (iI i) (hput M 33 g) = f_X9_stepsByLand_L2 n v1 v2 1 (iI (192 : Nat)) (hput M 33 g') := by
  intro k
  induction k with
  | zero => intro i _ _ h; exfalso; omega
  | succ k ih =>
    intro i g hi hk hg
    by_cases h6 : i = 192
    · subst h6
      refine ⟨g, hg, ?_⟩
      rw [f_X9_stepsByLand_L2, f_X9_stepsByLand_L2, if_pos (by decide), if_pos (by decide)]
    · have hDm : ILand (hput M 33 g) := hD.put g (fun j => by rw [grp33]; decide)
      rw [f_X9_stepsByLand_L2, if_neg (by rw [q192]; exact nl_i (by omega) (by omega) (by omega)), isWater_in hDm (by omega), hb1_some, kd_put _ (by decide), hib_t (by omega) (by omega) (by omega), if_pos rfl, if_pos rfl, iI_natc (by omega), iI_s, hset_put, hset_put]
      have nx : ∀ v : Int32, (v = if kd M i = 1 then -1 else 0) → ∀ p, p < i + 1 → upd g i v p = if kd M p = 1 then -1 else 0 := fun v hv p hp => by
        by_cases e : p = i
        · subst e; rw [upd_self]; exact hv
        · rw [upd_ne _ _ e]; exact hg p (by omega)
      by_cases q : kd M i = 1
      · rw [if_pos q, if_neg i10]
        exact ih (i + 1) _ (by omega) (by omega) (nx _ (by rw [if_pos q]))
      · rw [if_neg q, if_pos rfl]
        exact ih (i + 1) _ (by omega) (by omega) (nx _ (by rw [if_neg q]))
theorem shut_L {M : HMem} {n : Nat} (hD : ILand M) (v1 v2 : Int32) : ∀ (k i : Nat) (g : Nat → Int32), i ≤ 192 → 192 - i < k → (∀ p, p < i → g p = if kd M p = 1 then 1 else 0) → ∃ g', (∀ p, p < 192 → g' p = if kd M p = 1 then 1 else 0) ∧ f_X12_round_L26 n v1 v2 k (iI i) (hput M 108 g) = f_X12_round_L26 n v1 v2 1 (iI (192 : Nat)) (hput M 108 g') := by
  intro k
  induction k with
  | zero => intro i _ _ h; exfalso; omega
  | succ k ih =>
    intro i g hi hk hg
    by_cases h6 : i = 192
    · subst h6
      refine ⟨g, hg, ?_⟩
      have x : (192 : Int32) ≤ iI ((192 : Nat) : Int) := by decide
      rw [f_X12_round_L26, f_X12_round_L26, if_pos x, if_pos x]
    · obtain ⟨d1, d2, d3, d4, d5, -⟩ := hD.2 i (by omega)
      rw [f_X12_round_L26, if_neg (by rw [q192]; exact nl_i (by omega) (by omega) (by omega)), hib_t (by omega) (by omega) (by omega), if_pos rfl, if_pos rfl, if_pos rfl, iI_natc (by omega), iI_s, hset_put, hset_put, hput_ne _ _ (by decide), d5]
      have nx : ∀ v : Int32, (v = if kd M i = 1 then 1 else 0) → ∀ p, p < i + 1 → upd g i v p = if kd M p = 1 then 1 else 0 := fun v hv p hp => by
        by_cases e : p = i
        · subst e; rw [upd_self]; exact hv
        · rw [upd_ne _ _ e]; exact hg p (by omega)
      by_cases q : kd M i = 1
      · rw [if_pos (by rw [q]; rfl)]
        exact ih (i + 1) _ (by omega) (by omega) (nx _ (by rw [if_pos q]; rfl))
      · rw [if_neg (by rw [q1]; exact ne_i (by omega) (by omega) (by omega) (by omega) (by omega))]
        exact ih (i + 1) _ (by omega) (by omega) (nx _ (by rw [if_neg q]; rfl))
theorem far_L {n : Nat} (v1 : Int32) (M : HMem) : ∀ (k i : Nat) (g : Nat → Int32), i ≤ 192 → 192 - i < k → (∀ p, p < i → g p = -1) → ∃ g', (∀ p, p < 192 → g' p = -1) ∧ f_X12_walksFrom_L2 n v1 k (iI i) (hput M 106 g) = f_X12_walksFrom_L2 n v1 1 (iI (192 : Nat)) (hput M 106 g') := by
  intro k
  induction k with
  | zero => intro i _ _ h; exfalso; omega
  | succ k ih =>
    intro i g hi hk hg
    by_cases h6 : i = 192
    · subst h6
      refine ⟨g, hg, ?_⟩
      have x : (192 : Int32) ≤ iI ((192 : Nat) : Int) := by decide
      rw [f_X12_walksFrom_L2, f_X12_walksFrom_L2, if_pos x, if_pos x]
    · rw [f_X12_walksFrom_L2, if_neg (by rw [q192]; exact nl_i (by omega) (by omega) (by omega)), hib_t (by omega) (by omega) (by omega), if_pos rfl, iI_natc (by omega), iI_s, hset_put]
      exact ih (i + 1) _ (by omega) (by omega) (fun p hp => by
        by_cases e : p = i
        · subst e; rw [upd_self]
        · rw [upd_ne _ _ e]; exact hg p (by omega))
/-- the beginning of a walk from one place, on both sides -/
theorem wk_one {sh g row sg qu : Nat → Int32} {e : Nat} (he : e < 192) (hsh : sh e = 0) (h1 : ∀ p, p < 192 → g p = if sh p = 0 then 0 else -1) (h2 : ∀ p, p < 192 → sg p = -1) : WK sh (fun p => p = e) (upd g e 1) (upd row 0 (iI e)) (upd sg e 0) (upd qu 0 (iI e)) 1 := by
  refine ⟨fun p hp => ?_, fun i hi => ?_, fun p hp h3 => ?_, ?_, fun X a1 a2 p hp h3 => ?_⟩
  · by_cases q : p = e
    · subst q
      exact ⟨0, by omega, by omega, upd_self _ _ _, Or.inl ⟨hsh, upd_self _ _ _⟩⟩
    · refine ⟨-1, by omega, by omega, by rw [upd_ne _ _ q]; exact h2 p hp, ?_⟩
      rw [upd_ne _ _ q, h1 p hp]
      by_cases s : sh p = 0
      · left; rw [if_pos s]; exact ⟨s, rfl⟩
      · right; rw [if_neg s]; exact ⟨s, rfl, rfl⟩
  · have : i = 0 := by omega
    subst this
    exact ⟨e, he, upd_self _ _ _, upd_self _ _ _, by rw [upd_self]; decide⟩
  · by_cases q : p = e
    · exact ⟨0, by omega, by rw [upd_self, q]⟩
    · rw [upd_ne _ _ q] at h3
      exact absurd (h2 p hp) h3
  · have := fb_ct_upd (fun p => decide (¬ sg p = -1)) true (i := e) (n := 192) he
    have z : fb_ct (fun p => decide (¬ sg p = -1)) 192 = 0 := fb_ct_zero.mpr (fun k hk => by simp [h2 k hk])
    rw [z] at this
    simp only [h2 e he, not_true_eq_false, decide_false, if_true] at this
    have x : fb_ct (fun p => decide (¬ upd sg e 0 p = -1)) 192 = fb_ct (fun k => if k = e then true else decide (¬ sg k = -1)) 192 := by
      apply fb_ct_cong
      intro k hk
      by_cases q : k = e
      · rw [if_pos q, q, upd_self]; decide
      · rw [if_neg q, upd_ne _ _ q]
    rw [x]
    simpa using this
  · by_cases q : p = e
    · exact a1 p hp q
    · rw [upd_ne _ _ q] at h3
      exact absurd (h2 p hp) h3
theorem walks_go {M : HMem} {n e : Nat} (hn : 300 ≤ n) (he : e < 192) : ∃ sg, (∀ p, p < 192 → sg p = -1) ∧ f_X12_walksFrom n (iI e) M = f_X12_walksFrom_L40 n n (iI ((1 : Nat) : Int)) (iI ((0 : Nat) : Int)) (mB M (upd sg e 0) (upd (M 107) 0 (iI e))) := by
  obtain ⟨g', h1, h2⟩ := far_L (n := n) (iI e) M n 0 (M 106) (by omega) (by omega) (fun p h => absurd h (by omega))
  rw [hput_eta] at h2
  refine ⟨g', h1, ?_⟩
  rw [f_X12_walksFrom]
  refine Eq.trans h2 ?_
  rw [f_X12_walksFrom_L2, if_pos (by decide), hib_t (by omega) (by omega) (by omega), if_pos rfl, iI_natc (by omega), hset_put]
  congr 1
theorem op_round (v w : Int32) {n : Nat} (hn : 300 ≤ n) {M : HMem} (hD : ILand M) : ∃ r M1 M2, f_X11_round n v w M = some (r, M1) ∧ f_X12_round n v w M1 = some (r, M2) ∧ oth 0 M M2 := by
  obtain ⟨a, a1, a2, rfl⟩ := iI_of v
  obtain ⟨b, b1, b2, rfl⟩ := iI_of w
  by_cases ha : 0 ≤ a ∧ a < 192
  · by_cases hb : 0 ≤ b ∧ b < 192
    · obtain ⟨e, rfl⟩ : ∃ e : Nat, a = e := ⟨a.toNat, by omega⟩
      obtain ⟨d, rfl⟩ : ∃ e : Nat, b = e := ⟨b.toNat, by omega⟩
      have he : e < 192 := by omega
      have hd : d < 192 := by omega
      -- the class's marks
      obtain ⟨g, g1, g2⟩ := mark0_L (n := n) hD (iI e) (iI d) n 0 (M 33) (by omega) (by omega) (fun p h => absurd h (by omega))
      rw [hput_eta] at g2
      have f1 : f_X11_round n (iI e) (iI d) M = hb2 (f_X9_stepsByLand_L2 n (iI e) (iI d) 1 (iI (192 : Nat)) (hput M 33 g)) (fun x101 M102 => some (x101, M102)) := by
        rw [f_X11_round, isPlace_1 ha.1 ha.2, if_neg i10, isPlace_1 hb.1 hb.2, if_neg i10, f_X9_stepsByLand]
        congr 1
      rw [f_X9_stepsByLand_L2, if_pos (by decide), f_X9_queue, markAt_in he, hb1_some, hput_self, g1 e he] at f1
      have f2 : ∀ gx ro, ∃ sh, (∀ p, p < 192 → sh p = if kd M p = 1 then 1 else 0) ∧ f_X12_round n (iI e) (iI d) (mA M gx ro) = f_X12_round_L26 n (iI e) (iI d) 1 (iI (192 : Nat)) (hput (mA M gx ro) 108 sh) := by
        intro gx ro
        have hD2 : ILand (mA M gx ro) := (hD.put gx (fun j => by rw [grp33]; decide)).put ro (fun j => by rw [grp34]; decide)
        obtain ⟨sh, s1, s2⟩ := shut_L (n := n) hD2 (iI e) (iI d) n 0 (mA M gx ro 108) (by omega) (by omega) (fun p h => absurd h (by omega))
        rw [hput_eta] at s2
        refine ⟨sh, fun p hp => ?_, ?_⟩
        · rw [s1 p hp, mA, kd_put _ (by decide), kd_put _ (by decide)]
        · rw [f_X12_round, show f_X12_in (iI e) 0 191 = 1 from in01 (m := 191) (by omega) (by omega) (by omega), if_neg i10, show f_X12_in (iI d) 0 191 = 1 from in01 (m := 191) (by omega) (by omega) (by omega), if_neg i10]
          exact s2
      have oA : ∀ gx ro, oth 0 M (mA M gx ro) := fun gx ro => (oth_put (G := 0) (k0 := 33) (fun j => Or.inl rfl)).trans (oth_put (fun j => Or.inl rfl))
      by_cases we : kd M e = 1
      · -- from water: nothing is come to
        rw [if_pos we, if_neg (by decide), hb2_some, f_X9_spread] at f1
        obtain ⟨m, hm⟩ : ∃ m, n = m + 1 := ⟨n - 1, by omega⟩
        have f3 : f_X9_spread_L4 n n 0 0 (hput M 33 g) = some (hput M 33 g) := by
          subst hm
          rw [f_X9_spread_L4, if_neg (by decide), if_pos (by decide)]
        rw [f3, hb1_some, markAt_in hd, hb1_some, hput_self, g1 d hd, if_pos (by split <;> decide), hb2_some] at f1
        obtain ⟨sh, s1, s2⟩ := f2 g (M 34)
        have eA : mA M g (M 34) = hput M 33 g := by
          have : M 34 = hput M 33 g 34 := by rw [hput_ne _ _ (by decide)]
          rw [mA, this, hput_eta]
        rw [eA] at s2
        refine ⟨-2, _, hput (hput M 33 g) 108 sh, f1, ?_, (oth_put (G := 0) (k0 := 33) (fun j => Or.inl rfl)).trans (oth_put (fun j => Or.inl rfl))⟩
        rw [s2, f_X12_round_L26, if_pos (by decide), hib_t (by omega) (by omega) (by omega), if_pos rfl, iI_natc (by omega), hput_self, s1 e he, if_pos we, if_neg i10]
      · rw [if_neg we, if_pos rfl, if_neg (by decide), if_pos (by decide), if_pos (by decide), markPlace_in he, hb1_some, hb2_some, f_X9_spread] at f1
        have eA : hset (hset (hput M 33 g) 34 (0 : Int32).toNatClampNeg (iI e)) 33 e 1 = mA M (upd g e 1) (upd (M 34) 0 (iI e)) := by
          have : hput M 33 g = mA M g (M 34) := by
            have : M 34 = hput M 33 g 34 := by rw [hput_ne _ _ (by decide)]
            rw [mA, this, hput_eta]
          rw [this, mA_set34, mA_set33]; rfl
        rw [eA] at f1
        -- both walk
        have key : ∀ (A0 B0 : HMem) (sg qu : Nat → Int32), (∀ p, p < 192 → B0 108 p = if kd M p = 1 then 1 else 0) → (∀ p, p < 192 → sg p = -1) → ∃ (T' : Nat) (g' row' sg' qu' : Nat → Int32), WK (B0 108) (fun p => p = e) g' row' sg' qu' T' ∧ f_X9_spread_L4 n n (0 + 1) 0 (mA A0 (upd g e 1) (upd (M 34) 0 (iI e))) = some (mA A0 g' row') ∧ f_X12_walksFrom_L40 n n (iI ((1 : Nat) : Int)) (iI ((0 : Nat) : Int)) (mB B0 (upd sg e 0) (upd qu 0 (iI e))) = some (mB B0 sg' qu') := by
          intro A0 B0 sg qu h1 h2
          have hw := wk_one (sh := B0 108) (g := g) (row := M 34) (sg := sg) (qu := qu) he (by rw [h1 e he, if_neg we]) (fun p hp => by rw [g1 p hp, h1 p hp]; split <;> rfl) h2
          obtain ⟨T', g', row', sg', qu', k1, k2, k3, k4, k5⟩ := wk_out (A0 := A0) (B0 := B0) (n := n) (by omega) n 0 1 _ _ _ _ hw (by omega) (by omega) (fun j h => absurd h (by omega))
          exact ⟨T', g', row', sg', qu', k1, k4, k5⟩
        -- the class's own end first
        let sh0 : Nat → Int32 := fun p => if kd M p = 1 then 1 else 0
        obtain ⟨T0, g0, row0, sg0, qu0, -, k2, -⟩ := key M (hput M 108 sh0) (fun _ => -1) (M 107) (fun p hp => by rw [hput_self]) (fun p hp => rfl)
        rw [k2, hb1_some, markAt_in hd, hb1_some, mA33] at f1
        obtain ⟨sh, s1, s2⟩ := f2 g0 row0
        obtain ⟨sg, sg1, sg2⟩ := walks_go (M := hput (mA M g0 row0) 108 sh) (n := n) hn he
        obtain ⟨T1, gB, rowB, sgB, quB, k1, k3, k4⟩ := key M (hput (mA M g0 row0) 108 sh) sg (hput (mA M g0 row0) 108 sh 107) (fun p hp => by rw [hput_self, s1 p hp]) sg1
        rw [k2] at k3
        have e33 : g0 = gB := by
          have := congrArg (fun x => (x.getD M) 33) k3
          simpa [mA33] using this
        rw [f_X12_round_L26, if_pos (by decide), hib_t (z := (e : Int)) (by omega) (by omega) (by omega), if_pos rfl, iI_natc (k := e) (by omega), hput_self, s1 e he, if_neg we, if_pos rfl, hib_t (z := (d : Int)) (by omega) (by omega) (by omega), if_pos rfl, iI_natc (k := d) (by omega), s1 d hd, sg2, k4, hb1_some, mB106] at s2
        obtain ⟨s, t1, t2, t3, t4⟩ := k1.mk' d hd
        have hT := k1.le
        rw [← e33, hput_self, s1 d hd] at t4
        have o1 : oth 0 M (hput (mA M g0 row0) 108 sh) := (oA g0 row0).trans (oth_put (fun j => Or.inl rfl))
        have o2 : oth 0 M (mB (hput (mA M g0 row0) 108 sh) sgB quB) := (o1.trans (oth_put (G := 0) (k0 := 106) (fun j => Or.inl rfl))).trans (oth_put (fun j => Or.inl rfl))
        by_cases wd : kd M d = 1
        · rw [if_pos wd] at s2 t4
          rcases t4 with ⟨h, -⟩ | ⟨-, h, -⟩
          · exact absurd h (by decide)
          · rw [h, if_pos (by decide), hb2_some] at f1
            rw [if_neg (by decide)] at s2
            exact ⟨-2, _, _, f1, s2, o1⟩
        · rw [if_neg wd] at s2 t4
          rcases t4 with ⟨-, h⟩ | ⟨h, -⟩
          · rw [h] at f1
            rw [if_pos rfl, if_pos rfl, t3] at s2
            by_cases z : s = -1
            · subst z
              rw [if_pos (by decide), hb2_some] at f1
              rw [if_pos (show iI (-1) = -1 from rfl)] at s2
              exact ⟨-2, _, _, f1, s2, o2⟩
            · rw [if_neg (by rw [q0]; exact nl_i (by omega) (by omega) (by omega)), hb2_some, q1, iI_sub, show s + 1 - 1 = s by omega] at f1
              rw [if_neg (n1i (by omega) (by omega)), if_pos rfl] at s2
              exact ⟨iI s, _, _, f1, s2, o2⟩
          · exact absurd rfl h
    · refine ⟨-1, M, M, ?_, ?_, oth_rf _ _⟩
      · rw [f_X11_round, isPlace_1 ha.1 ha.2, if_neg i10, isPlace_0 hb b1 b2, if_pos rfl]
      · rw [f_X12_round, show f_X12_in (iI a) 0 191 = 1 from in01 (m := 191) (by omega) (by omega) (by omega), if_neg i10, show f_X12_in (iI b) 0 191 = 0 from in00 (m := 191) (by omega) b1 b2 (by omega) (by omega), if_pos rfl]
  · refine ⟨-1, M, M, ?_, ?_, oth_rf _ _⟩
    · rw [f_X11_round, isPlace_0 ha a1 a2, if_pos rfl]
    · rw [f_X12_round, show f_X12_in (iI a) 0 191 = 0 from in00 (m := 191) (by omega) a1 a2 (by omega) (by omega), if_pos rfl]

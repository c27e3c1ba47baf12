/-! heldIn -/
def ed (p : Nat) : Bool := p % 16 == 0 || p % 16 == 15 || p / 16 == 0 || p / 16 == 11
theorem ed_all : ∀ p : Fin 192, f_X9_isOnEdge (iI ((p : Nat) : Int)) = (if ed p = true then 1 else 0) ∧ f_X12_isAtEdge (iI ((p : Nat) : Int)) = (if ed p = true then 1 else 0) := by decide +kernel
/-- one more source -/
theorem WK.src {sh : Nat → Int32} {I : Nat → Prop} {g row sg qu : Nat → Int32} {T q : Nat} (h : WK sh I g row sg qu T) (hq : q < 192) (hsh : sh q = 0) (hs : sg q = -1) (hI : I q) : WK sh I (upd g q 1) (upd row T (iI q)) (upd sg q 0) (upd qu T (iI q)) (T + 1) := by
  have hT := h.lt hq hs
  refine ⟨fun p hp => ?_, fun i hi => ?_, fun p hp h1 => ?_, ?_, fun X h1 h2 p hp h3 => ?_⟩
  · by_cases e : p = q
    · subst e
      exact ⟨0, by omega, by omega, upd_self _ _ _, Or.inl ⟨hsh, upd_self _ _ _⟩⟩
    · obtain ⟨s', a1, a2, a3, a4⟩ := h.mk' p hp
      exact ⟨s', a1, by omega, by rw [upd_ne _ _ e]; exact a3, by rw [upd_ne _ _ e]; exact a4⟩
  · by_cases e : i = T
    · subst e
      exact ⟨q, hq, upd_self _ _ _, upd_self _ _ _, by rw [upd_self]; decide⟩
    · obtain ⟨q', a1, a2, a3, a4⟩ := h.rw' i (by omega)
      refine ⟨q', a1, by rw [upd_ne _ _ e]; exact a2, by rw [upd_ne _ _ e]; exact a3, ?_⟩
      by_cases e2 : q' = q
      · rw [e2, upd_self]; decide
      · rw [upd_ne _ _ e2]; exact a4
  · by_cases e : p = q
    · exact ⟨T, by omega, by rw [upd_self, e]⟩
    · rw [upd_ne _ _ e] at h1
      obtain ⟨i, i1, i2⟩ := h.al p hp h1
      exact ⟨i, by omega, by rw [upd_ne _ _ (by omega)]; exact i2⟩
  · have := fb_ct_upd (fun p => decide (¬ sg p = -1)) true (i := q) (n := 192) hq
    rw [h.ct] at this
    simp only [hs, not_true_eq_false, decide_false, if_true] at this
    have e : fb_ct (fun p => decide (¬ upd sg q 0 p = -1)) 192 = fb_ct (fun k => if k = q then true else decide (¬ sg k = -1)) 192 := by
      apply fb_ct_cong
      intro k hk
      by_cases e : k = q
      · rw [if_pos e, e, upd_self]; decide
      · rw [if_neg e, upd_ne _ _ e]
    rw [e]
    simpa using this
  · by_cases e : p = q
    · rw [e]; exact h1 q hq hI
    · rw [upd_ne _ _ e] at h3
      exact h.xx X h1 h2 p hp h3
theorem blk_L {M : HMem} {c n : Nat} {fr ln : Int} (h : LN M c fr ln) : ∀ (k i : Nat) (g : Nat → Int32), (i : Int) ≤ ln + 1 → ln + 1 - i < k → (∀ p, p < 192 → g p = if onb (pl M c) i p = true then -1 else 0) → ∃ g', (∀ p, p < 192 → g' p = if onb (pl M c) (nP ln) p = true then -1 else 0) ∧ f_X9_placesShutIn_L13 n (50 + 3 * c) k (iI (fr + i)) (hput M 33 g) = f_X9_placesShutIn_L41 n n 0 0 (hput M 33 g') := by
  have hr := h.rg
  intro k
  induction k with
  | zero => intro i _ _ h; exfalso; omega
  | succ k ih =>
    intro i g i1 i2 hg
    have hm := h.put g (k0 := 33) (fun j => by rw [grp33]; decide)
    rw [f_X9_placesShutIn_L13, last_eq hm]
    by_cases hi : ln < i
    · rw [if_pos (by rw [iI_lt (by omega) (by omega) (by omega) (by omega)]; omega)]
      exact ⟨g, by rw [show nP ln = i by unfold nP; omega]; exact hg, rfl⟩
    · have hq := h.pb (k := i) (by omega)
      rw [if_neg (by rw [iI_lt (by omega) (by omega) (by omega) (by omega)]; omega), placeAt_in hm (by omega), hb1_some, pl_put _ h.c8 (fun j => by rw [grp33]; decide), markPlace_in hq, hb1_some, hset_put, iI_t]
      exact ih (i + 1) (upd g (pl M c i) (-1)) (by omega) (by omega) (fun p hp => by
        simp only [upd]
        by_cases e : p = pl M c i
        · rw [if_pos e, onb_eq e.symm]; rfl
        · rw [if_neg e, hg p hp, onb_ne (fun q => e q.symm)])
theorem edg_L {A0 : HMem} {n : Nat} {sh : Nat → Int32} : ∀ (k i T : Nat) (g row sg qu : Nat → Int32), WK sh (fun p => ed p = true ∧ sh p = 0) g row sg qu T → i ≤ 192 → 192 - i < k → (∀ p, p < 192 → (¬ sg p = -1 ↔ (p < i ∧ ed p = true ∧ sh p = 0))) → ∃ (T' : Nat) (g' row' sg' qu' : Nat → Int32), WK sh (fun p => ed p = true ∧ sh p = 0) g' row' sg' qu' T' ∧ (∀ p, p < 192 → ed p = true → sh p = 0 → ¬ sg' p = -1) ∧ f_X9_placesShutIn_L41 n k (iI T) (iI i) (mA A0 g row) = hb1 (f_X9_spread n (iI T') (mA A0 g' row')) (fun M101 => f_X9_placesShutIn_L78 n M101 n 0 0) := by
  intro k
  induction k with
  | zero => intro i _ _ _ _ _ _ _ h; exfalso; omega
  | succ k ih =>
    intro i T g row sg qu hW hi hk hd
    rw [f_X9_placesShutIn_L41]
    by_cases h6 : i = 192
    · subst h6
      rw [if_pos (by decide)]
      exact ⟨T, g, row, sg, qu, hW, fun p hp h1 h2 => (hd p hp).mpr ⟨hp, h1, h2⟩, rfl⟩
    · have hi' : i < 192 := by omega
      have hsg : sg i = -1 := by
        have := hd i hi'
        by_cases q : sg i = -1
        · exact q
        · exact absurd (this.mp q).1 (by omega)
      have nx : ¬ (ed i = true ∧ sh i = 0) → ∀ p, p < 192 → (¬ sg p = -1 ↔ (p < i + 1 ∧ ed p = true ∧ sh p = 0)) := fun hno p hp => by
        by_cases e : p = i
        · subst e
          exact ⟨fun h => absurd hsg h, fun h => absurd h.2 hno⟩
        · rw [hd p hp]
          exact ⟨fun h => ⟨by omega, h.2⟩, fun h => ⟨by omega, h.2⟩⟩
      rw [if_neg (by rw [q192]; exact nl_i (by omega) (by omega) (by omega)), show f_X9_isOnEdge (iI (i : Int)) = (if ed i = true then 1 else 0) from (ed_all ⟨i, hi'⟩).1, iI_s]
      by_cases e : ed i = true
      · rw [if_pos e, if_neg i10, f_X9_queue, markAt_in hi', hb1_some, mA33]
        obtain ⟨s, s1, s2, s3, s4⟩ := hW.mk' i hi'
        have hT := hW.lt hi' hsg
        have sm : s = -1 := by
          rw [hsg, qm1, iI_eq (by omega) (by omega) (by clear s4; omega) (by clear s4; omega)] at s3
          exact s3.symm
        subst sm
        rcases s4 with ⟨s5, s6⟩ | ⟨s5, s6, -⟩
        · rw [s6, if_pos (by decide), if_neg (by rw [q0]; exact nlt_i (by omega) (by omega) (by omega)), if_pos (by rw [q192]; exact lt_i (by omega) (by omega) (by omega)), hib_t (by omega) (by omega) (by omega), if_pos rfl, iI_natc (by omega), markPlace_in hi', hb1_some, hb2_some, mA_set34, mA_set33, iI_s]
          refine ih (i + 1) (T + 1) _ _ _ _ (hW.src hi' s5 hsg ⟨e, s5⟩) (by omega) (by omega) (fun p hp => ?_)
          by_cases q : p = i
          · subst q
            rw [upd_self]
            exact ⟨fun _ => ⟨by omega, e, s5⟩, fun _ => by decide⟩
          · rw [upd_ne _ _ q, hd p hp]
            exact ⟨fun h => ⟨by omega, h.2⟩, fun h => ⟨by omega, h.2⟩⟩
        · rw [s6, if_neg (by decide), hb2_some]
          exact ih (i + 1) T _ _ _ _ hW (by omega) (by omega) (nx (fun h => s5 h.2))
      · rw [if_neg e, if_pos rfl]
        exact ih (i + 1) T _ _ _ _ hW (by omega) (by omega) (nx (fun h => e h.1))
theorem cnt_L {n : Nat} (M : HMem) : ∀ (k i : Nat), i ≤ 192 → 192 - i < k → f_X9_placesShutIn_L78 n M k (iI (fb_ct (fun p => decide (M 33 p = 0)) i : Nat)) (iI i) = some (iI (fb_ct (fun p => decide (M 33 p = 0)) 192 : Nat), M) := by
  intro k
  induction k with
  | zero => intro i _ h; exfalso; omega
  | succ k ih =>
    intro i hi hk
    rw [f_X9_placesShutIn_L78]
    by_cases h6 : i = 192
    · subst h6; rw [if_pos (by decide)]
    · have e := ih (i + 1) (by omega) (by omega)
      rw [if_neg (by rw [q192]; exact nl_i (by omega) (by omega) (by omega)), hib_t (by omega) (by omega) (by omega), if_pos rfl, iI_natc (by omega), iI_s, iI_s]
      rw [fb_ct_succ] at e
      by_cases q : M 33 i = 0
      · rw [if_pos q]
        rw [if_pos (by simp [q])] at e
        exact e
      · rw [if_neg q]
        rw [if_neg (by simp [q])] at e
        exact e
/-- what the class's answer is -/
theorem shutIn_eq {M : HMem} {c n : Nat} {fr ln : Int} (hL : LN M c fr ln) (hn : 300 ≤ n) : ∃ (g row : Nat → Int32) (V : Nat → Prop), f_X9_placesShutIn n (50 + 3 * c) M = some (iI (fb_ct (fun p => decide (g p = 0)) 192 : Nat), mA M g row) ∧ (∀ p, p < 192 → (g p = 0 ↔ (onb (pl M c) (nP ln) p = false ∧ ¬ V p))) ∧ (∀ p, p < 192 → ed p = true → onb (pl M c) (nP ln) p = false → V p) ∧ (∀ q, q < 192 → V q → ∀ w, w < 4 → onb (pl M c) (nP ln) (nbr q w) = false → V (nbr q w)) ∧ (∀ X : Nat → Prop, (∀ p, p < 192 → ed p = true → onb (pl M c) (nP ln) p = false → X p) → (∀ q, q < 192 → X q → ∀ w, w < 4 → onb (pl M c) (nP ln) (nbr q w) = false → X (nbr q w)) → ∀ q, q < 192 → V q → X q) := by
  have hr := hL.rg
  have hc := hL.c8
  obtain ⟨g, g1, g2⟩ := blk_L (n := n) hL n 0 (fun j => if j < 192 then 0 else M 33 j) (by omega) (by omega) (fun p hp => by rw [if_pos hp]; rfl)
  have e1 : f_X9_placesShutIn n (50 + 3 * c) M = f_X9_placesShutIn_L41 n n 0 0 (hput M 33 g) := by
    rw [f_X9_placesShutIn, fill_eq (by omega) (by omega), hb1_some, hput_ne _ _ (by omega), hL.cf.1]
    rw [show fr + ((0 : Nat) : Int) = fr by omega] at g2
    exact g2
  let sh : Nat → Int32 := fun p => if onb (pl M c) (nP ln) p = true then 1 else 0
  have sh0 : ∀ p, sh p = 0 ↔ onb (pl M c) (nP ln) p = false := fun p => by
    show (if onb (pl M c) (nP ln) p = true then (1 : Int32) else 0) = 0 ↔ _
    by_cases q : onb (pl M c) (nP ln) p = true
    · rw [if_pos q, q]; decide
    · rw [if_neg q]; simpa using q
  have eA : hput M 33 g = mA M g (M 34) := by
    have : M 34 = hput M 33 g 34 := by rw [hput_ne _ _ (by decide)]
    rw [mA, this, hput_eta]
  have hW0 : WK sh (fun p => ed p = true ∧ sh p = 0) g (M 34) (fun _ => -1) (fun _ => 0) 0 := by
    refine ⟨fun p hp => ⟨-1, by omega, by omega, rfl, ?_⟩, fun i hi => absurd hi (by omega), fun q hq h => absurd rfl h, fb_ct_zero.mpr (fun k hk => by simp), fun X _ _ q hq h => absurd rfl h⟩
    rw [g1 p hp]
    by_cases q : onb (pl M c) (nP ln) p = true
    · right
      exact ⟨fun h => by rw [(sh0 p).mp h] at q; exact absurd q (by decide), if_pos q, rfl⟩
    · left
      exact ⟨(sh0 p).mpr (by simpa using q), if_neg q⟩
  obtain ⟨T1, ga, ra, sa, qa, w1, w2, w3⟩ := edg_L (A0 := M) (n := n) n 0 0 g (M 34) (fun _ => -1) (fun _ => 0) hW0 (by omega) (by omega) (fun p hp => ⟨fun h => absurd rfl h, fun h => absurd h.1 (by omega)⟩)
  have w3' : f_X9_placesShutIn_L41 n n 0 0 (mA M g (M 34)) = hb1 (f_X9_spread n (iI T1) (mA M ga ra)) (fun M101 => f_X9_placesShutIn_L78 n M101 n 0 0) := w3
  have w1' : WK (hput M 108 sh 108) (fun p => ed p = true ∧ sh p = 0) ga ra sa qa T1 := by rw [hput_self]; exact w1
  obtain ⟨T2, gb, rb, sb, qb, v1, v2, v3, v4, v5⟩ := wk_out (A0 := M) (B0 := hput M 108 sh) (n := n) (by omega) n 0 T1 ga ra sa qa w1' (by omega) (by omega) (fun j h => absurd h (by omega))
  rw [hput_self] at v1 v3
  have v4' : f_X9_spread n (iI T1) (mA M ga ra) = some (mA M gb rb) := v4
  have cn := cnt_L (n := n) (mA M gb rb) n 0 (by omega) (by omega)
  rw [mA33] at cn
  have cn' : f_X9_placesShutIn_L78 n (mA M gb rb) n 0 0 = some (iI (fb_ct (fun p => decide (gb p = 0)) 192 : Nat), mA M gb rb) := cn
  refine ⟨gb, rb, fun p => ¬ sb p = -1, ?_, fun p hp => ?_, fun p hp h1 h2 => v2 p hp (w2 p hp h1 ((sh0 p).mpr h2)), fun q hq h w hw h2 => v3 q hq h w hw ((sh0 _).mpr h2), fun X h1 h2 q hq h3 => v1.xx X (fun q hq h => h1 q hq h.1 ((sh0 q).mp h.2)) (fun q hq h w hw h4 => h2 q hq h w hw ((sh0 _).mp h4)) q hq h3⟩
  · rw [e1, eA, w3', v4', hb1_some, cn']
  · obtain ⟨s, s1, s2, s3, s4⟩ := v1.mk' p hp
    have hT := v1.le
    show gb p = 0 ↔ _ ∧ ¬ ¬ sb p = -1
    rcases s4 with ⟨s5, s6⟩ | ⟨s5, s6, s7⟩
    · rw [s6, s3, q0, qm1, iI_eq (by omega) (by omega) (by omega) (by omega), iI_eq (by omega) (by omega) (by omega) (by omega)]
      have := (sh0 p).mp s5
      constructor
      · intro h; exact ⟨this, fun h2 => h2 (by omega)⟩
      · intro h
        by_cases q : s = -1
        · omega
        · exact absurd q h.2
    · rw [s6]
      constructor
      · intro h; exact absurd h (by decide)
      · intro h; exact absurd ((sh0 p).mpr h.1) s5
-- the reference
theorem mB_mB (X : HMem) (a b c d : Nat → Int32) : mB (mB X a b) c d = mB X c d := by
  funext k
  unfold mB hput
  by_cases h : k = 107
  · simp [h]
  · by_cases h2 : k = 106
    · simp [h2]
    · simp [h, h2]
theorem mB_set108 (M : HMem) (sh sg qu : Nat → Int32) (j : Nat) (v : Int32) : hset (mB (hput M 108 sh) sg qu) 108 j v = mB (hput M 108 (upd sh j v)) sg qu := by
  rw [mB, hset_put_ne _ _ _ _ (by decide), hset_put_ne _ _ _ _ (by decide), hset_put, mB]
theorem rin_L {M : HMem} {c n : Nat} {fr ln : Int} (hL : LN M c fr ln) (hn : 300 ≤ n) : ∀ (k i : Nat) (g : Nat → Int32), i ≤ 192 → 192 - i < k → (∀ p, p < i → g p = if onb (pl M c) (nP ln) p = true then 1 else 0) → ∃ g', (∀ p, p < 192 → g' p = if onb (pl M c) (nP ln) p = true then 1 else 0) ∧ f_X12_heldIn_L14 n (iI c) k (iI (fb_ct (fun p => !onb (pl M c) (nP ln) p) i : Nat)) (iI i) (hput M 108 g) = f_X12_heldIn_L54 n n (iI (fb_ct (fun p => !onb (pl M c) (nP ln) p) 192 : Nat)) 0 (hput M 108 g') := by
  intro k
  induction k with
  | zero => intro i _ _ h; exfalso; omega
  | succ k ih =>
    intro i g hi hk hg
    rw [f_X12_heldIn_L14]
    by_cases h6 : i = 192
    · subst h6
      rw [if_pos (by decide)]
      exact ⟨g, hg, rfl⟩
    · have hm := hL.put g (k0 := 108) (fun j => by rw [grp108]; decide)
      have epl : pl (hput M 108 g) c = pl M c := funext fun k => pl_put _ hL.c8 (fun j => by rw [grp108]; decide) k
      rw [if_neg (by rw [q192]; exact nl_i (by omega) (by omega) (by omega)), isOn_eq hm (by omega) (by omega), hb1_some, hib_t (by omega) (by omega) (by omega), if_pos rfl, hb1_some, if_pos rfl, iI_natc (by omega), hset_put, hput_self, upd_self, epl, iI_s, iI_s]
      have nx : ∀ v : Int32, (v = if onb (pl M c) (nP ln) i = true then 1 else 0) → ∀ p, p < i + 1 → upd g i v p = if onb (pl M c) (nP ln) p = true then 1 else 0 := fun v hv p hp => by
        by_cases e : p = i
        · subst e; rw [upd_self]; exact hv
        · rw [upd_ne _ _ e]; exact hg p (by omega)
      by_cases q : onb (pl M c) (nP ln) i = true
      · have e := ih (i + 1) (upd g i (1 &&& 1)) (by omega) (by omega) (nx _ (by rw [if_pos q]; rfl))
        rw [fb_ct_succ, if_neg (by rw [q]; decide)] at e
        rw [if_pos q, if_neg (by decide)]
        exact e
      · have e := ih (i + 1) (upd g i (0 &&& 1)) (by omega) (by omega) (nx _ (by rw [if_neg q]; rfl))
        rw [fb_ct_succ, if_pos (by simpa using q)] at e
        rw [if_neg q, if_pos (by decide)]
        exact e
theorem off_L {M : HMem} {n e : Nat} {sg qu : Nat → Int32} (r : Int32 → Int32 → HMem → Option (Int32 × HMem)) : ∀ (k i : Nat) (sh : Nat → Int32), i ≤ 192 → 192 - i < k → (∀ p, i ≤ p → p < 192 → ¬ sg p = -1 → sh p = 0) → ∃ sh', (∀ p, p < 192 → sh' p = if i ≤ p ∧ ¬ sg p = -1 then 1 else sh p) ∧ f_X12_heldIn_L88 n r (iI e) k (iI (fb_ct (fun p => decide (sh p = 0)) 192 : Nat)) (iI i) (mB (hput M 108 sh) sg qu) = r (iI (fb_ct (fun p => decide (sh' p = 0)) 192 : Nat)) (iI ((e + 1 : Nat) : Int)) (mB (hput M 108 sh') sg qu) := by
  intro k
  induction k with
  | zero => intro i _ _ h; exfalso; omega
  | succ k ih =>
    intro i sh hi hk hs
    rw [f_X12_heldIn_L88]
    by_cases h6 : i = 192
    · subst h6
      rw [if_pos (by decide), iI_s]
      exact ⟨sh, fun p hp => by rw [if_neg (by omega)], rfl⟩
    · rw [if_neg (by rw [q192]; exact nl_i (by omega) (by omega) (by omega)), hib_t (by omega) (by omega) (by omega), if_pos rfl, if_pos rfl, iI_natc (by omega), iI_s, mB106, mB_set108]
      by_cases q : sg i = -1
      · rw [if_pos q]
        obtain ⟨sh', h1, h2⟩ := ih (i + 1) sh (by omega) (by omega) (fun p h1 h2 => hs p (by omega) h2)
        refine ⟨sh', fun p hp => ?_, h2⟩
        rw [h1 p hp]
        by_cases x : p = i
        · subst x; rw [if_neg (by omega), if_neg (fun h => h.2 q)]
        · by_cases y : i ≤ p ∧ ¬ sg p = -1
          · rw [if_pos y, if_pos ⟨by omega, y.2⟩]
          · rw [if_neg y, if_neg (fun h => y ⟨by omega, h.2⟩)]
      · rw [if_neg q]
        have hsi := hs i (by omega) (by omega) q
        have hct := fb_ct_upd (fun p => decide (sh p = 0)) false (i := i) (n := 192) (by omega)
        have e2 : fb_ct (fun p => decide (upd sh i (1 &&& 1) p = 0)) 192 = fb_ct (fun k => if k = i then false else decide (sh k = 0)) 192 := by
          apply fb_ct_cong
          intro k hk
          by_cases e : k = i
          · rw [if_pos e, e, upd_self]; decide
          · rw [if_neg e, upd_ne _ _ e]
        have hpos : 0 < fb_ct (fun p => decide (sh p = 0)) 192 := fb_ct_pos.mpr ⟨i, by omega, by simp [hsi]⟩
        rw [if_pos (by simp [hsi]), if_neg (by decide), Nat.add_zero, ← e2] at hct
        have e3 : iI ((fb_ct (fun p => decide (sh p = 0)) 192 : Nat) : Int) - 1 = iI ((fb_ct (fun p => decide (upd sh i (1 &&& 1) p = 0)) 192 : Nat) : Int) := by
          show iI _ - iI 1 = _
          rw [iI_sub]
          congr 1
          omega
        rw [e3]
        obtain ⟨sh', h1, h2⟩ := ih (i + 1) (upd sh i (1 &&& 1)) (by omega) (by omega) (fun p h1 h2 h3 => by rw [upd_ne _ _ (by omega)]; exact hs p (by omega) h2 h3)
        refine ⟨sh', fun p hp => ?_, h2⟩
        rw [h1 p hp]
        by_cases x : p = i
        · subst x; rw [if_neg (by omega), if_pos ⟨by omega, q⟩, upd_self]; rfl
        · rw [upd_ne _ _ x]
          by_cases y : i ≤ p ∧ ¬ sg p = -1
          · rw [if_pos y, if_pos ⟨by omega, y.2⟩]
          · rw [if_neg y, if_neg (fun h => y ⟨by omega, h.2⟩)]
theorem all_L {M : HMem} {n : Nat} (hn : 300 ≤ n) {on : Nat → Bool} {V : Nat → Prop} (v1 : ∀ p, p < 192 → ed p = true → on p = false → V p) (v2 : ∀ q, q < 192 → V q → ∀ w, w < 4 → on (nbr q w) = false → V (nbr q w)) : ∀ (k e : Nat) (sh sg qu : Nat → Int32), e ≤ 192 → 192 - e < k → (∀ p, p < 192 → on p = true → ¬ sh p = 0) → (∀ p, p < 192 → ¬ sh p = 0 → on p = false → ∀ w, w < 4 → on (nbr p w) = false → ¬ sh (nbr p w) = 0) → (∀ p, p < e → ed p = true → ¬ sh p = 0) → (∀ p, p < 192 → ¬ sh p = 0 → on p = false → V p) → ∃ sh' sg' qu', (∀ p, p < 192 → on p = true → ¬ sh' p = 0) ∧ (∀ p, p < 192 → ¬ sh' p = 0 → on p = false → ∀ w, w < 4 → on (nbr p w) = false → ¬ sh' (nbr p w) = 0) ∧ (∀ p, p < 192 → ed p = true → ¬ sh' p = 0) ∧ (∀ p, p < 192 → ¬ sh' p = 0 → on p = false → V p) ∧ f_X12_heldIn_L54 n k (iI (fb_ct (fun p => decide (sh p = 0)) 192 : Nat)) (iI e) (mB (hput M 108 sh) sg qu) = some (iI (fb_ct (fun p => decide (sh' p = 0)) 192 : Nat), mB (hput M 108 sh') sg' qu') := by
  intro k
  induction k with
  | zero => intro e _ _ _ _ h; exfalso; omega
  | succ k ih =>
    intro e sh sg qu he hk h1 h2 h3 h4
    rw [f_X12_heldIn_L54]
    by_cases h6 : e = 192
    · subst h6
      rw [if_pos (by decide)]
      exact ⟨sh, sg, qu, h1, h2, h3, h4, rfl⟩
    · have he' : e < 192 := by omega
      rw [if_neg (by rw [q192]; exact nl_i (by omega) (by omega) (by omega)), show f_X12_isAtEdge (iI (e : Int)) = (if ed e = true then 1 else 0) from (ed_all ⟨e, he'⟩).2, iI_s]
      by_cases ee : ed e = true
      · rw [if_pos ee, if_neg i10, hib_t (by omega) (by omega) (by omega), if_pos rfl, iI_natc (by omega), mB108, hput_self]
        by_cases q : sh e = 0
        · rw [if_pos q]
          obtain ⟨sg1, a1, a2⟩ := walks_go (M := mB (hput M 108 sh) sg qu) (n := n) hn he'
          have hW := wk_one (sh := sh) (g := fun p => if sh p = 0 then 0 else -1) (row := fun _ => 0) (sg := sg1) (qu := mB (hput M 108 sh) sg qu 107) he' q (fun p hp => rfl) a1
          have hW' : WK (mB (hput M 108 sh) sg qu 108) (fun p => p = e) (upd (fun p => if sh p = 0 then 0 else -1) e 1) (upd (fun _ => 0) 0 (iI e)) (upd sg1 e 0) (upd (mB (hput M 108 sh) sg qu 107) 0 (iI e)) 1 := by rw [mB108, hput_self]; exact hW
          obtain ⟨T', g', row', sg', qu', b1, b2, b3, -, b5⟩ := wk_out (A0 := M) (B0 := mB (hput M 108 sh) sg qu) (n := n) (by omega) n 0 1 _ _ _ _ hW' (by omega) (by omega) (fun j h => absurd h (by omega))
          rw [mB108, hput_self] at b1 b3
          rw [mB_mB] at b5
          rw [a2, mB_mB, b5, mB_mB, hb1_some]
          have vs0 : ∀ p, p < 192 → ¬ sg' p = -1 → sh p = 0 := fun p hp h => by
            obtain ⟨s, s1, s2, s3, s4⟩ := b1.mk' p hp
            rcases s4 with ⟨s5, -⟩ | ⟨-, -, s7⟩
            · exact s5
            · rw [s7] at s3; exact absurd s3 h
          obtain ⟨sh2, c1, c2⟩ := off_L (M := M) (n := n) (e := e) (sg := sg') (qu := qu') (f_X12_heldIn_L54 n k) n 0 sh (by omega) (by omega) (fun p _ hp h => vs0 p hp h)
          have c2' : f_X12_heldIn_L88 n (f_X12_heldIn_L54 n k) (iI e) n (iI (fb_ct (fun p => decide (sh p = 0)) 192 : Nat)) 0 (mB (hput M 108 sh) sg' qu') = f_X12_heldIn_L54 n k (iI (fb_ct (fun p => decide (sh2 p = 0)) 192 : Nat)) (iI ((e + 1 : Nat) : Int)) (mB (hput M 108 sh2) sg' qu') := c2
          rw [c2']
          have keep : ∀ p, p < 192 → ¬ sh p = 0 → ¬ sh2 p = 0 := fun p hp h => by
            rw [c1 p hp]; split
            · decide
            · exact h
          have new : ∀ p, p < 192 → ¬ sg' p = -1 → ¬ sh2 p = 0 := fun p hp h => by
            rw [c1 p hp, if_pos ⟨by omega, h⟩]; decide
          have old : ∀ p, p < 192 → ¬ sh2 p = 0 → ¬ sg' p = -1 ∨ (sg' p = -1 ∧ ¬ sh p = 0) := fun p hp h => by
            by_cases x : sg' p = -1
            · rw [c1 p hp, if_neg (fun y => y.2 x)] at h
              exact Or.inr ⟨x, h⟩
            · exact Or.inl x
          have one : ∀ p, p < 192 → sh p = 0 → on p = false := fun p hp h => by
            by_cases x : on p = true
            · exact absurd h (h1 p hp x)
            · simpa using x
          have hvis : ∀ p, p < 192 → ¬ sg' p = -1 → V p := b1.xx V (fun p hp h => by rw [h]; exact v1 e he' ee (one e he' q)) (fun p hp h w hw h5 => v2 p hp h w hw (one _ (nbrs hp hw).2.2 h5))
          have eV : ¬ sg' e = -1 := b2 e he' (by rw [upd_self]; decide)
          refine ih (e + 1) sh2 sg' qu' (by omega) (by omega) (fun p hp h => keep p hp (h1 p hp h)) (fun p hp h5 h6 w hw h7 => ?_) (fun p hp h5 => ?_) (fun p hp h5 h6 => ?_)
          · have hb := (nbrs hp hw).2.2
            rcases old p hp h5 with x | ⟨-, x⟩
            · by_cases y : sh (nbr p w) = 0
              · exact new _ hb (b3 p hp x w hw y)
              · exact keep _ hb y
            · exact keep _ hb (h2 p hp x h6 w hw h7)
          · by_cases x : p = e
            · rw [x]; exact new e he' eV
            · exact keep p (by omega) (h3 p (by omega) h5)
          · rcases old p hp h5 with x | ⟨-, x⟩
            · exact hvis p hp x
            · exact h4 p hp x h6
        · rw [if_neg q]
          exact ih (e + 1) sh sg qu (by omega) (by omega) h1 h2 (fun p hp h5 => by
            by_cases x : p = e
            · rw [x]; exact q
            · exact h3 p (by omega) h5) h4
      · rw [if_neg ee, if_pos rfl]
        exact ih (e + 1) sh sg qu (by omega) (by omega) h1 h2 (fun p hp h5 => by
          by_cases x : p = e
          · rw [x] at h5; exact absurd h5 ee
          · exact h3 p (by omega) h5) h4
theorem op_heldIn (v : Int32) {n : Nat} (hn : 300 ≤ n) {M : HMem} (hLs : ILines M) : ∃ r M1 M2, f_X11_heldIn n v M = some (r, M1) ∧ f_X12_heldIn n v M1 = some (r, M2) ∧ oth 0 M M2 := by
  rcases lineV hLs v with ⟨h1, h2⟩ | ⟨c, fr, ln, rfl, hL, h1, h2⟩
  · exact ⟨-1, M, M, by rw [f_X11_heldIn, h1, hb1_some], by rw [f_X12_heldIn, h2, hb1_some, if_pos rfl], oth_rf _ _⟩
  · have hr := hL.rg
    obtain ⟨g, row, V, e1, e2, e3, e4, e5⟩ := shutIn_eq (n := n) hL hn
    have hLm : LN (mA M g row) c fr ln := (hL.put g (fun j => by rw [grp33]; decide)).put row (fun j => by rw [grp34]; decide)
    have epl : pl (mA M g row) c = pl M c := funext fun k => by rw [mA, pl_put _ hL.c8 (fun j => by rw [grp34]; decide), pl_put _ hL.c8 (fun j => by rw [grp33]; decide)]
    obtain ⟨s0, s1, s2⟩ := rin_L (n := n) hLm hn n 0 (mA M g row 108) (by omega) (by omega) (fun p h => absurd h (by omega))
    rw [hput_eta] at s2
    rw [epl] at s1 s2
    have s2' : f_X12_heldIn_L14 n (iI c) n 0 0 (mA M g row) = f_X12_heldIn_L54 n n (iI (fb_ct (fun p => !onb (pl M c) (nP ln) p) 192 : Nat)) 0 (hput (mA M g row) 108 s0) := s2
    have hs0 : ∀ p, p < 192 → (s0 p = 0 ↔ onb (pl M c) (nP ln) p = false) := fun p hp => by
      rw [s1 p hp]
      by_cases q : onb (pl M c) (nP ln) p = true
      · rw [if_pos q, q]; decide
      · rw [if_neg q]; simpa using q
    have ect : fb_ct (fun p => !onb (pl M c) (nP ln) p) 192 = fb_ct (fun p => decide (s0 p = 0)) 192 := by
      apply fb_ct_cong
      intro k hk
      have := hs0 k hk
      by_cases q : onb (pl M c) (nP ln) k = true
      · rw [q] at this ⊢; simp [this]
      · have q' : onb (pl M c) (nP ln) k = false := by simpa using q
        rw [q'] at this ⊢; simp [this]
    have eB : hput (mA M g row) 108 s0 = mB (hput (mA M g row) 108 s0) (mA M g row 106) (mA M g row 107) := by
      have a : mA M g row 106 = hput (mA M g row) 108 s0 106 := by rw [hput_ne _ _ (by decide)]
      have b : mA M g row 107 = hput (mA M g row) 108 s0 107 := by rw [hput_ne _ _ (by decide)]
      rw [mB, a, b, hput_eta, hput_eta]
    obtain ⟨sh, sg, qu, t1, t2, t3, t4, t5⟩ := all_L (M := mA M g row) (n := n) hn (on := onb (pl M c) (nP ln)) (V := V) e3 e4 n 0 s0 (mA M g row 106) (mA M g row 107) (by omega) (by omega) (fun p hp h => fun h2 => by rw [(hs0 p hp).mp h2] at h; exact absurd h (by decide)) (fun p hp h h2 => absurd ((hs0 p hp).mpr h2) h) (fun p h => absurd h (by omega)) (fun p hp h h2 => absurd ((hs0 p hp).mpr h2) h)
    have t5' : f_X12_heldIn_L54 n n (iI (fb_ct (fun p => decide (s0 p = 0)) 192 : Nat)) 0 (mB (hput (mA M g row) 108 s0) (mA M g row 106) (mA M g row 107)) = some (iI (fb_ct (fun p => decide (sh p = 0)) 192 : Nat), mB (hput (mA M g row) 108 sh) sg qu) := t5
    have same : fb_ct (fun p => decide (g p = 0)) 192 = fb_ct (fun p => decide (sh p = 0)) 192 := by
      apply fb_ct_cong
      intro p hp
      have iff : g p = 0 ↔ sh p = 0 := by
        rw [e2 p hp]
        constructor
        · rintro ⟨a, b⟩
          by_cases q : sh p = 0
          · exact q
          · exact absurd (t4 p hp q a) b
        · intro q
          refine ⟨?_, fun hv => ?_⟩
          · by_cases x : onb (pl M c) (nP ln) p = true
            · exact absurd q (t1 p hp x)
            · simpa using x
          · have := e5 (fun p => ¬ sh p = 0 ∧ (onb (pl M c) (nP ln) p = false)) (fun p hp h1 h2 => ⟨t3 p hp h1, h2⟩) (fun q hq h w hw h2 => ⟨t2 q hq h.1 h.2 w hw h2, h2⟩) p hp hv
            exact this.1 q
      by_cases q : g p = 0
      · simp [q, iff.mp q]
      · have q2 : ¬ sh p = 0 := fun x => q (iff.mpr x)
        simp [q, q2]
    refine ⟨iI (fb_ct (fun p => decide (g p = 0)) 192 : Nat), mA M g row, mB (hput (mA M g row) 108 sh) sg qu, ?_, ?_, ?_⟩
    · rw [f_X11_heldIn, h1, hb1_some]
      dsimp only
      rw [e1, hb2_some]
    · have hl : f_X12_hasLine (iI c) (mA M g row) = some 1 := hasLine_1 hL.c8 hLm.cf.2.2.1 hr.1 hr.2.1
      rw [f_X12_heldIn, hl, hb1_some, if_neg i10, s2', ect, eB, t5', same]
    · have oA : oth 0 M (mA M g row) := (oth_put (G := 0) (k0 := 33) (fun j => Or.inl rfl)).trans (oth_put (fun j => Or.inl rfl))
      exact ((oA.trans (oth_put (G := 0) (k0 := 108) (fun j => Or.inl rfl))).trans (oth_put (G := 0) (k0 := 106) (fun j => Or.inl rfl))).trans (oth_put (fun j => Or.inl rfl))

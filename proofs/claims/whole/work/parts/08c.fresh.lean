/-! freshest -/
def lo (P : Nat → Bool) (fr : Int) : Nat → Int
  | 0 => -2
  | i + 1 => if P i = true then fr + i else lo P fr i
theorem lo_t {P : Nat → Bool} {fr : Int} {i : Nat} (h : P i = true) : lo P fr (i + 1) = fr + i := if_pos h
theorem lo_f {P : Nat → Bool} {fr : Int} {i : Nat} (h : ¬ P i = true) : lo P fr (i + 1) = lo P fr i := if_neg h
theorem lo_0 {P : Nat → Bool} {fr : Int} : lo P fr 0 = -2 := rfl
theorem lo_rg {P : Nat → Bool} {fr : Int} (h0 : 0 ≤ fr) : ∀ i, lo P fr i = -2 ∨ (0 ≤ lo P fr i ∧ lo P fr i < fr + i)
  | 0 => Or.inl rfl
  | i + 1 => by
    simp only [lo]
    split
    · right; omega
    · rcases lo_rg (P := P) h0 i with h | h
      · exact Or.inl h
      · right; omega
theorem lo_cut {P : Nat → Bool} {fr : Int} {a : Nat} : ∀ b, (∀ k, a ≤ k → k < b → P k = false) → a ≤ b → lo P fr b = lo P fr a
  | 0, _, h => by rw [show a = 0 by omega]
  | b + 1, h, h2 => by
    by_cases e : a = b + 1
    · rw [e]
    · simp only [lo]
      rw [if_neg (by rw [h b (by omega) (by omega)]; decide)]
      exact lo_cut b (fun k h3 h4 => h k h3 (by omega)) (by omega)
/-- a scent at p lies there, the i-th of the line -/
def sB (M : HMem) (T f : Int) (c : Nat) (fr : Int) (p i : Nat) : Bool := pl M c i == p && decide (0 < sp M T f p (fr + i))
theorem lat_L {M : HMem} {c n p : Nat} {fr ln T f : Int} (hL : LN M c fr ln) (hS : SC M T f) (hD : ILand M) (hp : p < 192) : ∀ (k i : Nat), (i : Int) ≤ ln + 1 → i < k → f_X0_latestOf_L26 n (iI p) (iI T) (50 + 3 * c) M k (iI (fr + i - 1)) = some (iI (lo (sB M T f c fr p) fr i)) := by
  have hr := hL.rg
  have hc := hL.c8
  obtain ⟨f3, f4, f5, f6⟩ := hL.cf
  intro k
  induction k with
  | zero => intro i _ h; exfalso; omega
  | succ k ih =>
    intro i i1 i2
    rw [f_X0_latestOf_L26, f3]
    rcases i with _ | i
    · rw [if_pos (lt_i (by omega) (by omega) (by omega))]; rfl
    · have hq := hL.pb (k := i) (by omega)
      rw [show fr + ((i + 1 : Nat) : Int) - 1 = fr + i by omega, if_neg (nlt_i (by omega) (by omega) (by omega)), placeAt_in hL (by omega), hb1_some, smells_eq hS hD hp (by omega) (by omega), hb1_some, qm1, iI_add, show fr + (i : Int) + -1 = fr + i - 1 by omega, ih i (by omega) (by omega)]
      simp only [lo]
      by_cases e : pl M c i = p
      · rw [if_pos (by rw [e])]
        by_cases e2 : 0 < sp M T f p (fr + i)
        · rw [if_pos e2, if_neg i10, if_pos (by simp [sB, e, e2])]
        · rw [if_neg e2, if_pos rfl, if_neg (by simp [sB, e2])]
      · rw [if_neg (ne_i (by omega) (by omega) (by omega) (by omega) (by omega)), if_neg (by simp [sB, e])]
theorem sB_late {M : HMem} {c p i : Nat} {fr T f : Int} (h : T < fr + i) : sB M T f c fr p i = false := by
  have h0 : st T f (fr + i) = 0 := if_neg (by omega)
  have : sp M T f p (fr + i) = 0 := by unfold sp; rw [h0]; split <;> rfl
  simp [sB, this]
theorem lat_eq {M : HMem} {c n p : Nat} {fr ln T f : Int} (hL : LN M c fr ln) (hl : f_X0_laid (iI c) M = some (some (50 + 3 * c))) (hS : SC M T f) (hD : ILand M) (hp : p < 192) (hn : 200 ≤ n) : f_X0_latestOf n (iI c) (iI p) (iI T) M = some (iI (lo (sB M T f c fr p) fr (nP ln))) := by
  have hr := hL.rg
  have hc := hL.c8
  obtain ⟨f3, f4, f5, f6⟩ := hL.cf
  rw [f_X0_latestOf, hl, hb1_some]
  dsimp only
  have hT := hS.1
  have hT2 := hS.2.1
  rw [last_eq hL, hmin_eq (by omega) (by omega) (by omega) (by omega)]
  by_cases h : fr ≤ T + 1
  · have e := lat_L (n := n) hL hS hD hp n (min (fr + ln) T - fr + 1).toNat (by omega) (by omega)
    rw [show fr + ((min (fr + ln) T - fr + 1).toNat : Int) - 1 = min (fr + ln) T by omega] at e
    rw [e, lo_cut (nP ln) (a := (min (fr + ln) T - fr + 1).toNat) (fun k k1 k2 => sB_late (by unfold nP at k2; omega)) (by unfold nP; omega)]
  · obtain ⟨m, rfl⟩ : ∃ m, n = m + 1 := ⟨n - 1, by omega⟩
    rw [f_X0_latestOf_L26, f3, if_pos (lt_i (by omega) (by omega) (by omega)), lo_cut (nP ln) (a := 0) (fun k k1 k2 => sB_late (by omega)) (by omega)]; rfl
theorem scn_L {M : HMem} {c n p : Nat} {fr ln T f : Int} (hL : LN M c fr ln) (hS : SC M T f) (hD : ILand M) (hp : p < 192) (r : Int32 → Int32 → Option Int32) : ∀ (k i m : Nat), (i : Int) ≤ ln + 1 → ln + 1 - i < k → f_X0_scentsAt_L35 n r (iI p) (iI T) (iI c) (50 + 3 * c) M k (iI ((m + fb_ct (sB M T f c fr p) i : Nat) : Int)) (iI (fr + i)) = r (iI ((m + fb_ct (sB M T f c fr p) (nP ln) : Nat) : Int)) (iI ((c + 1 : Nat) : Int)) := by
  have hr := hL.rg
  have hc := hL.c8
  intro k
  induction k with
  | zero => intro i _ _ h; exfalso; omega
  | succ k ih =>
    intro i m i1 i2
    rw [f_X0_scentsAt_L35, last_eq hL, iI_s]
    by_cases hi : ln < i
    · rw [if_pos (lt_i (by omega) (by omega) (by omega)), show nP ln = i by unfold nP; omega]
    · have hq := hL.pb (k := i) (by omega)
      have e := ih (i + 1) m (by omega) (by omega)
      rw [if_neg (show ¬ iI (fr + ln) < iI (fr + (i : Int)) from nlt_i (by omega) (by omega) (by omega)), placeAt_in hL (by omega), hb1_some, smells_eq hS hD hp (by omega) (by omega), hb1_some, iI_t, iI_s]
      rw [fb_ct_succ] at e
      by_cases e1 : pl M c i = p
      · rw [if_pos (by rw [e1])]
        by_cases e2 : 0 < sp M T f p (fr + i)
        · rw [if_pos e2, if_neg i10]
          rw [if_pos (by simp [sB, e1, e2])] at e
          exact e
        · rw [if_neg e2, if_pos rfl]
          rw [if_neg (by simp [sB, e2])] at e
          exact e
      · rw [if_neg (ne_i (by omega) (by omega) (by omega) (by omega) (by omega))]
        rw [if_neg (by simp [sB, e1])] at e
        exact e
theorem frR_L {M : HMem} {c n p : Nat} {fr ln T f : Int} (hL : LN M c fr ln) (hS : SC M T f) (hD : ILand M) (hp : p < 192) {x y : Int} (hxy : 16 * y + x = p) (v3 : Int32) (r : Int32 → Int32 → Int32 → Int32 → Option Int32) (L : Int) (l1 : -2 ≤ L) (l2 : L ≤ 20000) (w : Int32) (m : Nat) : ∀ (k i : Nat), (i : Int) ≤ ln + 1 → ln + 1 - i < k → f_X12_freshest_L43 n r (iI x) (iI y) v3 (iI c) M k (iI (max L (lo (sB M T f c fr p) fr i))) (if L < lo (sB M T f c fr p) fr i then iI c else w) (iI ((m + fb_ct (sB M T f c fr p) i : Nat) : Int)) (iI i) = r (iI (max L (lo (sB M T f c fr p) fr (nP ln)))) (if L < lo (sB M T f c fr p) fr (nP ln) then iI c else w) (iI ((m + fb_ct (sB M T f c fr p) (nP ln) : Nat) : Int)) (iI ((c + 1 : Nat) : Int)) := by
  have hr := hL.rg
  have hc := hL.c8
  obtain ⟨f3, f4, f5, f6⟩ := hL.cf
  intro k
  induction k with
  | zero => intro i _ h; exfalso; omega
  | succ k ih =>
    intro i i1 i2
    have lr := lo_rg (P := sB M T f c fr p) hr.2.2.1 i
    rw [f_X12_freshest_L43, hib_t (by omega) (by omega) (by omega), if_pos rfl, iI_natc (k := c) (by omega), f5, iI_s]
    by_cases hi : ln < i
    · rw [if_pos (lt_i hi (by omega) (by omega)), show nP ln = i by unfold nP; omega]
    · have hq := hL.pb (k := i) (by omega)
      have e := ih (i + 1) (by omega) (by omega)
      have hs := sp_rg p hS (show 0 ≤ fr + (i : Int) by omega)
      rw [if_neg (nlt_i (by omega) (by omega) (by omega)), hasLine_1 hc f5 hr.1 hr.2.1, hb1_some, if_neg i10, q97, iI_mul, iI_add, hib_t (z := 97 * (c : Int) + (i : Int)) (by omega) (by omega) (by omega), if_pos rfl, iI_nat (z := 97 * (c : Int) + (i : Int)) (by omega) (by omega), show (97 * (c : Int) + (i : Int)).toNat = 97 * c + i by omega, (hL.p1 (k := i) (by omega)).2, q16, iI_mul, iI_add, hxy, strengthOf_eq hS hD hL (by omega), hb1_some, f6, iI_add, iI_s, iI_s, if_pos rfl]
      rw [fb_ct_succ] at e
      by_cases e1 : pl M c i = p
      · rw [if_pos (by rw [e1])]
        rw [e1]
        by_cases e2 : 0 < sp M T f p (fr + i)
        · have eB : sB M T f c fr p i = true := by simp [sB, e1, e2]
          rw [if_neg (show ¬ iI (sp M T f p (fr + i)) = 0 by rw [q0]; exact ne_i (by omega) (by omega) (by omega) (by omega) (by omega))]
          rw [lo_t eB, if_pos eB] at e
          by_cases e3 : L < fr + i
          · rw [if_pos (show iI (max L (lo (sB M T f c fr p) fr i)) < iI (fr + i) from lt_i (by omega) (by omega) (by omega)), if_pos rfl]
            rw [show max L (fr + (i : Int)) = fr + i by omega, if_pos e3] at e
            exact e
          · rw [if_neg (show ¬ iI (max L (lo (sB M T f c fr p) fr i)) < iI (fr + i) from nlt_i (by omega) (by omega) (by omega))]
            rw [show max L (fr + (i : Int)) = L by omega, if_neg e3] at e
            rw [show max L (lo (sB M T f c fr p) fr i) = L by omega, if_neg (show ¬ L < lo (sB M T f c fr p) fr i by omega)]
            exact e
        · have eB : ¬ sB M T f c fr p i = true := by simp [sB, e2]
          rw [if_pos (show iI (sp M T f p (fr + i)) = 0 by rw [show sp M T f p (fr + i) = 0 by omega]; rfl)]
          rw [lo_f eB, if_neg eB] at e
          exact e
      · have eB : ¬ sB M T f c fr p i = true := by simp [sB, e1]
        rw [if_neg (show ¬ iI ((pl M c i : Nat) : Int) = iI (p : Int) from ne_i (by omega) (by omega) (by omega) (by omega) (by omega))]
        rw [lo_f eB, if_neg eB] at e
        exact e
/-- a creature's latest at p (of the class's own answer) -/
def lz (n : Nat) (M : HMem) (T : Int) (p c : Nat) : Int := ((f_X0_latestOf n (iI c) (iI p) (iI T) M).getD 0).toInt
theorem fr_one {M : HMem} {c n p : Nat} {T f : Int} (hLs : ILines M) (hS : SC M T f) (hD : ILand M) (hp : p < 192) (hc : c < 8) (hn : 200 ≤ n) : ∃ s : Nat, s ≤ 97 ∧ f_X0_latestOf n (iI c) (iI p) (iI T) M = some (iI (lz n M T p c)) ∧ (lz n M T p c = -2 ∨ (0 ≤ lz n M T p c ∧ lz n M T p c ≤ 20000)) ∧ (∀ (m k : Nat), f_X0_scentsAt_L5 n (iI p) (iI T) M (k + 1) (iI m) (iI c) = f_X0_scentsAt_L5 n (iI p) (iI T) M k (iI ((m + s : Nat) : Int)) (iI ((c + 1 : Nat) : Int))) ∧ (∀ (x y : Int) (v3 : Int32), 16 * y + x = p → ∀ (L : Int) (w : Int32) (m k : Nat), -2 ≤ L → L ≤ 20000 → f_X12_freshest_L33 n (iI x) (iI y) v3 M (k + 1) (iI L) w (iI m) (iI c) = f_X12_freshest_L33 n (iI x) (iI y) v3 M k (iI (max L (lz n M T p c))) (if L < lz n M T p c then iI c else w) (iI ((m + s : Nat) : Int)) (iI ((c + 1 : Nat) : Int))) := by
  rcases lineC hLs hc with ⟨l1, l2, l3⟩ | ⟨fr, ln, hL, l1, l2⟩
  · have e : f_X0_latestOf n (iI c) (iI p) (iI T) M = some (iI (-2)) := by rw [f_X0_latestOf, l1, hb1_some]; rfl
    have ez : lz n M T p c = -2 := by rw [lz, e, Option.getD_some, iI_toInt (by omega) (by omega)]
    refine ⟨0, by omega, by rw [ez, e], Or.inl ez, fun m k => ?_, fun x y v3 hxy L w m k h1 h2 => ?_⟩
    · rw [f_X0_scentsAt_L5, if_neg (nle8 hc), l1, hb1_some, iI_s]; rfl
    · obtain ⟨q, rfl⟩ : ∃ q, n = q + 1 := ⟨n - 1, by omega⟩
      rw [f_X12_freshest_L33, if_neg (nle8 hc), f_X12_freshest_L43, hib_t (by omega) (by omega) (by omega), if_pos rfl, iI_natc (by omega), l3, if_neg (by decide), l2, hb1_some, if_pos rfl, iI_s, ez, if_neg (by omega), show max L (-2) = L by omega]; rfl
  · have hr := hL.rg
    have e := lat_eq (n := n) hL l1 hS hD hp hn
    have lr := lo_rg (P := sB M T f c fr p) hr.2.2.1 (nP ln)
    have hN : (nP ln : Int) = ln + 1 := by unfold nP; omega
    have ez : lz n M T p c = lo (sB M T f c fr p) fr (nP ln) := by rw [lz, e, Option.getD_some, iI_toInt (by omega) (by omega)]
    refine ⟨fb_ct (sB M T f c fr p) (nP ln), Nat.le_trans (fb_ct_le _ _) (by omega), by rw [ez, e], by rw [ez]; omega, fun m k => ?_, fun x y v3 hxy L w m k h1 h2 => ?_⟩
    · have := scn_L (n := n) hL hS hD hp (f_X0_scentsAt_L5 n (iI p) (iI T) M k) n 0 m (by omega) (by omega)
      rw [show fr + ((0 : Nat) : Int) = fr by omega] at this
      rw [f_X0_scentsAt_L5, if_neg (nle8 hc), l1, hb1_some]
      dsimp only
      rw [hL.cf.1]
      exact this
    · have := frR_L (n := n) hL hS hD hp hxy v3 (f_X12_freshest_L33 n (iI x) (iI y) v3 M k) L h1 h2 w m n 0 (by omega) (by omega)
      rw [lo_0, show max L (-2) = L by omega, if_neg (show ¬ L < -2 by omega)] at this
      rw [f_X12_freshest_L33, if_neg (nle8 hc), ez]
      exact this
def frEnd (v3 a b m : Int32) : Int32 := if v3 = 0 then a else if v3 = 1 then b else m
theorem fr_O {M : HMem} {n p : Nat} {T f : Int} (hLs : ILines M) (hS : SC M T f) (hD : ILand M) (hp : p < 192) (hn : 200 ≤ n) {x y : Int} (hxy : 16 * y + x = p) (v3 : Int32) : ∀ (k c : Nat) (L : Int) (w : Int32) (m : Nat), c ≤ 8 → 8 - c < k → (L = -2 ∨ (0 ≤ L ∧ L ≤ 20000)) → m ≤ 97 * c → (∀ d, d < c → lz n M T p d ≤ L) → ((L = -2 ∧ w = -2) ∨ ∃ d : Nat, d < c ∧ w = iI d ∧ lz n M T p d = L ∧ 0 ≤ L ∧ ∀ e, e < d → lz n M T p e < L) → ∃ (L' : Int) (w' m' : Int32), f_X0_latestScent_L6 n (iI p) (iI T) M k (iI L) (iI c) = some (iI L') ∧ f_X0_scentsAt_L5 n (iI p) (iI T) M k (iI m) (iI c) = some m' ∧ f_X12_freshest_L33 n (iI x) (iI y) v3 M k (iI L) w (iI m) (iI c) = some (frEnd v3 (iI L') w' m') ∧ ((L' = -2 ∧ w' = -2) ∨ ∃ d : Nat, d < 8 ∧ w' = iI d ∧ lz n M T p d = L' ∧ 0 ≤ L' ∧ L' ≤ 20000 ∧ ∀ e, e < d → lz n M T p e < L') := by
  intro k
  induction k with
  | zero => intro c _ _ _ _ h; exfalso; omega
  | succ k ih =>
    intro c L w m c1 c2 hL hm hd hw
    by_cases hc : c = 8
    · subst hc
      refine ⟨L, w, iI m, ?_, ?_, ?_, ?_⟩
      · rw [f_X0_latestScent_L6, if_pos (by decide)]
      · rw [f_X0_scentsAt_L5, if_pos (by decide)]
      · rw [f_X12_freshest_L33, if_pos (by decide), frEnd]
        split
        · rfl
        · split <;> rfl
      · rcases hw with h | ⟨d, d1, d2, d3, d4, d5⟩
        · exact Or.inl h
        · exact Or.inr ⟨d, d1, d2, d3, d4, by omega, d5⟩
    · obtain ⟨s, s1, e1, e2, e3, e4⟩ := fr_one (c := c) (n := n) hLs hS hD hp (by omega) hn
      have b1 : -2 ≤ L ∧ L ≤ 20000 := by clear hw; omega
      have b2 : -2 ≤ lz n M T p c ∧ lz n M T p c ≤ 20000 := by clear hw; omega
      have b3 : max L (lz n M T p c) = -2 ∨ (0 ≤ max L (lz n M T p c) ∧ max L (lz n M T p c) ≤ 20000) := by clear hw; omega
      rw [f_X0_latestScent_L6, if_neg (nle8 (by clear hw; omega)), e1, hb1_some, hmax_eq (by clear hw; omega) (by clear hw; omega) (by clear hw; omega) (by clear hw; omega), iI_s, e3, e4 x y v3 hxy L w m k b1.1 b1.2]
      refine ih (c + 1) (max L (lz n M T p c)) _ (m + s) (by clear hw; omega) (by clear hw; omega) b3 (by clear hw; omega) (fun d dd => ?_) ?_
      · by_cases q : d = c
        · subst q; clear hw; omega
        · have := hd d (by clear hw; omega); clear hw; omega
      · by_cases q : L < lz n M T p c
        · rw [if_pos q]
          refine Or.inr ⟨c, by clear hw; omega, rfl, by clear hw; omega, by clear hw; omega, fun e he => ?_⟩
          have := hd e he; clear hw; omega
        · rw [if_neg q, show max L (lz n M T p c) = L by clear hw; omega]
          rcases hw with h | ⟨d, d1, d2, d3, d4, d5⟩
          · exact Or.inl h
          · exact Or.inr ⟨d, by omega, d2, d3, d4, d5⟩
theorem lcr_L {M : HMem} {n p : Nat} {T f : Int} (hLs : ILines M) (hS : SC M T f) (hD : ILand M) (hp : p < 192) (hn : 200 ≤ n) {L : Int} {d : Nat} (hd : d < 8) (h1 : lz n M T p d = L) (h2 : 0 ≤ L) (h3 : L ≤ 20000) (h4 : ∀ e, e < d → lz n M T p e < L) : ∀ (k c : Nat), c ≤ d → d - c < k → f_X0_latestCreature_L10 n (iI p) (iI T) (iI L) M k (iI c) = some (iI d) := by
  intro k
  induction k with
  | zero => intro c _ h; exfalso; omega
  | succ k ih =>
    intro c c1 c2
    obtain ⟨s, s1, e1, e2, -⟩ := fr_one (c := c) (n := n) hLs hS hD hp (by omega) hn
    rw [f_X0_latestCreature_L10, if_neg (nle8 (by omega)), if_neg (by rw [qm2]; exact ne_i (by omega) (by omega) (by omega) (by omega) (by omega)), e1, hb1_some]
    by_cases q : c = d
    · subst q; rw [if_pos (by rw [h1])]
    · have := h4 c (by omega)
      rw [if_neg (ne_i (by omega) (by omega) (by omega) (by omega) (by omega)), iI_s]
      exact ih (c + 1) (by omega) (by omega)
theorem op_freshest (a b v3 : Int32) {n : Nat} (hn : 200 ≤ n) {M : HMem} (hL : ILines M) (hD : ILand M) (hF : IFade M) (h : PR 35 75 M) : ∃ r, f_X11_freshest n a b v3 M = some r ∧ f_X12_freshest n a b v3 M = some r := by
  obtain ⟨x, x1, x2, rfl⟩ := iI_of a
  obtain ⟨y, y1, y2, rfl⟩ := iI_of b
  obtain ⟨z, z1, z2, rfl⟩ := iI_of v3
  rw [f_X11_freshest, onLand_eq x1 x2 y1 y2, f_X12_freshest, isPlace2_eq x1 x2 y1 y2]
  by_cases hz : (0 ≤ x ∧ x < 16) ∧ 0 ≤ y ∧ y < 12
  · rw [if_pos hz, if_neg i10, if_neg i10]
    by_cases hw : 0 ≤ z ∧ z ≤ 2
    · obtain ⟨T, f, hS, hT⟩ := h.sc hF
      obtain ⟨p, hp⟩ : ∃ p : Nat, 16 * y + x = p := ⟨(16 * y + x).toNat, by omega⟩
      have hp' : p < 192 := by omega
      obtain ⟨L', w', m', e1, e2, e3, e4⟩ := fr_O hL hS hD hp' hn hp (iI z) n 0 (-2) (-2) 0 (by omega) (by omega) (Or.inl rfl) (by omega) (fun d h => absurd h (by omega)) (Or.inl ⟨rfl, rfl⟩)
      have e3' : f_X12_freshest_L33 n (iI x) (iI y) (iI z) M n (-2) (-2) 0 0 = some (frEnd (iI z) (iI L') w' m') := e3
      have e1' : f_X0_latestScent n (iI p) (iI T) M = some (iI L') := e1
      have e2' : f_X0_scentsAt n (iI p) (iI T) M = some m' := e2
      rw [show f_X12_in (iI z) 0 2 = 1 from in01 (m := 2) hw.1 hw.2 (by omega), if_neg i10, e3', placeOf_eq, hp, hT, f_X0_latestCreature, e1', e2', hb1_some, hb1_some, hb1_some]
      refine ⟨_, ?_, rfl⟩
      rcases (show z = 0 ∨ z = 1 ∨ z = 2 by omega) with rfl | rfl | rfl
      · rw [if_pos (by decide)]; rfl
      · rw [if_neg (by decide), if_pos (by decide)]
        show hb1 (f_X0_latestCreature_L10 n (iI p) (iI T) (iI L') M n (iI ((0 : Nat) : Int))) _ = some w'
        rcases e4 with ⟨q, rfl⟩ | ⟨d, d1, rfl, d3, d4, d5, d6⟩
        · subst q
          obtain ⟨q, rfl⟩ : ∃ q, n = q + 1 := ⟨n - 1, by omega⟩
          rw [f_X0_latestCreature_L10, if_neg (nle8 (by omega)), if_pos (by decide), hb1_some]
        · rw [lcr_L hL hS hD hp' hn d1 d3 d4 d5 d6 n 0 (by omega) (by omega), hb1_some]
      · rw [if_neg (by decide), if_neg (by decide), if_pos (by decide)]; rfl
    · rw [show f_X12_in (iI z) 0 2 = 0 from in00 (m := 2) hw z1 z2 (by omega) (by omega), if_pos rfl]
      refine ⟨-1, ?_, rfl⟩
      rw [show (0 : Int32) = iI 0 from rfl, show (1 : Int32) = iI 1 from rfl, show (2 : Int32) = iI 2 from rfl, if_neg (ne_i (by omega) (by omega) (by omega) (by omega) (by omega)), if_neg (ne_i (by omega) (by omega) (by omega) (by omega) (by omega)), if_neg (ne_i (by omega) (by omega) (by omega) (by omega) (by omega))]
  · rw [if_neg hz, if_pos rfl, if_pos rfl]
    exact ⟨-1, rfl, rfl⟩

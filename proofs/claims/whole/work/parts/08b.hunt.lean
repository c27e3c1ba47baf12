/-! huntable -/
theorem grp108 (j : Nat) : grp 108 j = 0 := rfl
def zz (g g' : Nat → Int32) : Prop := ∀ p, p < 192 → (g p = 0 ↔ g' p = 0)
theorem hunt_L {M : HMem} {c n : Nat} {fr ln T f s : Int} (hL : LN M c fr ln) (hS : SC M T f) (hD : ILand M) (s1 : 1 ≤ s) (s2 : s ≤ 99) (gx : Nat → Int32) (r r' : Int32 → Int32 → HMem → Option (Int32 × HMem)) : ∀ (k i : Nat) (v : Int32) (g g' : Nat → Int32), zz g g' → (i : Int) ≤ ln + 1 → ln + 1 - i < k → ∃ w g1 g1', zz g1 g1' ∧ f_X9_placesSmelling_L46 n r (iI s) (iI T) (iI c) (50 + 3 * c) k v (iI (fr + i)) (hput M 33 g) = r w (iI ((c + 1 : Nat) : Int)) (hput M 33 g1) ∧ f_X12_huntable_L47 n r' (iI s) (iI c) k v (iI i) (hput (hput M 33 gx) 108 g') = r' w (iI ((c + 1 : Nat) : Int)) (hput (hput M 33 gx) 108 g1') := by
  have hr := hL.rg
  have hc := hL.c8
  intro k
  induction k with
  | zero => intro i _ _ _ _ _ h; exfalso; omega
  | succ k ih =>
    intro i v g g' hg i1 i2
    have hm := hL.put g (k0 := 33) (fun j => by rw [grp33]; decide)
    have hx := hL.put gx (k0 := 33) (fun j => by rw [grp33]; decide)
    have hy := hx.put g' (k0 := 108) (fun j => by rw [grp108]; decide)
    obtain ⟨f3, f4, f5, f6⟩ := hy.cf
    have hDm : ILand (hput M 33 g) := hD.put g (fun j => by rw [grp33]; decide)
    have hDy : ILand (hput (hput M 33 gx) 108 g') := (hD.put gx (fun j => by rw [grp33]; decide)).put g' (fun j => by rw [grp108]; decide)
    have hSm : SC (hput M 33 g) T f := hS.put g (by decide) (by decide) (by decide)
    have hSy : SC (hput (hput M 33 gx) 108 g') T f := (hS.put gx (by decide) (by decide) (by decide)).put g' (by decide) (by decide) (by decide)
    have epl : ∀ k, pl (hput (hput M 33 gx) 108 g') c k = pl M c k := fun k => by rw [pl_put _ hc (fun j => by rw [grp108]; decide), pl_put _ hc (fun j => by rw [grp33]; decide)]
    rw [f_X9_placesSmelling_L46, last_eq hm, f_X12_huntable_L47, hib_t (by omega) (by omega) (by omega), if_pos rfl, iI_natc (k := c) (by omega), f5, iI_s]
    by_cases hi : ln < i
    · rw [if_pos (lt_i (by omega) (by omega) (by omega)), if_pos (lt_i hi (by omega) (by omega))]
      exact ⟨v, g, g', hg, rfl, rfl⟩
    · have hp := hL.pb (k := i) (by omega)
      have hs := sp_rg (pl M c i) hS (show 0 ≤ fr + (i : Int) by omega)
      have ht := st_rg hS.1 hS.2.1 hS.2.2.1 hS.2.2.2.1 (show 0 ≤ fr + (i : Int) by omega)
      rw [if_neg (show ¬ iI (fr + ln) < iI (fr + (i : Int)) from nlt_i (by omega) (by omega) (by omega)), if_neg (show ¬ iI ln < iI (i : Int) from nlt_i (by omega) (by omega) (by omega)), placeAt_in hm (by omega), hb1_some, pl_put _ hc (fun j => by rw [grp33]; decide), strength_eq hSm (by omega) (by omega)]
      rw [hasLine_1 hc f5 hr.1 hr.2.1, hb1_some, if_neg i10, q97, iI_mul, iI_add, hib_t (z := 97 * (c : Int) + (i : Int)) (by omega) (by omega) (by omega), if_pos rfl, strengthOf_eq hSy hDy hy (by omega), hb1_some, iI_nat (z := 97 * (c : Int) + (i : Int)) (by omega) (by omega), show (97 * (c : Int) + (i : Int)).toNat = 97 * c + i by omega, (hy.p1 (k := i) (by omega)).2, epl, sp_put _ (by decide), sp_put _ (by decide)]
      rw [hib_t (z := ((pl M c i : Nat) : Int)) (by omega) (by omega) (by omega), if_pos rfl, iI_natc (k := pl M c i) (by omega), hput_self, iI_s]
      simp only [f_X9_placesSmelling_J84]
      rw [smells_eq hSm hDm hp (by omega) (by omega), hb1_some, markAt_in hp, hb1_some, markPlace_in hp, hb1_some, hput_self, hset_put, hset_put, sp_put _ (by decide), iI_t]
      have go := ih (i + 1) v g g' hg (by omega) (by omega)
      by_cases hq : sp M T f (pl M c i) (fr + i) < s
      · rw [if_pos (show iI (sp M T f (pl M c i) (fr + i)) < iI s from lt_i hq (by omega) (by omega))]
        by_cases h1 : st T f (fr + i) < s
        · rw [if_pos (lt_i h1 (by omega) (by omega)), if_pos trivial]
          exact go
        · rw [if_neg (nlt_i (by omega) (by omega) (by omega)), if_neg i10, if_neg (show ¬ 0 < sp M T f (pl M c i) (fr + i) by unfold sp at hq ⊢; split at hq <;> omega), if_pos rfl]
          exact go
      · rw [if_neg (show ¬ iI (sp M T f (pl M c i) (fr + i)) < iI s from nlt_i (by omega) (by omega) (by omega)), if_neg (show ¬ iI (st T f (fr + i)) < iI s from nlt_i (by unfold sp at hq; split at hq <;> omega) (by omega) (by omega)), if_neg i10, if_pos (show 0 < sp M T f (pl M c i) (fr + i) by omega), if_neg i10]
        by_cases h0 : g (pl M c i) = 0
        · rw [if_pos h0, if_pos ((hg _ hp).mp h0), if_pos trivial]
          refine ih (i + 1) (v + 1) _ _ ?_ (by omega) (by omega)
          intro p hp'
          simp only [upd]
          by_cases e : p = pl M c i
          · rw [if_pos e, if_pos e]; decide
          · rw [if_neg e, if_neg e]; exact hg p hp'
        · rw [if_neg h0, if_neg (fun q => h0 ((hg _ hp).mpr q))]
          exact go
theorem hunt_O {M : HMem} {n : Nat} {T f s : Int} (hLs : ILines M) (hS : SC M T f) (hD : ILand M) (s1 : 1 ≤ s) (s2 : s ≤ 99) (hn : 200 ≤ n) (gx : Nat → Int32) : ∀ (k c : Nat) (v : Int32) (g g' : Nat → Int32), zz g g' → c ≤ 8 → 8 - c < k → ∃ w g1 g1', f_X9_placesSmelling_L13 n (iI s) (iI T) k v (iI c) (hput M 33 g) = some (w, hput M 33 g1) ∧ f_X12_huntable_L38 n (iI s) k v (iI c) (hput (hput M 33 gx) 108 g') = some (w, hput (hput M 33 gx) 108 g1') := by
  intro k
  induction k with
  | zero => intro c _ _ _ _ _ h; exfalso; omega
  | succ k ih =>
    intro c v g g' hg c1 c2
    rw [f_X9_placesSmelling_L13, f_X12_huntable_L38]
    by_cases hc : c = 8
    · subst hc; rw [if_pos (by decide), if_pos (by decide)]; exact ⟨v, g, g', rfl, rfl⟩
    · rw [if_neg (nle8 (by omega)), if_neg (nle8 (by omega))]
      have hLm : ILines (hput M 33 g) := hLs.congr (fun k j e => by rw [hput_ne _ _ (fun q => by subst q; exact absurd e (by rw [grp33]; decide))])
      have hLx : ILines (hput (hput M 33 gx) 108 g') := hLs.congr (fun k j e => by rw [hput_ne _ _ (fun q => by subst q; exact absurd e (by rw [grp108]; decide)), hput_ne _ _ (fun q => by subst q; exact absurd e (by rw [grp33]; decide))])
      rcases lineC hLm (c := c) (by omega) with ⟨l1, l2, l3⟩ | ⟨fr, ln, hL, l1, l2⟩
      · have l4 : hput (hput M 33 gx) 108 g' 78 c = 0 := by rw [hput_ne _ _ (by decide), hput_ne _ _ (by decide)]; rw [hput_ne _ _ (by decide)] at l3; exact l3
        rw [l1, hb1_some, iI_s]
        obtain ⟨m, rfl⟩ : ∃ m, n = m + 1 := ⟨n - 1, by omega⟩
        rw [f_X12_huntable_L47, hib_t (by omega) (by omega) (by omega), if_pos rfl, iI_natc (by omega), l4, if_neg (by decide), hasLine_0 (by omega) l4, hb1_some, if_pos rfl, iI_s]
        exact ih (c + 1) v g g' hg (by omega) (by omega)
      · have hL' : LN M c fr ln := hL.congr (fun k j e => by rw [hput_ne _ _ (fun q => by subst q; exact absurd e (by rw [grp33]; decide))])
        have hr := hL.rg
        obtain ⟨w, g1, g1', w1, w2, w3⟩ := hunt_L (n := n) hL' hS hD s1 s2 gx (f_X9_placesSmelling_L13 n (iI s) (iI T) k) (f_X12_huntable_L38 n (iI s) k) n 0 v g g' hg (by omega) (by omega)
        rw [show fr + ((0 : Nat) : Int) = fr by omega] at w2
        rw [l1, hb1_some]
        dsimp only
        rw [hL.cf.1, w2]
        rw [show (0 : Int32) = iI ((0 : Nat) : Int) from rfl, w3]
        exact ih (c + 1) w g1 g1' w1 (by omega) (by omega)
theorem shut0_L {n : Nat} {v1 : Int32} (M : HMem) : ∀ (k i : Nat), i ≤ 192 → 192 - i < k → f_X12_huntable_L14 n v1 k (iI i) (hput M 108 (fun j => if j < i then 0 else M 108 j)) = f_X12_huntable_L38 n v1 n 0 0 (hput M 108 (fun j => if j < 192 then 0 else M 108 j)) := by
  intro k
  induction k with
  | zero => intro i _ h; omega
  | succ k ih =>
    intro i hi hk
    rw [f_X12_huntable_L14]
    by_cases h6 : i = 192
    · subst h6; rw [if_pos (by decide)]
    · rw [if_neg (by rw [q192]; exact nl_i (by omega) (by omega) (by omega)), hib_t (by omega) (by omega) (by omega), if_pos rfl, iI_natc (by omega), iI_s, hset_put]
      rw [← ih (i + 1) (by omega) (by omega)]
      congr 2
      funext j
      simp only [upd]
      by_cases e : j = i
      · rw [if_pos e, if_pos (by omega)]; rfl
      · rw [if_neg e]
        by_cases e2 : j < i
        · rw [if_pos e2, if_pos (by omega)]
        · rw [if_neg e2, if_neg (by omega)]
theorem op_huntable (v : Int32) {n : Nat} (hn : 200 ≤ n) {M : HMem} (hL : ILines M) (hD : ILand M) (hF : IFade M) (h : PR 35 75 M) : ∃ r M1 M2, f_X11_huntable n v M = some (r, M1) ∧ f_X12_huntable n v M1 = some (r, M2) ∧ oth 0 M M2 := by
  obtain ⟨z, z1, z2, rfl⟩ := iI_of v
  by_cases hz : 1 ≤ z ∧ z ≤ 99
  · obtain ⟨T, f, hS, hT⟩ := h.sc hF
    let g0 : Nat → Int32 := fun j => if j < 192 then 0 else M 33 j
    let g0' : Nat → Int32 := fun j => if j < 192 then 0 else M 108 j
    have z0 : zz g0 g0' := fun p hp => by simp only [g0, g0', if_pos hp]
    obtain ⟨w0, gg, -, e0, -⟩ := hunt_O hL hS hD hz.1 hz.2 hn (M 33) n 0 0 g0 g0' z0 (by omega) (by omega)
    obtain ⟨w, g1, g1', e1, e2⟩ := hunt_O hL hS hD hz.1 hz.2 hn gg n 0 0 g0 g0' z0 (by omega) (by omega)
    rw [e0] at e1
    obtain ⟨e3, e4⟩ : w0 = w ∧ hput M 33 gg = hput M 33 g1 := by simpa using e1
    subst e3
    refine ⟨w0, hput M 33 gg, hput (hput M 33 gg) 108 g1', ?_, ?_, ?_⟩
    · have a1 : ¬ iI z < 1 := by rw [q1]; exact nlt_i hz.1 (by omega) (by omega)
      have a2 : iI z ≤ 99 := by rw [q99]; exact le_i hz.2 (by omega) (by omega)
      rw [f_X11_huntable, if_neg a1, if_pos a2, hT, f_X9_placesSmelling, fill_eq (by omega) (by omega), hb1_some]
      show hb2 (f_X9_placesSmelling_L13 n (iI z) (iI T) n 0 (iI ((0 : Nat) : Int)) (hput M 33 g0)) _ = _
      rw [e0]; rfl
    · have a1 : f_X12_in (iI z) 1 99 = 1 := in_1 (a := 1) (m := 99) hz.1 hz.2 (by omega) (by omega)
      have := shut0_L (n := n) (v1 := iI z) (hput M 33 gg) n 0 (by omega) (by omega)
      rw [show (fun j => if j < 0 then 0 else hput M 33 gg 108 j) = hput M 33 gg 108 from funext fun j => if_neg (by omega), hput_eta] at this
      rw [f_X12_huntable, a1, if_neg i10]
      refine Eq.trans this ?_
      have e5 : (fun j => if j < 192 then 0 else hput M 33 gg 108 j) = g0' := by
        funext j; simp only [g0']; rw [hput_ne _ _ (by decide)]
      rw [e5]
      exact e2
    · exact (oth_put (G := 0) (k0 := 33) (fun j => Or.inl rfl)).trans (oth_put (fun j => Or.inl rfl))
  · refine ⟨-1, M, M, ?_, ?_, oth_rf _ _⟩
    · rw [f_X11_huntable, q1, q99]
      by_cases a : z < 1
      · rw [if_pos (lt_i a (by omega) (by omega))]
      · rw [if_neg (nlt_i (by omega) (by omega) (by omega)), if_neg (nl_i (by omega) (by omega) (by omega))]
    · rw [f_X12_huntable, show f_X12_in (iI z) 1 99 = 0 from in_0 (a := 1) (m := 99) hz z1 z2 (by omega) (by omega) (by omega) (by omega), if_pos rfl]

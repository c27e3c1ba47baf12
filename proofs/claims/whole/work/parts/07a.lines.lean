/-! MARKS, and where two lines meet -/
theorem iI_t (fr : Int) (i : Nat) : iI (fr + (i : Int)) + 1 = iI (fr + ((i + 1 : Nat) : Int)) := by
  rw [iI_1, show fr + (i : Int) + 1 = fr + ((i + 1 : Nat) : Int) by omega]
theorem fill_L {k0 l0 n : Nat} {v : Int32} (hl : l0 < 1000000) (M : HMem) : ∀ (k i : Nat), i ≤ l0 → l0 - i < k → f_J7_fill_53178_L5 n k0 l0 v (iI l0) k (iI i) (hput M k0 (fun j => if j < i then v else M k0 j)) = some (hput M k0 (fun j => if j < l0 then v else M k0 j)) := by
  intro k
  induction k with
  | zero => intro i _ h; omega
  | succ k ih =>
    intro i hi hk
    rw [f_J7_fill_53178_L5]
    by_cases h6 : i = l0
    · subst h6; rw [if_pos (by rw [iI_le (by omega) (by omega) (by omega) (by omega)]; omega)]
    · rw [if_neg (by rw [iI_le (by omega) (by omega) (by omega) (by omega)]; omega), hib_t (by omega) (by omega) (by omega), if_pos rfl, iI_natc (by omega), iI_s, hset_put]
      rw [← ih (i + 1) (by omega) (by omega)]
      congr 2
      funext j
      simp only [upd]
      grind
theorem fill_eq {k0 l0 n : Nat} {v : Int32} (hl : l0 < 1000000) (hn : l0 < n) (M : HMem) : f_J7_fill_53178 n k0 l0 v M = some (hput M k0 (fun j => if j < l0 then v else M k0 j)) := by
  have h := fill_L (n := n) (k0 := k0) (v := v) hl M n 0 (by omega) (by omega)
  rw [show (fun j => if j < 0 then v else M k0 j) = M k0 from funext fun j => if_neg (by omega), hput_eta] at h
  rw [f_J7_fill_53178, show Int32.ofNat l0 = iI l0 from nI_iI l0]
  exact h
theorem markAt_in {M : HMem} {p : Nat} (hp : p < 192) : f_X9_markAt (iI p) M = some (M 33 p) := by
  rw [f_X9_markAt, isPlace_1 (by omega) (by omega), if_neg i10, hib_t (by omega) (by omega) (by omega), if_pos rfl, iI_natc (by omega)]
theorem markPlace_in {M : HMem} {p : Nat} {v : Int32} (hp : p < 192) : f_X9_markPlace (iI p) v M = some (hset M 33 p v) := by
  rw [f_X9_markPlace, isPlace_1 (by omega) (by omega), if_neg i10, hib_t (by omega) (by omega) (by omega), if_pos rfl, iI_natc (by omega)]
theorem grp33 (j : Nat) : grp 33 j = 0 := rfl
theorem grp34 (j : Nat) : grp 34 j = 0 := rfl
theorem LN.put {M : HMem} {c : Nat} {fr ln : Int} (h : LN M c fr ln) {k0 : Nat} (g : Nat → Int32) (h0 : ∀ j, grp k0 j ≠ 3) : LN (hput M k0 g) c fr ln := h.congr (fun k j e => by rw [hput_ne _ _ (fun q => by subst q; exact h0 j e)])
theorem pl_put {M : HMem} {c k0 : Nat} (g : Nat → Int32) (hc : c < 8) (h0 : ∀ j, grp k0 j ≠ 3) (k : Nat) : pl (hput M k0 g) c k = pl M c k := by
  unfold pl
  rw [hput_ne _ _ (fun q => h0 k (by rw [← q]; exact grp3 k (by omega)))]
def onb (f : Nat → Nat) : Nat → Nat → Bool
  | 0, _ => false
  | m + 1, p => onb f m p || (f m == p)
theorem onb_ne {f : Nat → Nat} {m p : Nat} (h : f m ≠ p) : onb f (m + 1) p = onb f m p := by
  show (onb f m p || (f m == p)) = _
  rw [show (f m == p) = false by simpa using h, Bool.or_false]
theorem onb_eq {f : Nat → Nat} {m p : Nat} (h : f m = p) : onb f (m + 1) p = true := by
  show (onb f m p || (f m == p)) = _
  rw [show (f m == p) = true by simpa using h, Bool.or_true]
theorem onb_iff (f : Nat → Nat) : ∀ (m p : Nat), onb f m p = true ↔ ∃ k, k < m ∧ f k = p
  | 0, p => by simp [onb]
  | m + 1, p => by
    simp only [onb, Bool.or_eq_true, beq_iff_eq, onb_iff f m p]
    constructor
    · rintro (⟨k, h1, h2⟩ | h)
      · exact ⟨k, by omega, h2⟩
      · exact ⟨m, by omega, h⟩
    · rintro ⟨k, h1, h2⟩
      by_cases e : k = m
      · exact Or.inr (e ▸ h2)
      · exact Or.inl ⟨k, by omega, h2⟩
/-- number of places of a line -/
def nP (ln : Int) : Nat := (ln + 1).toNat
theorem isOn_L {M : HMem} {c n p : Nat} {fr ln : Int} (h : LN M c fr ln) (hp : p < 192) : ∀ (k i : Nat), (i : Int) ≤ ln + 1 → ln + 1 - i < k → onb (pl M c) i p = false → f_X12_isOn_L2 n (iI c) (iI p) M k (iI i) = some (if onb (pl M c) (nP ln) p = true then 1 else 0) := by
  have hr := h.rg
  have hc := h.c8
  obtain ⟨f3, f4, f5, f6⟩ := h.cf
  intro k
  induction k with
  | zero => intro i _ h; exfalso; omega
  | succ k ih =>
    intro i i1 i2 i3
    rw [f_X12_isOn_L2, hib_t (by omega) (by omega) (by omega), if_pos rfl, iI_natc (by omega), f5]
    by_cases hi : ln < i
    · rw [if_pos (by rw [iI_lt (by omega) (by omega) (by omega) (by omega)]; exact hi), show nP ln = i by unfold nP; omega, i3]; rfl
    · have hq := h.pb (k := i) (by omega)
      have e81 := (h.p1 (k := i) (by omega)).2
      rw [if_neg (by rw [iI_lt (by omega) (by omega) (by omega) (by omega)]; exact hi), q97, iI_mul, iI_add, hib_t (by omega) (by omega) (by omega), if_pos rfl, iI_nat (by omega) (by omega), show (97 * (c : Int) + (i : Int)).toNat = 97 * c + i by omega, e81, iI_s]
      by_cases hb : pl M c i = p
      · rw [if_pos (by rw [hb]), if_pos ((onb_iff _ _ _).mpr ⟨i, by unfold nP; omega, hb⟩)]
      · rw [if_neg (by rw [iI_eq (by omega) (by omega) (by omega) (by omega)]; omega)]
        exact ih (i + 1) (by omega) (by omega) (by simp only [onb, i3, Bool.false_or]; simpa using hb)
theorem isOn_eq {M : HMem} {c n p : Nat} {fr ln : Int} (h : LN M c fr ln) (hn : 100 ≤ n) (hp : p < 192) : f_X12_isOn n (iI c) (iI p) M = some (if onb (pl M c) (nP ln) p = true then 1 else 0) := by
  have hr := h.rg
  exact isOn_L h hp n 0 (by omega) (by omega) rfl
theorem crossedBy_L {M : HMem} {c d n : Nat} {fr ln fr' ln' : Int} (h : LN M c fr ln) (h' : LN M d fr' ln') (hn : 100 ≤ n) : ∀ (k i : Nat), i ≤ 192 → 192 - i < k → f_X12_crossedBy_L5 n (iI c) (iI d) M k (iI (fb_ct (fun p => onb (pl M c) (nP ln) p && onb (pl M d) (nP ln') p) i : Nat)) (iI i) = some (iI (fb_ct (fun p => onb (pl M c) (nP ln) p && onb (pl M d) (nP ln') p) 192 : Nat)) := by
  intro k
  induction k with
  | zero => intro i _ h; omega
  | succ k ih =>
    intro i i1 i2
    rw [f_X12_crossedBy_L5]
    by_cases hi : i = 192
    · subst hi; rw [if_pos (by decide)]
    · have e := ih (i + 1) (by omega) (by omega)
      rw [if_neg (by rw [q192, iI_le (by omega) (by omega) (by omega) (by omega)]; omega), isOn_eq h hn (by omega), isOn_eq h' hn (by omega), hb1_some, hb1_some, iI_s, iI_s]
      rw [fb_ct_succ] at e
      by_cases b1 : onb (pl M c) (nP ln) i = true
      · rw [if_pos b1, if_neg i10]
        by_cases b2 : onb (pl M d) (nP ln') i = true
        · rw [if_pos b2, if_neg i10]
          rw [if_pos (by rw [b1, b2]; rfl)] at e
          exact e
        · rw [if_neg b2, if_pos rfl]
          rw [if_neg (by rw [b1]; simpa using b2)] at e
          exact e
      · rw [if_neg b1, if_pos rfl]
        rw [if_neg (by simp only [Bool.and_eq_true]; exact fun q => b1 q.1)] at e
        exact e
theorem crossedBy_eq {M : HMem} {c d n : Nat} {fr ln fr' ln' : Int} (h : LN M c fr ln) (h' : LN M d fr' ln') (hn : 200 ≤ n) : f_X12_crossedBy n (iI c) (iI d) M = some (iI (fb_ct (fun p => onb (pl M c) (nP ln) p && onb (pl M d) (nP ln') p) 192 : Nat)) := crossedBy_L h h' (by omega) n 0 (by omega) (by omega)
theorem cross_L2 {M : HMem} {d n : Nat} {f1 : Nat → Nat} {N1 : Nat} {fr ln : Int} (h : LN M d fr ln) : ∀ (k i : Nat) (g : Nat → Int32), (i : Int) ≤ ln + 1 → ln + 1 - i < k → (∀ p, p < 192 → g p = if onb f1 N1 p = true then (if onb (pl M d) i p = true then 2 else 1) else 0) → ∃ g', f_X9_crossings_L45 n (50 + 3 * d) k (iI (fb_ct (fun p => onb f1 N1 p && onb (pl M d) i p) 192 : Nat)) (iI (fr + i)) (hput M 33 g) = some (iI (fb_ct (fun p => onb f1 N1 p && onb (pl M d) (nP ln) p) 192 : Nat), hput M 33 g') := by
  have hr := h.rg
  intro k
  induction k with
  | zero => intro i _ _ h; exfalso; omega
  | succ k ih =>
    intro i g i1 i2 hg
    have hm := h.put g (k0 := 33) (fun j => by rw [grp33]; decide)
    rw [f_X9_crossings_L45, last_eq hm]
    by_cases hi : ln < i
    · rw [if_pos (by rw [iI_lt (by omega) (by omega) (by omega) (by omega)]; omega), show nP ln = i by unfold nP; omega]
      exact ⟨g, rfl⟩
    · have hq := h.pb (k := i) (by omega)
      rw [if_neg (by rw [iI_lt (by omega) (by omega) (by omega) (by omega)]; omega), placeAt_in hm (by omega), hb1_some, pl_put _ h.c8 (fun j => by rw [grp33]; decide), markAt_in hq, hb1_some, hput_self, hg _ hq, markPlace_in hq, hb1_some, hset_put, iI_t, iI_s]
      have key : ∀ b : Bool, (fun p => onb f1 N1 p && onb (pl M d) (i + 1) p) = (fun p => if p = pl M d i then (onb f1 N1 p) else (onb f1 N1 p && onb (pl M d) i p)) := fun _ => by
        funext p
        by_cases e : p = pl M d i
        · rw [if_pos e]; simp [onb, e]
        · rw [if_neg e]; simp only [onb]; rw [show (pl M d i == p) = false by simpa using fun q => e q.symm, Bool.or_false]
      have hct := fb_ct_upd (fun p => onb f1 N1 p && onb (pl M d) i p) (onb f1 N1 (pl M d i)) (i := pl M d i) (n := 192) hq
      have key2 : fb_ct (fun p => onb f1 N1 p && onb (pl M d) (i + 1) p) 192 = fb_ct (fun k => if k = pl M d i then onb f1 N1 (pl M d i) else (onb f1 N1 k && onb (pl M d) i k)) 192 := by
        rw [key true]
        apply fb_ct_cong
        intro p hp
        by_cases e : p = pl M d i
        · rw [if_pos e, if_pos e, e]
        · rw [if_neg e, if_neg e]
      rw [← key2] at hct
      by_cases b1 : onb f1 N1 (pl M d i) = true
      · rw [if_pos b1]
        by_cases b2 : onb (pl M d) i (pl M d i) = true
        · rw [if_pos b2, if_neg (by decide)]
          rw [b1, b2] at hct
          have := ih (i + 1) g (by omega) (by omega) (fun p hp => by
            rw [hg p hp]
            by_cases e : pl M d i = p
            · rw [onb_eq e, ← e, b2]
            · rw [onb_ne e])
          rw [show fb_ct (fun p => onb f1 N1 p && onb (pl M d) (i + 1) p) 192 = fb_ct (fun p => onb f1 N1 p && onb (pl M d) i p) 192 by simp at hct; omega] at this
          exact this
        · rw [if_neg b2, if_pos rfl]
          rw [b1, show onb (pl M d) i (pl M d i) = false by simpa using b2] at hct
          have := ih (i + 1) (upd g (pl M d i) 2) (by omega) (by omega) (fun p hp => by
            simp only [upd]
            by_cases e : p = pl M d i
            · rw [if_pos e, onb_eq e.symm, e, b1]; rfl
            · rw [if_neg e, hg p hp, onb_ne (fun q => e q.symm)])
          rw [show fb_ct (fun p => onb f1 N1 p && onb (pl M d) (i + 1) p) 192 = fb_ct (fun p => onb f1 N1 p && onb (pl M d) i p) 192 + 1 by simp at hct; omega] at this
          exact this
      · rw [if_neg b1, if_neg (by decide)]
        rw [show onb f1 N1 (pl M d i) = false by simpa using b1] at hct
        have := ih (i + 1) g (by omega) (by omega) (fun p hp => by
          rw [hg p hp]
          by_cases e : pl M d i = p
          · rw [← e, if_neg b1, if_neg b1]
          · rw [onb_ne e])
        rw [show fb_ct (fun p => onb f1 N1 p && onb (pl M d) (i + 1) p) 192 = fb_ct (fun p => onb f1 N1 p && onb (pl M d) i p) 192 by simp at hct; omega] at this
        exact this
theorem cross_L1 {M : HMem} {c d n : Nat} {fr ln : Int} (h : LN M c fr ln) (hd : d < 8) : ∀ (k i : Nat) (g : Nat → Int32), (i : Int) ≤ ln + 1 → ln + 1 - i < k → (∀ p, p < 192 → g p = if onb (pl M c) i p = true then 1 else 0) → ∃ g', (∀ p, p < 192 → g' p = if onb (pl M c) (nP ln) p = true then 1 else 0) ∧ f_X9_crossings_L13 n (50 + 3 * c) (50 + 3 * d) k (iI (fr + i)) (hput M 33 g) = f_X9_crossings_L45 n (50 + 3 * d) n 0 (M (50 + 3 * d) 3) (hput M 33 g') := by
  have hr := h.rg
  intro k
  induction k with
  | zero => intro i _ _ h; exfalso; omega
  | succ k ih =>
    intro i g i1 i2 hg
    have hm := h.put g (k0 := 33) (fun j => by rw [grp33]; decide)
    rw [f_X9_crossings_L13, last_eq hm]
    by_cases hi : ln < i
    · rw [if_pos (by rw [iI_lt (by omega) (by omega) (by omega) (by omega)]; omega), hput_ne _ _ (by omega)]
      exact ⟨g, by rw [show nP ln = i by unfold nP; omega]; exact hg, rfl⟩
    · have hq := h.pb (k := i) (by omega)
      rw [if_neg (by rw [iI_lt (by omega) (by omega) (by omega) (by omega)]; omega), placeAt_in hm (by omega), hb1_some, pl_put _ h.c8 (fun j => by rw [grp33]; decide), markPlace_in hq, hb1_some, hset_put, iI_t]
      exact ih (i + 1) (upd g (pl M c i) 1) (by omega) (by omega) (fun p hp => by
        simp only [upd]
        by_cases e : p = pl M c i
        · rw [if_pos e, onb_eq e.symm]; rfl
        · rw [if_neg e, hg p hp, onb_ne (fun q => e q.symm)])
theorem crossings_eq {M : HMem} {c d n : Nat} {fr ln fr' ln' : Int} (h : LN M c fr ln) (h' : LN M d fr' ln') (hn : 200 ≤ n) : ∃ g, f_X9_crossings n (50 + 3 * c) (50 + 3 * d) M = some (iI (fb_ct (fun p => onb (pl M c) (nP ln) p && onb (pl M d) (nP ln') p) 192 : Nat), hput M 33 g) := by
  have hr := h.rg
  have hr' := h'.rg
  rw [f_X9_crossings, fill_eq (by omega) (by omega), hb1_some, hput_ne _ _ (by have := h.c8; omega), h.cf.1]
  obtain ⟨g', g1, g2⟩ := cross_L1 (n := n) h h'.c8 n 0 (fun j => if j < 192 then 0 else M 33 j) (by omega) (by omega) (fun p hp => by rw [if_pos hp]; rfl)
  rw [show fr + ((0 : Nat) : Int) = fr by omega] at g2
  rw [g2, h'.cf.1]
  obtain ⟨g2, e2⟩ := cross_L2 (n := n) (f1 := pl M c) (N1 := nP ln) h' n 0 g' (by omega) (by omega) (fun p hp => by rw [g1 p hp]; rfl)
  have h0 : fb_ct (fun p => onb (pl M c) (nP ln) p && onb (pl M d) 0 p) 192 = 0 := fb_ct_zero.mpr (fun k _ => by simp [onb])
  rw [h0, show fr' + ((0 : Nat) : Int) = fr' by omega] at e2
  exact ⟨g2, e2⟩

/-! SCENTS: how strong, and what asks for them -/
theorem lt_i {a b : Int} (h : a < b) (h1 : -2147483648 ≤ a) (h2 : b < 2147483648) : iI a < iI b := by rw [iI_lt h1 (by omega) (by omega) h2]; exact h
theorem nlt_i {a b : Int} (h : b ≤ a) (h1 : -2147483648 ≤ b) (h2 : a < 2147483648) : ¬ iI a < iI b := by rw [iI_lt (by omega) h2 h1 (by omega)]; omega
theorem le_i {a b : Int} (h : a ≤ b) (h1 : -2147483648 ≤ a) (h2 : b < 2147483648) : iI a ≤ iI b := by rw [iI_le h1 (by omega) (by omega) h2]; exact h
theorem nl_i {a b : Int} (h : b < a) (h1 : -2147483648 ≤ b) (h2 : a < 2147483648) : ¬ iI a ≤ iI b := by rw [iI_le (by omega) h2 h1 (by omega)]; omega
theorem ne_i {a b : Int} (h : a ≠ b) (h1 : -2147483648 ≤ a) (h2 : a < 2147483648) (h3 : -2147483648 ≤ b) (h4 : b < 2147483648) : ¬ iI a = iI b := by rw [iI_eq h1 h2 h3 h4]; exact h
def st (T f t : Int) : Int := if t ≤ T then 99 - (T - t) * f else 0
theorem st_rg {T f t : Int} (h1 : 0 ≤ T) (h2 : T ≤ 9999) (h3 : 0 ≤ f) (h4 : f ≤ 9) (h5 : 0 ≤ t) : -100000 ≤ st T f t ∧ st T f t ≤ 99 := by
  unfold st
  split
  · have a1 : 0 ≤ (T - t) * f := Int.mul_nonneg (by omega) h3
    have a2 : (T - t) * f ≤ 9999 * 9 := Int.mul_le_mul (by omega) h4 h3 (by omega)
    omega
  · omega
theorem st_mono {T f t t' : Int} (h3 : 0 ≤ f) (h : t' ≤ t) (hT : t ≤ T) : st T f t' ≤ st T f t := by
  unfold st
  rw [if_pos hT, if_pos (by omega)]
  have : (T - t) * f ≤ (T - t') * f := Int.mul_le_mul_of_nonneg_right (by omega) h3
  omega
/-- clock and fading, alike on both sides -/
def SC (M : HMem) (T f : Int) : Prop := 0 ≤ T ∧ T ≤ 9999 ∧ 0 ≤ f ∧ f ≤ 9 ∧ M 3 2 = iI f ∧ M 74 9 = iI f ∧ M 75 30 = iI T
theorem strength_eq {M : HMem} {T f t : Int} (h : SC M T f) (t0 : 0 ≤ t) (t1 : t ≤ 1000000) : f_X0_strength (iI t) (iI T) M = iI (st T f t) := by
  obtain ⟨h1, h2, h3, h4, h5, -⟩ := h
  rw [f_X0_strength, h5, iI_sub, iI_mul, show (99 : Int32) = iI 99 from rfl, iI_sub, st]
  by_cases ht : t ≤ T
  · rw [if_pos ht, if_pos (le_i ht (by omega) (by omega))]
  · rw [if_neg ht, if_neg (nl_i (by omega) (by omega) (by omega))]; rfl
theorem isWater_in {M : HMem} {p : Nat} (hD : ILand M) (hp : p < 192) : f_X3_isWater 5 (iI p) M = some (if kd M p = 1 then 1 else 0) := by
  have h9 := (hD.2 p hp).1
  rw [f_X3_isWater, kindAt_in hD hp, hb1_some]
  by_cases h : kd M p = 1
  · rw [if_pos h, if_pos (by rw [h]; rfl)]
  · rw [if_neg h, if_neg (by rw [q1, iI_eq (by omega) (by omega) (by omega) (by omega)]; omega)]
/-- how strong the scent is at place p of time t -/
def sp (M : HMem) (T f : Int) (p : Nat) (t : Int) : Int := if kd M p = 1 then 0 else max 0 (st T f t)
theorem sp_rg {M : HMem} {T f t : Int} (p : Nat) (h : SC M T f) (h5 : 0 ≤ t) : 0 ≤ sp M T f p t ∧ sp M T f p t ≤ 99 := by
  have := st_rg h.1 h.2.1 h.2.2.1 h.2.2.2.1 h5
  unfold sp
  split <;> omega
theorem smells_eq {M : HMem} {T f t : Int} {p : Nat} (h : SC M T f) (hD : ILand M) (hp : p < 192) (t0 : 0 ≤ t) (t1 : t ≤ 1000000) : f_X0_smells (iI p) (iI t) (iI T) M = some (if 0 < sp M T f p t then 1 else 0) := by
  have hs := st_rg h.1 h.2.1 h.2.2.1 h.2.2.2.1 t0
  rw [f_X0_smells, isPlace_1 (by omega) (by omega), if_neg i10, isWater_in hD hp, hb1_some, strength_eq h t0 t1, sp]
  by_cases hk : kd M p = 1
  · rw [if_pos hk, if_pos hk, if_neg i10, if_neg (by omega)]
  · rw [if_neg hk, if_neg hk, if_pos rfl]
    by_cases hq : st T f t ≤ 0
    · rw [if_pos (by rw [q0]; exact le_i hq (by omega) (by omega)), if_neg (by omega)]
    · rw [if_neg (by rw [q0]; exact nl_i (by omega) (by omega) (by omega)), if_pos (by omega)]
theorem max0_eq {z : Int} (h1 : -2147483648 ≤ z) (h2 : z < 2147483648) : f_X12_max 0 (iI z) = iI (max 0 z) := by
  rw [← hmax_max, q0, hmax_eq (by omega) (by omega) h1 h2]
theorem strengthOf_eq {M : HMem} {T f : Int} {c k : Nat} {fr ln : Int} (h : SC M T f) (hD : ILand M) (hL : LN M c fr ln) (hk : (k : Int) ≤ ln) : f_X12_strengthOf (iI c) (iI k) M = some (iI (sp M T f (pl M c k) (fr + k))) := by
  have hr := hL.rg
  have hc := hL.c8
  obtain ⟨f3, f4, f5, f6⟩ := hL.cf
  have hp := hL.pb hk
  have hs := st_rg h.1 h.2.1 h.2.2.1 h.2.2.2.1 (show 0 ≤ fr + (k : Int) by omega)
  obtain ⟨h1, h2, h3, h4, h5, h6, h7⟩ := id h
  obtain ⟨d1, d2, d3, d4, d5, -⟩ := hD.2 _ hp
  rw [f_X12_strengthOf, hib_t (by omega) (by omega) (by omega), if_pos rfl, iI_natc (by omega), f6, h7, iI_sub, iI_sub, h6, iI_mul, show (99 : Int32) = iI 99 from rfl, iI_sub, sp]
  by_cases ht : fr + (k : Int) ≤ T
  · rw [if_neg (by rw [q0]; exact nlt_i (by omega) (by omega) (by omega)), q97, iI_mul, iI_add, hib_t (by omega) (by omega) (by omega), if_pos rfl, iI_nat (by omega) (by omega), show (97 * (c : Int) + (k : Int)).toNat = 97 * c + k by omega, (hL.p1 hk).2, hib_t (by omega) (by omega) (by omega), if_pos rfl, iI_natc (by omega), d5]
    rw [st, if_pos ht] at hs
    by_cases hq : kd M (pl M c k) = 1
    · rw [if_pos hq, if_pos (by rw [hq]; rfl)]; rfl
    · rw [if_neg hq, if_neg (by rw [q1]; exact ne_i (by omega) (by omega) (by omega) (by omega) (by omega)), st, if_pos ht, show T - fr - (k : Int) = T - (fr + k) by omega, max0_eq (by omega) (by omega)]
  · rw [if_pos (by rw [q0]; exact lt_i (by omega) (by omega) (by omega)), st, if_neg ht]
    split <;> rfl
theorem SC.put {M : HMem} {T f : Int} (h : SC M T f) {k0 : Nat} (g : Nat → Int32) (h3 : k0 ≠ 3) (h4 : k0 ≠ 74) (h5 : k0 ≠ 75) : SC (hput M k0 g) T f := by
  unfold SC
  rw [hput_ne _ _ (Ne.symm h3), hput_ne _ _ (Ne.symm h4), hput_ne _ _ (Ne.symm h5)]
  exact h
theorem kd_put {M : HMem} {k0 : Nat} (g : Nat → Int32) (h : k0 ≠ 6) (p : Nat) : kd (hput M k0 g) p = kd M p := by unfold kd; rw [hput_ne _ _ (Ne.symm h)]
theorem sp_put {M : HMem} {k0 : Nat} (g : Nat → Int32) (h : k0 ≠ 6) (T f : Int) (p : Nat) (t : Int) : sp (hput M k0 g) T f p t = sp M T f p t := by unfold sp; rw [kd_put g h]
/-! cast -/
def mx (p q : Nat) : Int := max (ab (((p % 16 : Nat) : Int) - ((q % 16 : Nat) : Int))) (ab (((p / 16 : Nat) : Int) - ((q / 16 : Nat) : Int)))
theorem mx_rg {p q : Nat} (hp : p < 192) (hq : q < 192) : 0 ≤ mx p q ∧ mx p q ≤ 26 := by
  unfold mx ab
  have a1 := Nat.mod_lt p (show 16 > 0 by decide)
  have a2 := Nat.mod_lt q (show 16 > 0 by decide)
  have a3 : p / 16 < 12 := by omega
  have a4 : q / 16 < 12 := by omega
  constructor <;> (split <;> split <;> omega)
theorem mxc {p q : Nat} (hp : p < 192) (hq : q < 192) : hmax (f_X11_across (iI p) (iI q)) (f_X11_along (iI p) (iI q)) = iI (mx p q) := by
  obtain ⟨a1, a2, -, -⟩ := and15 ⟨p, hp⟩
  obtain ⟨b1, b2, -, -⟩ := and15 ⟨q, hq⟩
  dsimp only at a1 a2 b1 b2
  have c1 : -100 ≤ ab (((p % 16 : Nat) : Int) - ((q % 16 : Nat) : Int)) ∧ ab (((p % 16 : Nat) : Int) - ((q % 16 : Nat) : Int)) ≤ 100 := by unfold ab; split <;> omega
  have c2 : -100 ≤ ab (((p / 16 : Nat) : Int) - ((q / 16 : Nat) : Int)) ∧ ab (((p / 16 : Nat) : Int) - ((q / 16 : Nat) : Int)) ≤ 100 := by unfold ab; split <;> omega
  rw [f_X11_across, f_X11_along, a1, b1, a2, b2, iI_sub, iI_sub, habs_eq (by omega) (by omega), habs_eq (by omega) (by omega), hmax_eq (by omega) (by omega) (by omega) (by omega)]
  rfl
theorem mxr {p q : Nat} (hp : p < 192) (hq : q < 192) : f_X12_max (f_X12_size ((iI q - iI q / 16 * 16) - (iI p - iI p / 16 * 16))) (f_X12_size (iI q / 16 - iI p / 16)) = iI (mx p q) := by
  obtain ⟨-, -, a1, a2⟩ := and15 ⟨p, hp⟩
  obtain ⟨-, -, b1, b2⟩ := and15 ⟨q, hq⟩
  dsimp only at a1 a2 b1 b2
  have e1 : (if 0 ≤ ((q % 16 : Nat) : Int) - ((p % 16 : Nat) : Int) then ((q % 16 : Nat) : Int) - ((p % 16 : Nat) : Int) else -(((q % 16 : Nat) : Int) - ((p % 16 : Nat) : Int))) = ab (((p % 16 : Nat) : Int) - ((q % 16 : Nat) : Int)) := by unfold ab; split <;> split <;> omega
  have e2 : (if 0 ≤ ((q / 16 : Nat) : Int) - ((p / 16 : Nat) : Int) then ((q / 16 : Nat) : Int) - ((p / 16 : Nat) : Int) else -(((q / 16 : Nat) : Int) - ((p / 16 : Nat) : Int))) = ab (((p / 16 : Nat) : Int) - ((q / 16 : Nat) : Int)) := by unfold ab; split <;> split <;> omega
  have c1 : -100 ≤ ab (((p % 16 : Nat) : Int) - ((q % 16 : Nat) : Int)) ∧ ab (((p % 16 : Nat) : Int) - ((q % 16 : Nat) : Int)) ≤ 100 := by unfold ab; split <;> omega
  have c2 : -100 ≤ ab (((p / 16 : Nat) : Int) - ((q / 16 : Nat) : Int)) ∧ ab (((p / 16 : Nat) : Int) - ((q / 16 : Nat) : Int)) ≤ 100 := by unfold ab; split <;> omega
  rw [a2, b2, a1, b1, iI_sub, iI_sub, size_eq (by omega) (by omega), size_eq (by omega) (by omega), e1, e2, ← hmax_max, hmax_eq (by omega) (by omega) (by omega) (by omega)]
  rfl
theorem iI_s3 (c : Nat) (i : Int) : iI (c : Int) + 1 = iI ((c + 1 : Nat) : Int) := iI_s c
/-- least so far: none, or a number -/
def lst (v : Int32) : Prop := v = -2 ∨ ∃ z : Int, 0 ≤ z ∧ z ≤ 26 ∧ v = iI z
theorem cast_tail {M : HMem} {c n h : Nat} {fr ln b T f : Int} (hL : LN M c fr ln) (hS : SC M T f) (hD : ILand M) (hh : h < 6) (hb : M 75 (12 + h) = iI b) (b0 : 0 ≤ b) (b1 : b ≤ 10000) (r : Int32 → Int32 → Option Int32) (v : Int32) : ∀ (k i : Nat), b ≤ fr + i → (i : Int) ≤ ln + 1 → ln + 1 - i < k → f_X12_cast_L24 n r (iI h) (iI c) M k v (iI i) = r v (iI ((c + 1 : Nat) : Int)) := by
  have hr := hL.rg
  have hc := hL.c8
  obtain ⟨f3, f4, f5, f6⟩ := hL.cf
  intro k
  induction k with
  | zero => intro i _ _ h; exfalso; omega
  | succ k ih =>
    intro i i0 i1 i2
    rw [f_X12_cast_L24, hib_t (by omega) (by omega) (by omega), if_pos rfl, if_pos rfl, iI_natc (k := c) (by omega), f5, iI_s]
    by_cases hi : ln < i
    · rw [if_pos (lt_i hi (by omega) (by omega))]
    · have e := ih (i + 1) (by omega) (by omega) (by omega)
      rw [if_neg (nlt_i (by omega) (by omega) (by omega)), hasLine_1 hc f5 hr.1 hr.2.1, hb1_some, if_neg i10, strengthOf_eq hS hD hL (by omega), hb1_some, f6, iI_add, q12, iI_add, iI_s, e]
      have e12 : iI ((12 : Int) + (h : Int)) = iI ((12 + h : Nat) : Int) := by congr 1
      rw [e12, hib_t (by omega) (by omega) (by omega), if_pos rfl, iI_natc (by omega), hb]
      rw [if_neg (show ¬ iI (fr + (i : Int)) < iI b from nlt_i (by omega) (by omega) (by omega))]
      split <;> rfl
theorem cast_L {M : HMem} {c n h : Nat} {fr ln b T f : Int} {pp : Nat} (hL : LN M c fr ln) (hS : SC M T f) (hD : ILand M) (hh : h < 6) (hb : M 75 (12 + h) = iI b) (b0 : 0 ≤ b) (b1 : b ≤ 10000) (ha : M 75 (6 + h) = iI pp) (hpp : pp < 192) (r r' : Int32 → Int32 → Option Int32) : ∀ (k i : Nat) (v : Int32), lst v → (i : Int) ≤ ln + 1 → ln + 1 - i < k → ∃ w, lst w ∧ f_X0_nearestScent_L37 n r (iI pp) (iI b) (iI T) (iI c) (50 + 3 * c) M k v (iI (fr + i)) = r w (iI ((c + 1 : Nat) : Int)) ∧ f_X12_cast_L24 n r' (iI h) (iI c) M k v (iI i) = r' w (iI ((c + 1 : Nat) : Int)) := by
  have hr := hL.rg
  have hc := hL.c8
  obtain ⟨f3, f4, f5, f6⟩ := hL.cf
  intro k
  induction k with
  | zero => intro i _ _ _ h; exfalso; omega
  | succ k ih =>
    intro i v hv i1 i2
    rw [f_X0_nearestScent_L37, last_eq hL, iI_s]
    by_cases hi : ln < i
    · rw [if_pos (lt_i (by omega) (by omega) (by omega)), f_X12_cast_L24, hib_t (by omega) (by omega) (by omega), if_pos rfl, if_pos rfl, iI_natc (k := c) (by omega), f5, iI_s, if_pos (lt_i hi (by omega) (by omega))]
      exact ⟨v, hv, rfl, rfl⟩
    · rw [if_neg (show ¬ iI (fr + ln) < iI (fr + (i : Int)) from nlt_i (by omega) (by omega) (by omega))]
      by_cases hbb : b ≤ fr + i
      · rw [if_pos (le_i hbb (by omega) (by omega)), cast_tail hL hS hD hh hb b0 b1 r' v (k + 1) i hbb i1 i2]
        exact ⟨v, hv, rfl, rfl⟩
      · have hp := hL.pb (k := i) (by omega)
        have hs := sp_rg (pl M c i) hS (show 0 ≤ fr + (i : Int) by omega)
        have hm := mx_rg hpp hp
        have e12 : iI ((12 : Int) + (h : Int)) = iI ((12 + h : Nat) : Int) := by congr 1
        have e6 : iI ((6 : Int) + (h : Int)) = iI ((6 + h : Nat) : Int) := by congr 1
        rw [if_neg (nl_i (by omega) (by omega) (by omega)), placeAt_in hL (by omega), hb1_some, smells_eq hS hD hp (by omega) (by omega), hb1_some, mxc hpp hp, iI_t]
        rw [f_X12_cast_L24, hib_t (by omega) (by omega) (by omega), if_pos rfl, if_pos rfl, iI_natc (k := c) (by omega), f5, iI_s, if_neg (nlt_i (by omega) (by omega) (by omega)), hasLine_1 hc f5 hr.1 hr.2.1, hb1_some, if_neg i10, strengthOf_eq hS hD hL (by omega), hb1_some, f6, iI_add, q12, iI_add, iI_s]
        rw [e12, hib_t (z := ((12 + h : Nat) : Int)) (by omega) (by omega) (by omega), if_pos rfl, iI_natc (k := 12 + h) (by omega), hb, if_pos (show iI (fr + (i : Int)) < iI b from lt_i (by omega) (by omega) (by omega))]
        rw [q97, iI_mul, iI_add, hib_t (z := 97 * (c : Int) + (i : Int)) (by omega) (by omega) (by omega), if_pos rfl, q6, iI_add, e6, hib_t (z := ((6 + h : Nat) : Int)) (by omega) (by omega) (by omega), if_pos rfl, if_pos rfl, iI_nat (z := 97 * (c : Int) + (i : Int)) (by omega) (by omega), show (97 * (c : Int) + (i : Int)).toNat = 97 * c + i by omega, (hL.p1 (k := i) (by omega)).2, iI_natc (k := 6 + h) (by omega), ha, mxr hpp hp, hb1_some]
        by_cases hz : 0 < sp M T f (pl M c i) (fr + i)
        · rw [if_pos hz, if_neg i10, if_neg (show ¬ iI (sp M T f (pl M c i) (fr + i)) = 0 by rw [q0]; exact ne_i (by omega) (by omega) (by omega) (by omega) (by omega))]
          rcases hv with rfl | ⟨z, z0, z1, rfl⟩
          · rw [if_pos rfl, if_pos rfl]
            exact ih (i + 1) _ (Or.inr ⟨_, hm.1, hm.2, rfl⟩) (by omega) (by omega)
          · have ez : ¬ iI z = -2 := by rw [qm2]; exact ne_i (by omega) (by omega) (by omega) (by omega) (by omega)
            rw [if_neg ez, if_neg ez]
            by_cases hq : z ≤ mx pp (pl M c i)
            · rw [if_pos (le_i hq (by omega) (by omega)), if_pos (le_i hq (by omega) (by omega))]
              exact ih (i + 1) _ (Or.inr ⟨z, z0, z1, rfl⟩) (by omega) (by omega)
            · rw [if_neg (nl_i (by omega) (by omega) (by omega)), if_neg (nl_i (by omega) (by omega) (by omega))]
              exact ih (i + 1) _ (Or.inr ⟨_, hm.1, hm.2, rfl⟩) (by omega) (by omega)
        · rw [if_neg hz, if_pos rfl, if_pos (show iI (sp M T f (pl M c i) (fr + i)) = 0 by rw [show sp M T f (pl M c i) (fr + i) = 0 by omega]; rfl)]
          exact ih (i + 1) v hv (by omega) (by omega)
theorem cast_O {M : HMem} {n h : Nat} {b T f : Int} {pp : Nat} (hLs : ILines M) (hS : SC M T f) (hD : ILand M) (hh : h < 6) (hb : M 75 (12 + h) = iI b) (b0 : 0 ≤ b) (b1 : b ≤ 10000) (ha : M 75 (6 + h) = iI pp) (hpp : pp < 192) (hn : 200 ≤ n) : ∀ (k c : Nat) (v : Int32), lst v → c ≤ 8 → 8 - c < k → ∃ w, f_X0_nearestScent_L7 n (iI pp) (iI b) (iI T) M k v (iI c) = some w ∧ f_X12_cast_L15 n (iI h) M k v (iI c) = some w := by
  intro k
  induction k with
  | zero => intro c _ _ _ h; exfalso; omega
  | succ k ih =>
    intro c v hv c1 c2
    rw [f_X0_nearestScent_L7, f_X12_cast_L15]
    by_cases hc : c = 8
    · subst hc; rw [if_pos (by decide), if_pos (by decide)]; exact ⟨v, rfl, rfl⟩
    · rw [if_neg (nle8 (by omega)), if_neg (nle8 (by omega))]
      rcases lineC hLs (c := c) (by omega) with ⟨l1, l2, l3⟩ | ⟨fr, ln, hL, l1, l2⟩
      · rw [l1, hb1_some, iI_s]
        obtain ⟨m, rfl⟩ : ∃ m, n = m + 1 := ⟨n - 1, by omega⟩
        rw [f_X12_cast_L24, hib_t (by omega) (by omega) (by omega), if_pos rfl, if_pos rfl, iI_natc (by omega), l3, if_neg (by decide), l2, hb1_some, if_pos rfl, iI_s]
        exact ih (c + 1) v hv (by omega) (by omega)
      · have hr := hL.rg
        obtain ⟨w, w1, w2, w3⟩ := cast_L (n := n) hL hS hD hh hb b0 b1 ha hpp (f_X0_nearestScent_L7 n (iI pp) (iI b) (iI T) M k) (f_X12_cast_L15 n (iI h) M k) n 0 v hv (by omega) (by omega)
        rw [show fr + ((0 : Nat) : Int) = fr by omega] at w2
        rw [l1, hb1_some]
        dsimp only
        rw [hL.cf.1, w2]
        rw [show (0 : Int32) = iI ((0 : Nat) : Int) from rfl, w3]
        exact ih (c + 1) w w1 (by omega) (by omega)
theorem PR.sc {o : Nat} {M : HMem} (h : PR o 75 M) (hF : IFade M) : ∃ T f, SC M T f ∧ M o 4 = iI T := by
  obtain ⟨T, t1, t2, t3, t4⟩ := h.1
  obtain ⟨f, f1, f2, f3, f4⟩ := hF
  exact ⟨T, f, ⟨t1, t2, f1, f2, f3, f4, t4⟩, t3⟩
theorem op_cast (v : Int32) {n : Nat} (hn : 200 ≤ n) {M : HMem} (hL : ILines M) (hD : ILand M) (hF : IFade M) (h : PR 35 75 M) : ∃ r, f_X11_cast n v M = some r ∧ f_X12_cast n v M = some r := by
  obtain ⟨z, z1, z2, rfl⟩ := iI_of v
  by_cases hz : 0 ≤ z ∧ z ≤ 5
  · obtain ⟨i, rfl⟩ : ∃ i : Nat, z = i := ⟨z.toNat, by omega⟩
    have hi : i < 6 := by omega
    rcases h.told hi with ⟨h1, h2⟩ | ⟨h1, h2⟩
    · exact ⟨-1, by rw [f_X11_cast, isTold_0 hi h2, hb1_some, if_pos rfl], by rw [f_X12_cast, isHound_0 hi h1, hb1_some, if_pos rfl]⟩
    · rcases h.2.2 i hi with ⟨h3, -⟩ | ⟨-, ⟨p, p1, p2, p3, p4⟩, ⟨t, t1, t2, t3, t4⟩, -⟩
      · rw [h1] at h3; exact absurd h3 (by decide)
      · obtain ⟨p, rfl⟩ : ∃ i : Nat, p = i := ⟨p.toNat, by omega⟩
        obtain ⟨T, f, hS, hT⟩ := h.sc hF
        obtain ⟨w, w1, w2⟩ := cast_O hL hS hD hi t4 t1 t2 p4 (by omega) hn n 0 (-2) (Or.inl rfl) (by omega) (by omega)
        refine ⟨w, ?_, ?_⟩
        · rw [f_X11_cast, isTold_1 hi h2, hb1_some, if_neg i10, placeOfHound_in hi, timeOf_in hi, hb1_some, hb1_some, p3, t3, hT, f_X0_nearestScent, show (0 : Int32) = iI ((0 : Nat) : Int) from rfl, w1, hb1_some]
        · rw [f_X12_cast, isHound_1 hi h1, hb1_some, if_neg i10, show (0 : Int32) = iI ((0 : Nat) : Int) from rfl, w2]
  · exact ⟨-1, by rw [f_X11_cast, isTold_out z1 z2 hz, hb1_some, if_pos rfl], by rw [f_X12_cast, isHound_eq (o := 0) (a := 0) z1 z2 hz, hb1_some, if_pos rfl]⟩

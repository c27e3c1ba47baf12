/-! THE HUNT: which scent is best -/
def KY (w t s : Int) : Int := if w = 0 then 0 else w * 100000 + t * 8 + (7 - s)
def BC (x : Nat → Int32) (j : Nat) (κ cr : Int) : Prop := (κ = 0 ∧ x j = iI 0) ∨ ∃ w t s : Int, 1 ≤ w ∧ w ≤ 9999 ∧ 0 ≤ t ∧ t ≤ 10095 ∧ 0 ≤ s ∧ s ≤ 4 ∧ 0 ≤ cr ∧ cr < 8 ∧ κ = KY w t s ∧ x j = iI w ∧ x (j + 1) = iI t ∧ x (j + 2) = iI s ∧ x (j + 3) = iI cr
theorem BC.nn {x : Nat → Int32} {j : Nat} {κ cr : Int} (h : BC x j κ cr) : 0 ≤ κ := by
  rcases h with ⟨h, -⟩ | ⟨w, t, s, h1, h2, h3, h4, h5, h6, h7, h8, h9, -⟩
  · omega
  · rw [KY, if_neg (by omega)] at h9; omega
theorem BC.cg {x x' : Nat → Int32} {j : Nat} {κ cr : Int} (h : BC x j κ cr) (e : ∀ i, i < 4 → x' (j + i) = x (j + i)) : BC x' j κ cr := by
  have e0 : x' j = x j := e 0 (by omega)
  rcases h with ⟨h, h'⟩ | ⟨w, t, s, h1, h2, h3, h4, h5, h6, h7, h8, h9, h10, h11, h12, h13⟩
  · exact Or.inl ⟨h, by rw [e0]; exact h'⟩
  · exact Or.inr ⟨w, t, s, h1, h2, h3, h4, h5, h6, h7, h8, h9, by rw [e0]; exact h10, by rw [e 1 (by omega)]; exact h11, by rw [e 2 (by omega)]; exact h12, by rw [e 3 (by omega)]; exact h13⟩
def TOP (Key : Nat → Int) (S : Nat → Prop) (κ κ' : Int) : Prop := κ ≤ κ' ∧ (∀ i, S i → Key i ≤ κ') ∧ (κ' = κ ∨ ∃ i, S i ∧ κ' = Key i)
theorem TOP.join {Key : Nat → Int} {S1 S2 S : Nat → Prop} {κ κ1 κ2 : Int} (h1 : TOP Key S1 κ κ1) (h2 : TOP Key S2 κ1 κ2) (hS : ∀ i, S i ↔ S1 i ∨ S2 i) : TOP Key S κ κ2 := by
  obtain ⟨a1, a2, a3⟩ := h1
  obtain ⟨b1, b2, b3⟩ := h2
  refine ⟨by omega, fun i hi => ?_, ?_⟩
  · rcases (hS i).mp hi with h | h
    · have := a2 i h; omega
    · exact b2 i h
  · rcases b3 with b3 | ⟨i, b3, b4⟩
    · rcases a3 with a3 | ⟨i, a3, a4⟩
      · left; omega
      · right; exact ⟨i, (hS i).mpr (Or.inl a3), by omega⟩
    · right; exact ⟨i, (hS i).mpr (Or.inr b3), b4⟩
theorem TOP.nil {Key : Nat → Int} {S : Nat → Prop} {κ : Int} (h0 : 0 ≤ κ) (h : ∀ i, S i → Key i = 0) : TOP Key S κ κ := ⟨by omega, fun i hi => by rw [h i hi]; exact h0, Or.inl rfl⟩
theorem TOP.uniq {Key : Nat → Int} {S : Nat → Prop} {κ κ1 κ2 : Int} (h1 : TOP Key S κ κ1) (h2 : TOP Key S κ κ2) : κ1 = κ2 := by
  obtain ⟨a1, a2, a3⟩ := h1
  obtain ⟨b1, b2, b3⟩ := h2
  have p : κ1 ≤ κ2 := by
    rcases a3 with a3 | ⟨i, a3, a4⟩
    · omega
    · have := b2 i a3; omega
  have q : κ2 ≤ κ1 := by
    rcases b3 with b3 | ⟨i, b3, b4⟩
    · omega
    · have := a2 i b3; omega
  omega
theorem TOP.one {Key : Nat → Int} {i : Nat} {κ : Int} (x : Int) (hx : Key i = x) : TOP Key (fun q => q = i) κ (if κ < x then x else κ) := by
  subst hx
  by_cases h : κ < Key i
  · rw [if_pos h]; exact ⟨by omega, fun q hq => by rw [hq]; omega, Or.inr ⟨i, rfl, rfl⟩⟩
  · rw [if_neg h]; exact ⟨by omega, fun q hq => by rw [hq]; omega, Or.inl rfl⟩
theorem ky_rg {w t s : Int} (h1 : 1 ≤ w) (h2 : w ≤ 9999) (t1 : 0 ≤ t) (t2 : t ≤ 10095) (s1 : 0 ≤ s) (s2 : s ≤ 4) : KY w t s = w * 100000 + t * 8 + (7 - s) := by rw [KY, if_neg (by omega)]
theorem better_C {A : HMem} {κ cr w t s : Int} (h : BC (A 31) 2 κ cr) (w1 : 0 ≤ w) (w2 : w ≤ 9999) (t1 : 0 ≤ t) (t2 : t ≤ 10095) (s1 : 0 ≤ s) (s2 : s ≤ 4) : f_X2_isBetter (iI w) (iI t) (iI s) A = if κ < KY w t s then 1 else 0 := by
  rcases h with ⟨h, h'⟩ | ⟨w', t', s', a1, a2, a3, a4, a5, a6, a7, a8, a9, b1, b2, b3, b4⟩
  · rw [f_X2_isBetter, h', h, q0, KY]
    simp (disch := omega) only [iI_eq, iI_le]
    by_cases z : w = 0
    all_goals repeat' split
    all_goals first | rfl | (exfalso; omega)
  · rw [f_X2_isBetter, b1, show A 31 3 = iI t' from b2, show A 31 4 = iI s' from b3, a9, ky_rg a1 a2 a3 a4 a5 a6, q0, KY]
    simp (disch := omega) only [iI_eq, iI_le, iI_lt]
    by_cases z : w = 0
    · rw [if_pos z, if_neg (by omega), if_pos (by omega), if_neg (by omega)]
    · rw [if_neg z, if_neg z]
      by_cases e : w = w'
      · rw [if_pos e]
        by_cases e1 : t' < t
        · rw [if_pos e1, if_pos (by omega)]
        · rw [if_neg e1]
          by_cases e2 : t = t'
          · rw [if_pos e2]
            by_cases e3 : s' ≤ s
            · rw [if_pos e3, if_neg (by omega)]
            · rw [if_neg e3, if_pos (by omega)]
          · rw [if_neg e2, if_neg (by omega)]
      · rw [if_neg e]
        by_cases e1 : w ≤ w'
        · rw [if_pos e1, if_neg (by omega)]
        · rw [if_neg e1, if_pos (by omega)]
theorem better_R {A : HMem} {κ cr w t s : Int} (h : BC (A 74) 46 κ cr) (w1 : 0 ≤ w) (w2 : w ≤ 9999) (t1 : 0 ≤ t) (t2 : t ≤ 10095) (s1 : 0 ≤ s) (s2 : s ≤ 4) : f_X12_isBetter (iI w) (iI t) (iI s) A = if κ < KY w t s then 1 else 0 := by
  rcases h with ⟨h, h'⟩ | ⟨w', t', s', a1, a2, a3, a4, a5, a6, a7, a8, a9, b1, b2, b3, b4⟩
  · rw [f_X12_isBetter, h', h, q0, KY]
    simp (disch := omega) only [iI_eq, iI_le]
    by_cases z : w = 0
    all_goals repeat' split
    all_goals first | rfl | (exfalso; omega)
  · rw [f_X12_isBetter, b1, show A 74 47 = iI t' from b2, show A 74 48 = iI s' from b3, a9, ky_rg a1 a2 a3 a4 a5 a6, q0, KY]
    simp (disch := omega) only [iI_eq, iI_le, iI_lt]
    by_cases z : w = 0
    · rw [if_pos z, if_neg (by omega), if_pos (by omega), if_neg (by omega)]
    · rw [if_neg z, if_neg z]
      by_cases e : w = w'
      · rw [if_pos e]
        by_cases e1 : t' < t
        · rw [if_pos e1, if_pos (by omega)]
        · rw [if_neg e1]
          by_cases e2 : t = t'
          · rw [if_pos e2]
            by_cases e3 : s' ≤ s
            · rw [if_pos e3, if_neg (by omega)]
            · rw [if_neg e3, if_pos (by omega)]
          · rw [if_neg e2, if_neg (by omega)]
      · rw [if_neg e]
        by_cases e1 : w ≤ w'
        · rw [if_pos e1, if_neg (by omega)]
        · rw [if_neg e1, if_pos (by omega)]
/-- which way a place lies -/
def wy (P p : Nat) : Int := if (p : Int) - (P : Int) = -16 then 1 else if (p : Int) - (P : Int) = -1 then (if (P % 16 : Nat) ≤ 0 then -1 else 4) else if (p : Int) - (P : Int) = 0 then 0 else if (p : Int) - (P : Int) = 1 then (if 15 ≤ (P % 16 : Nat) then -1 else 2) else if (p : Int) - (P : Int) = 16 then 3 else -1
theorem wy_rg (P p : Nat) : -1 ≤ wy P p ∧ wy P p ≤ 4 := by
  unfold wy
  repeat' split
  all_goals omega
theorem wayTo_eq {P p : Nat} (hP : P < 192) (hp : p < 192) : f_X11_wayTo (iI P) (iI p) = iI (wy P p) := by
  have a := (and15 ⟨P, hP⟩).1
  have a' : iI (P : Int) &&& 15 = iI ((P % 16 : Nat) : Int) := a
  rw [f_X11_wayTo, a', iI_sub, qm16, qm1, q0, q1, q15, q16, show (4 : Int32) = iI 4 from rfl, show (2 : Int32) = iI 2 from rfl, show (3 : Int32) = iI 3 from rfl]
  simp (disch := omega) only [iI_eq, iI_le]
  unfold wy
  repeat' split
  all_goals first | rfl | (exfalso; omega)
theorem wy_0 {P p : Nat} : wy P p = 0 ↔ p = P := by
  unfold wy
  repeat' split
  all_goals omega
theorem wy_s {P p w : Nat} (hP : P < 192) (hp : p < 192) (hw : w < 4) : wy P p = (w : Int) + 1 ↔ (p = nbr P w ∧ nbr P w ≠ P) := by
  rcases (show w = 0 ∨ w = 1 ∨ w = 2 ∨ w = 3 by omega) with rfl | rfl | rfl | rfl
  · unfold wy; rw [show nbr P 0 = if P < 16 then P else P - 16 from rfl]
    repeat' split
    all_goals omega
  · unfold wy; rw [show nbr P 1 = if P % 16 = 15 then P else P + 1 from rfl]
    repeat' split
    all_goals omega
  · unfold wy; rw [show nbr P 2 = if P + 16 < 192 then P + 16 else P from rfl]
    repeat' split
    all_goals omega
  · unfold wy; rw [show nbr P 3 = if P % 16 = 0 then P else P - 1 from rfl]
    repeat' split
    all_goals omega
def kyf (C f T fr : Int) (P : Nat) (kz p : Nat → Nat) (W : Nat → Int) (i : Nat) : Int := if fr + (i : Int) < T ∧ 0 < st C f (fr + (i : Int)) ∧ kz (p i) ≠ 1 ∧ 0 ≤ wy P (p i) then KY (W i) (fr + (i : Int)) (wy P (p i)) else 0
def fcs (h c : Nat) (C f T fr : Int) (n5 n6 n7 : Int32) (i : Nat) (q : Nat) : Int32 := if q = 0 then iI (h : Int) else if q = 1 then iI (c : Int) else if q = 2 then iI (C - (fr + (i : Int))) else if q = 3 then iI (st C f (fr + (i : Int))) else if q = 4 then iI (T - (fr + (i : Int))) else if q = 5 then n5 else if q = 6 then n6 else n7
def FW (A A' : HMem) : Prop := ∀ k, (k < 29 ∨ 31 < k) → A' k = A k
theorem FW_rf (A : HMem) : FW A A := fun _ _ => rfl
theorem FW.trans {A A' A2 : HMem} (h : FW A A') (h2 : FW A' A2) : FW A A2 := fun k a => (h2 k a).trans (h k a)
theorem FW_set (A : HMem) {k : Nat} (j : Nat) (v : Int32) (h : 29 ≤ k ∧ k ≤ 31) : FW A (hset A k j v) := fun k' a => hset_nek _ _ _ (by omega)
theorem grp_29 {k j : Nat} (h : 29 ≤ k ∧ k ≤ 31) : grp k j = 0 := by
  rcases (show k = 29 ∨ k = 30 ∨ k = 31 by omega) with rfl | rfl | rfl <;> rfl
theorem FW.g {A A' : HMem} (h : FW A A') : ∀ k j, grp k j ≠ 0 → A' k j = A k j := fun k j a => by
  by_cases hk : 29 ≤ k ∧ k ≤ 31
  · exact absurd (grp_29 hk) a
  · rw [h k (by omega)]
theorem put_eq {j : Nat} (hj : j < 8) (v : Int32) (A : HMem) : f_X5_put 23 (iI (j : Int)) v A = some (hset A 29 j v) := by
  have x1 : ¬ iI (j : Int) < 0 := nlt_i (b := 0) (by omega) (by omega) (by omega)
  have x2 : ¬ (8 : Int32) ≤ iI (j : Int) := nl_i (a := 8) (by omega) (by omega) (by omega)
  rw [f_X5_put, if_neg x1, if_neg x2, hib_t (n := 8) (by omega) (by omega) (by omega), if_pos rfl, iI_natc (k := j) (by omega)]
theorem str_A {A : HMem} {C f t : Int} (h : A 3 2 = iI f) (c0 : 0 ≤ C) (c1 : C ≤ 9999) (t0 : 0 ≤ t) (t1 : t ≤ 1000000) : f_X0_strength (iI t) (iI C) A = iI (st C f t) := by
  rw [f_X0_strength, h, iI_sub, iI_mul, show (99 : Int32) = iI 99 from rfl, iI_sub, st]
  by_cases ht : t ≤ C
  · rw [if_pos ht, if_pos (le_i ht (by omega) (by omega))]
  · rw [if_neg ht, if_neg (nl_i (by omega) (by omega) (by omega))]; rfl
theorem hAt_cgL {o n : Nat} {A A' : HMem} {p : Int32} (e1 : A' (o + 1) = A (o + 1)) (e4 : A' (o + 4) = A (o + 4)) : ∀ (k : Nat) (b i : Int32), f_X8_houndsAt_L4 n o p A' k b i = f_X8_houndsAt_L4 n o p A k b i := by
  intro k
  induction k with
  | zero => intro b i; rfl
  | succ k ih =>
    intro b i
    rw [f_X8_houndsAt_L4, f_X8_houndsAt_L4, e1, e4]
    simp only [ih]
theorem hAt_cg {o n : Nat} {A A' : HMem} {p : Int32} (e1 : A' (o + 1) = A (o + 1)) (e4 : A' (o + 4) = A (o + 4)) : f_X8_houndsAt n o p A' = f_X8_houndsAt n o p A := hAt_cgL e1 e4 n 0 0
theorem isH_cg {B B' : HMem} (e : B' 75 = B 75) (v : Int32) : f_X12_isHound v B' = f_X12_isHound v B := by
  rw [f_X12_isHound, f_X12_isHound, e]
theorem hAtR_cgL {n : Nat} {B B' : HMem} {p : Int32} (e : B' 75 = B 75) : ∀ (k : Nat) (b i : Int32), f_X12_houndsAt_L4 n p B' k b i = f_X12_houndsAt_L4 n p B k b i := by
  intro k
  induction k with
  | zero => intro b i; rfl
  | succ k ih =>
    intro b i
    rw [f_X12_houndsAt_L4, f_X12_houndsAt_L4, isH_cg e, e]
    simp only [ih]
theorem hAtR_cg {n : Nat} {B B' : HMem} {p : Int32} (e : B' 75 = B 75) : f_X12_houndsAt n p B' = f_X12_houndsAt n p B := hAtR_cgL e n 0 0

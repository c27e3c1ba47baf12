/-! TEXTS: the class's tape and the reference's, side by side -/
def cT (tb : Nat → Nat) (A : HMem) : Prop := ∀ j, j < 260 → tb j < 256 ∧ A 2 j = iI (tb j)
def rT (tb : Nat → Nat) (B : HMem) : Prop := ∀ j, j < 260 → B 84 j &&& 255 = iI (tb j)
def sgn (tb : Nat → Nat) (n p : Nat) : Int := if p < n then (tb p : Int) else -1
def CP (tb : Nat → Nat) (A : HMem) (n p : Nat) : Prop := cT tb A ∧ n ≤ 260 ∧ p ≤ n ∧ A 1 2 = iI n ∧ A 1 3 = iI p ∧ A 1 4 = 0
def RP (tb : Nat → Nat) (B : HMem) (n p : Nat) : Prop := rT tb B ∧ n ≤ 260 ∧ p ≤ n ∧ B 74 14 = iI n ∧ B 74 13 = iI p
/-- only the tape's record has changed -/
def oc1 (A A' : HMem) : Prop := ∀ k, k ≠ 1 → A' k = A k
def oB (B B' : HMem) : Prop := (∀ k, k ≠ 74 → B' k = B k) ∧ ∀ j, j ≠ 13 → j ≠ 15 → j ≠ 16 → B' 74 j = B 74 j
/-- the same fault on both sides -/
def FT (A' B' : HMem) : Prop := ∃ k w : Int, 1 ≤ k ∧ k ≤ 6 ∧ 0 ≤ w ∧ w ≤ 260 ∧ A' 1 4 = iI k ∧ A' 1 5 = iI w ∧ B' 74 15 = iI (-1000 * k - w)
theorem oc1_rf (A : HMem) : oc1 A A := fun _ _ => rfl
theorem oc1.trans {A A' A2 : HMem} (h : oc1 A A') (h2 : oc1 A' A2) : oc1 A A2 := fun k hk => (h2 k hk).trans (h k hk)
theorem oB_rf (A : HMem) : oB A A := ⟨fun _ _ => rfl, fun _ _ _ _ => rfl⟩
theorem oB.trans {A A' A2 : HMem} (h : oB A A') (h2 : oB A' A2) : oB A A2 := ⟨fun k hk => (h2.1 k hk).trans (h.1 k hk), fun j a b c => (h2.2 j a b c).trans (h.2 j a b c)⟩
theorem oc1_set (A : HMem) (j : Nat) (v : Int32) : oc1 A (hset A 1 j v) := fun k hk => hset_nek A j v hk
theorem oB_set (A : HMem) {j : Nat} (v : Int32) (h : j = 13 ∨ j = 15 ∨ j = 16) : oB A (hset A 74 j v) := ⟨fun k hk => hset_nek A j v hk, fun i a b c => hset_nej A v (by omega)⟩
theorem sgn_rg {tb : Nat → Nat} {A : HMem} {n p : Nat} (h : CP tb A n p) : -1 ≤ sgn tb n p ∧ sgn tb n p < 256 := by
  unfold sgn
  split
  · have := (h.1 p (by have := h.2.1; omega)).1
    omega
  · omega
theorem sign_ok {tb : Nat → Nat} {A : HMem} {n p : Nat} (h : CP tb A n p) : f_X10_sign A = some (iI (sgn tb n p)) := by
  obtain ⟨h1, h2, h3, h4, h5, h6⟩ := h
  rw [f_X10_sign, h4, h5, h6, if_pos rfl, sgn]
  by_cases q : p < n
  · rw [if_pos q, if_neg (nl_i (by omega) (by omega) (by omega)), if_neg (by rw [q260]; exact nl_i (by omega) (by omega) (by omega)), hib_t (by omega) (by omega) (by omega), if_pos rfl, iI_natc (by omega), (h1 p (by omega)).2]
  · rw [if_neg q, if_pos (le_i (by omega) (by omega) (by omega))]; rfl
theorem sign_dead {A : HMem} (h : ¬ A 1 4 = 0) : f_X10_sign A = some (-1) := by rw [f_X10_sign, if_neg h]
theorem here_ok {tb : Nat → Nat} {B : HMem} {n p : Nat} (h : RP tb B n p) : f_X12_here B = some (iI (sgn tb n p)) := by
  obtain ⟨h1, h2, h3, h4, h5⟩ := h
  rw [f_X12_here, h4, h5, sgn]
  by_cases q : p < n
  · rw [if_pos q, if_neg (nl_i (by omega) (by omega) (by omega)), hib_t (by omega) (by omega) (by omega), if_pos rfl, iI_natc (by omega), h1 p (by omega)]
  · rw [if_neg q, if_pos (le_i (by omega) (by omega) (by omega))]; rfl
theorem CP.cg {tb : Nat → Nat} {A A' : HMem} {n p : Nat} (h : CP tb A n p) (e2 : A' 2 = A 2) (e1 : A' 1 = A 1) : CP tb A' n p := by
  unfold CP cT at h ⊢
  rw [e2, e1]; exact h
theorem RP.cg {tb : Nat → Nat} {A A' : HMem} {n p : Nat} (h : RP tb A n p) (e2 : A' 84 = A 84) (e1 : A' 74 13 = A 74 13) (e3 : A' 74 14 = A 74 14) : RP tb A' n p := by
  unfold RP rT at h ⊢
  rw [e2, e1, e3]; exact h
theorem pass_ok {tb : Nat → Nat} {A : HMem} {n p : Nat} (h : CP tb A n p) (hp : p < n) : f_X10_pass A = hset A 1 3 (iI ((p + 1 : Nat) : Int)) ∧ CP tb (f_X10_pass A) n (p + 1) := by
  obtain ⟨h1, h2, h3, h4, h5, h6⟩ := h
  have e : f_X10_pass A = hset A 1 3 (iI ((p + 1 : Nat) : Int)) := by
    rw [f_X10_pass, h4, h5, if_neg (nl_i (by omega) (by omega) (by omega)), iI_s]
  refine ⟨e, ?_⟩
  rw [e]
  refine ⟨fun j hj => ?_, h2, by omega, by rw [hset_nej _ _ (by decide)]; exact h4, hset_self _ _ _ _, by rw [hset_nej _ _ (by decide)]; exact h6⟩
  rw [hset_nek _ _ _ (by decide)]; exact h1 j hj
theorem RP.step {tb : Nat → Nat} {B : HMem} {n p : Nat} (h : RP tb B n p) (hp : p < n) : RP tb (hset B 74 13 (iI ((p + 1 : Nat) : Int))) n (p + 1) := by
  obtain ⟨h1, h2, h3, h4, h5⟩ := h
  refine ⟨fun j hj => ?_, h2, by omega, by rw [hset_nej _ _ (by decide)]; exact h4, hset_self _ _ _ _⟩
  rw [hset_nek _ _ _ (by decide)]; exact h1 j hj
theorem fail_ok {A : HMem} (h : A 1 4 = 0) (k w : Int32) : f_X10_failAt k w A = hset (hset A 1 4 k) 1 5 w := by rw [f_X10_failAt, if_pos h]
theorem fail_dead {A : HMem} (h : ¬ A 1 4 = 0) (k w : Int32) : f_X10_failAt k w A = A := by rw [f_X10_failAt, if_neg h]
theorem wrong_eq (k w : Int) (B : HMem) : f_X12_wrongAt (iI k) (iI w) B = some (0, hset B 74 15 (iI (-1000 * k - w))) := by
  rw [f_X12_wrongAt, show (-1000 : Int32) = iI (-1000) from rfl, iI_mul, iI_sub]
theorem FT_here {tb : Nat → Nat} {A B : HMem} {n p : Nat} (k w : Int) (hA : CP tb A n p) (k1 : 1 ≤ k) (k2 : k ≤ 6) (w1 : 0 ≤ w) (w2 : w ≤ 260) : FT (f_X10_failAt (iI k) (iI w) A) (hset B 74 15 (iI (-1000 * k - w))) ∧ oc1 A (f_X10_failAt (iI k) (iI w) A) ∧ oB B (hset B 74 15 (iI (-1000 * k - w))) := by
  rw [fail_ok hA.2.2.2.2.2]
  exact ⟨⟨k, w, k1, k2, w1, w2, by rw [hset_nej _ _ (by decide), hset_self], hset_self _ _ _ _, hset_self _ _ _ _⟩, (oc1_set _ _ _).trans (oc1_set _ _ _), oB_set _ _ (by decide)⟩
theorem FT.dead {A B : HMem} (h : FT A B) : ¬ A 1 4 = 0 := by
  obtain ⟨k, w, k1, k2, w1, w2, h1, -⟩ := h
  rw [h1, q0]; exact ne_i (by omega) (by omega) (by omega) (by omega) (by omega)
/-- a step in a dead text keeps the fault -/
def dk (A A' : HMem) : Prop := A' 1 4 = A 1 4 ∧ A' 1 5 = A 1 5
theorem dk_rf (A : HMem) : dk A A := ⟨rfl, rfl⟩
theorem dk.trans {A A' A2 : HMem} (h : dk A A') (h2 : dk A' A2) : dk A A2 := ⟨h2.1.trans h.1, h2.2.trans h.2⟩
theorem FT.dk {A A' B : HMem} (h : FT A B) (h2 : dk A A') : FT A' B := by
  obtain ⟨k, w, k1, k2, w1, w2, h3, h4, h5⟩ := h
  exact ⟨k, w, k1, k2, w1, w2, h2.1.trans h3, h2.2.trans h4, h5⟩
theorem dk.dead {A A' : HMem} (h : dk A A') (h2 : ¬ A 1 4 = 0) : ¬ A' 1 4 = 0 := by rw [h.1]; exact h2
theorem pass_dk (A : HMem) : dk A (f_X10_pass A) ∧ oc1 A (f_X10_pass A) := by
  rw [f_X10_pass]
  split
  · exact ⟨dk_rf _, oc1_rf _⟩
  · exact ⟨⟨hset_nej _ _ (by decide), hset_nej _ _ (by decide)⟩, oc1_set _ _ _⟩
theorem expect_dead {A : HMem} {c : Int} (h : ¬ A 1 4 = 0) (hc : 0 ≤ c) (hc2 : c < 300) : f_X10_expect (iI c) A = some A := by
  rw [ex_eq, f_X10_isAt, sign_dead h, hb1_some, if_neg (by rw [qm1]; exact ne_i (by omega) (by omega) (by omega) (by omega) (by omega)), hb1_some, if_pos rfl, fh_eq, fail_dead h]
theorem isDig_eq {z : Int} (h1 : -1 ≤ z) (h2 : z < 256) : f_X10_isDigit (iI z) = if 48 ≤ z ∧ z ≤ 57 then 1 else 0 := by
  rw [f_X10_isDigit, show (48 : Int32) = iI 48 from rfl, show (57 : Int32) = iI 57 from rfl]
  simp (disch := omega) only [iI_lt]
  grind
theorem isDigR_eq {tb : Nat → Nat} {B A : HMem} {n p : Nat} (h : RP tb B n p) (hA : CP tb A n p) : f_X12_isDigit B = some (if 48 ≤ sgn tb n p ∧ sgn tb n p ≤ 57 then 1 else 0) := by
  have := sgn_rg hA
  rw [f_X12_isDigit, here_ok h, hb1_some, hb1_some, show (48 : Int32) = iI 48 from rfl, show (57 : Int32) = iI 57 from rfl]
  simp (disch := omega) only [iI_lt]
  grind
theorem number_dead {A : HMem} {n : Nat} (m : Int32) (h : ¬ A 1 4 = 0) : f_X10_number n m A = some (0, A) := by
  rw [f_X10_number, sign_dead h, hb1_some, if_pos (by decide), fh_eq, fail_dead h]
/-- a sign that must stand here -/
theorem ex_tk {tb : Nat → Nat} {A B : HMem} {n p : Nat} {c : Int} (hA : CP tb A n p) (hB : RP tb B n p) (hc : 0 ≤ c) (hc2 : c < 256) : ∃ A' B', f_X10_expect (iI c) A = some A' ∧ oc1 A A' ∧ oB B B' ∧ B' 74 16 = B 74 16 ∧ ((f_X12_takes (iI c) B = some (1, B') ∧ p < n ∧ CP tb A' n (p + 1) ∧ RP tb B' n (p + 1)) ∨ (f_X12_takes (iI c) B = some (0, B') ∧ FT A' B')) := by
  have hs := sgn_rg hA
  rw [ex_eq, f_X10_isAt, sign_ok hA, hb1_some, f_X12_takes, here_ok hB, hb1_some]
  by_cases q : sgn tb n p = c
  · have hp : p < n := by
      unfold sgn at q
      split at q
      · assumption
      · omega
    obtain ⟨e1, e2⟩ := pass_ok hA hp
    rw [q, if_pos rfl, hb1_some, if_neg i10, if_pos rfl]
    refine ⟨_, _, rfl, ?_, oB_set _ _ (by decide), hset_nej _ _ (by decide), Or.inl ⟨rfl, hp, e2, ?_⟩⟩
    · rw [e1]; exact oc1_set _ _ _
    · rw [hB.2.2.2.2, iI_s]; exact hB.step hp
  · have e : ¬ iI (sgn tb n p) = iI c := ne_i q (by omega) (by omega) (by omega) (by omega)
    have hp := hA.2.2.1
    have hn := hA.2.1
    rw [if_neg e, hb1_some, if_pos rfl, if_neg e, fh_eq, hA.2.2.2.2.1, hB.2.2.2.2, show (1 : Int32) = iI 1 from rfl, wrong_eq, hb2_some, if_pos (by decide)]
    obtain ⟨f1, f2, f3⟩ := FT_here (B := B) 1 p hA (by omega) (by omega) (by omega) (by omega)
    exact ⟨_, _, rfl, f2, f3, hset_nej _ _ (by decide), Or.inr ⟨rfl, f1⟩⟩
theorem num_L {tb : Nat → Nat} {n N fr m : Nat} {RL : Nat → HMem → Option (Int32 × HMem)} (hm : m ≤ 5) (hRL : ∀ k M, RL (k + 1) M = hb1 (f_X12_isDigit M) (fun x101 => if x101 = 0 then some (1, M) else if M 74 13 = iI fr + iI m then hb2 (f_X12_wrongAt 2 (M 74 13) M) (fun x104 M105 => if x104 &&& 1 = x104 then some (x104, M105) else none) else hb1 (f_X12_here M) (fun x102 => hb1 (some (hset M 74 16 (((10 * (M 74 16)) + x102) - 48))) (fun M103 => RL k (hset M103 74 13 ((M103 74 13) + 1)))))) : ∀ (k i v : Nat) (A B : HMem), CP tb A n (fr + i) → RP tb B n (fr + i) → B 74 16 = iI v → v < 10 ^ i → i ≤ m → m - i < k → ∃ (v' : Nat) (A' B' : HMem), f_X10_number_L21 N (iI m) k (iI v) (iI i) A = some (iI v', A') ∧ v' < 10 ^ m ∧ oc1 A A' ∧ oB B B' ∧ ((∃ p', fr + i ≤ p' ∧ CP tb A' n p' ∧ RP tb B' n p' ∧ B' 74 16 = iI v' ∧ RL k B = some (1, B')) ∨ (FT A' B' ∧ RL k B = some (0, B'))) := by
  intro k
  induction k with
  | zero => intro i _ _ _ _ _ _ _ _ h; exfalso; omega
  | succ k ih =>
    intro i v A B hA hB h16 hv him hk
    have hs := sgn_rg hA
    have hp := hA.2.2.1
    have hn := hA.2.1
    have pw : v < 10 ^ m := Nat.lt_of_lt_of_le hv (Nat.pow_le_pow_right (by omega) him)
    rw [f_X10_number_L21, hRL, isDigR_eq hB hA, hb1_some, sign_ok hA, hb1_some, hb1_some, isDig_eq hs.1 hs.2, hB.2.2.2.2, iI_add]
    have eJ : f_X10_number_J59 N (iI v) A = some (if 48 ≤ sgn tb n (fr + i) ∧ sgn tb n (fr + i) ≤ 57 then (iI v, f_X10_failAt (iI 2) (iI ((fr + i : Nat) : Int)) A) else (iI v, A)) := by
      rw [f_X10_number_J59, sign_ok hA, hb1_some, isDig_eq hs.1 hs.2]
      by_cases d : 48 ≤ sgn tb n (fr + i) ∧ sgn tb n (fr + i) ≤ 57
      · rw [if_pos d, if_pos d, if_neg i10, fh_eq, hA.2.2.2.2.1]; rfl
      · rw [if_neg d, if_neg d, if_pos rfl]
    rw [eJ]
    by_cases d : 48 ≤ sgn tb n (fr + i) ∧ sgn tb n (fr + i) ≤ 57
    · rw [if_pos d, if_pos d, if_neg i10, if_neg i10]
      have hpn : fr + i < n := by
        unfold sgn at d
        split at d
        · assumption
        · omega
      by_cases hi : i = m
      · rw [if_pos (le_i (by omega) (by omega) (by omega)), if_pos (by congr 1; omega), show (2 : Int32) = iI 2 from rfl, wrong_eq, hb2_some, if_pos (by decide)]
        obtain ⟨f1, f2, f3⟩ := FT_here (B := B) 2 ((fr + i : Nat) : Int) hA (by omega) (by omega) (by omega) (by omega)
        exact ⟨v, _, _, rfl, pw, f2, f3, Or.inr ⟨f1, rfl⟩⟩
      · obtain ⟨e1, e2⟩ := pass_ok hA hpn
        have x1 : ¬ iI ((fr + i : Nat) : Int) = iI ((fr : Int) + (m : Int)) := ne_i (by omega) (by omega) (by omega) (by omega) (by omega)
        rw [if_neg (nl_i (by omega) (by omega) (by omega)), if_neg x1, here_ok hB, hb1_some, hb1_some, hset_nej _ _ (by decide), hB.2.2.2.2, h16, iI_s, iI_s, show (10 : Int32) = iI 10 from rfl, show (48 : Int32) = iI 48 from rfl, iI_mul, iI_add, iI_sub]
        obtain ⟨w, hw⟩ : ∃ w : Nat, 10 * (v : Int) + sgn tb n (fr + i) - 48 = w := ⟨(10 * (v : Int) + sgn tb n (fr + i) - 48).toNat, by omega⟩
        rw [hw]
        have hB2 : RP tb (hset (hset B 74 16 (iI (w : Int))) 74 13 (iI ((fr + i + 1 : Nat) : Int))) n (fr + (i + 1)) := by
          have : RP tb (hset B 74 16 (iI (w : Int))) n (fr + i) := hB.cg (hset_nek _ _ _ (by decide)) (hset_nej _ _ (by decide)) (hset_nej _ _ (by decide))
          exact this.step hpn
        obtain ⟨v', A', B', g1, g2, g3, g4, g5⟩ := ih (i + 1) w (f_X10_pass A) _ e2 hB2 (by rw [hset_nej _ _ (by decide), hset_self]) (by rw [Nat.pow_succ]; omega) (by omega) (by omega)
        refine ⟨v', A', B', g1, g2, ?_, ?_, ?_⟩
        · rw [e1] at g3; exact (oc1_set _ _ _).trans g3
        · exact ((oB_set _ _ (by decide)).trans (oB_set _ _ (by decide))).trans g4
        · rcases g5 with ⟨p', q1, q2⟩ | q
          · exact Or.inl ⟨p', by omega, q2⟩
          · exact Or.inr q
    · rw [if_neg d, if_neg d, if_pos rfl, if_pos rfl, ite_self]
      exact ⟨v, A, B, rfl, pw, oc1_rf _, oB_rf _, Or.inl ⟨fr + i, Nat.le_refl _, hA, hB, h16, rfl⟩⟩

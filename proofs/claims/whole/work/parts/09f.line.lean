/-! LINES as texts: what is repeated -/
def per (g : Nat → Int32) (b o e : Nat) : Nat → Int32 := fun j => if b ≤ j ∧ j < b + e then g (b + (j - b) % o) else g j
theorem per_one (g : Nat → Int32) (b o : Nat) : per g b o o = g := by
  funext j
  unfold per
  split
  · rw [Nat.mod_eq_of_lt (by omega)]; congr 1; omega
  · rfl
theorem per_cpy (g : Nat → Int32) {b o i : Nat} (ho : 0 < o) (hi : 1 ≤ i) : va_cpy (per g b o (i * o)) (per g b o (i * o)) b (b + i * o) o = per g b o ((i + 1) * o) := by
  have h1 : (i + 1) * o = i * o + o := Nat.succ_mul i o
  have h2 : o ≤ i * o := Nat.le_mul_of_pos_left o hi
  funext j
  unfold va_cpy
  rw [h1]
  by_cases q : b + i * o ≤ j ∧ j < b + i * o + o
  · rw [if_pos q]
    unfold per
    rw [if_pos (by omega), if_pos (by omega)]
    congr 2
    obtain ⟨r, hr⟩ : ∃ r, j = b + (i * o + r) := ⟨j - b - i * o, by omega⟩
    rw [hr, show b + (b + (i * o + r) - (b + i * o)) - b = r by omega, show b + (i * o + r) - b = i * o + r by omega, Nat.mul_comm i o, Nat.mul_add_mod]
  · rw [if_neg q]
    unfold per
    by_cases q2 : b ≤ j ∧ j < b + i * o
    · rw [if_pos q2, if_pos (by omega)]
    · rw [if_neg q2, if_neg (by omega)]
theorem per_upd (g : Nat → Int32) {b o e : Nat} (ho : 0 < o) (he : o ≤ e) : upd (per g b o e) (b + e) (per g b o e (b + e - o)) = per g b o (e + 1) := by
  funext j
  simp only [upd]
  by_cases q : j = b + e
  · rw [if_pos q, q]
    unfold per
    rw [if_pos (by omega), if_pos (by omega)]
    congr 2
    rw [show b + e - o - b = e - o by omega, show b + e - b = e by omega, ← Nat.mod_eq_sub_mod he]
  · rw [if_neg q]
    unfold per
    by_cases q2 : b ≤ j ∧ j < b + e
    · rw [if_pos q2, if_pos (by omega)]
    · rw [if_neg q2, if_neg (by omega)]
def SR (A B : HMem) (m : Nat) : Prop := m ≤ 96 ∧ A 8 2 = iI m ∧ B 74 39 = iI m ∧ ∀ j, j < m → ∃ s : Nat, s ≤ 4 ∧ A 9 j = iI ((s + 1) % 5 : Nat) ∧ B 98 j = iI s
theorem SR.cg {A A' B B' : HMem} {m : Nat} (h : SR A B m) (e1 : A' 8 = A 8) (e2 : A' 9 = A 9) (e3 : B' 74 39 = B 74 39) (e4 : B' 98 = B 98) : SR A' B' m := by
  unfold SR at h ⊢
  rw [e1, e2, e3, e4]; exact h
theorem rep_cl {A : HMem} {N b t o : Nat} {g : Nat → Int32} (ho : 0 < o) (ht : t ≤ 9) (hb : b + o * t ≤ 96) : ∀ (k i : Nat), 1 ≤ i → i ≤ t → t - i < k → f_X7_repeat_L36 N (iI b) (iI t) (iI o) k (iI i) (hput A 9 (per g b o (i * o))) = some (hset (hput A 9 (per g b o (t * o))) 8 2 (iI ((b + o * t : Nat) : Int))) := by
  have h3 : t * o = o * t := Nat.mul_comm _ _
  intro k
  induction k with
  | zero => intro i _ _ h; exfalso; omega
  | succ k ih =>
    intro i i1 i2 hk
    rw [f_X7_repeat_L36]
    by_cases e : i = t
    · subst e
      rw [if_pos (le_i (by omega) (by omega) (by omega)), iI_mul, iI_add]
      congr 3
    · have h1 : (i + 1) * o = i * o + o := Nat.succ_mul i o
      have h2 : (i + 1) * o ≤ t * o := Nat.mul_le_mul_right o (by omega)
      have ei : iI (b : Int) + iI (i : Int) * iI (o : Int) = iI ((b + i * o : Nat) : Int) := by
        rw [iI_mul, iI_add]; congr 1
      have hok : hcpok (iI b) (iI ((b + i * o : Nat) : Int)) (iI o) 96 96 = true := by
        unfold hcpok
        rw [iI_natc (by omega), iI_natc (by omega), iI_natc (by omega), q0, decide_eq_true (nlt_i (by omega) (by omega) (by omega)), decide_eq_true (nlt_i (by omega) (by omega) (by omega)), decide_eq_true (nlt_i (by omega) (by omega) (by omega)), decide_eq_true (by omega), decide_eq_true (by omega)]
        rfl
      rw [if_neg (nl_i (by omega) (by omega) (by omega)), ei, hok, if_pos rfl, iI_natc (by omega), iI_natc (by omega), iI_natc (by omega), hcpy, hput_self, hput_put, per_cpy g ho i1, iI_s]
      exact ih (i + 1) (by omega) (by omega) (by omega)
theorem rep_rf {B : HMem} {N b t o : Nat} {g : Nat → Int32} (ho : 0 < o) (ht : t ≤ 9) (hb : b + o * t ≤ 96) : ∀ (k e : Nat), o ≤ e → e ≤ o * t → o * t - e < k → f_X12_repeats_L31 N (iI b) (iI t) (iI o) k (iI e) (hput B 98 (per g b o e)) = some (1, hset (hput B 98 (per g b o (t * o))) 74 39 (iI ((b + o * t : Nat) : Int))) := by
  have h3 : t * o = o * t := Nat.mul_comm _ _
  intro k
  induction k with
  | zero => intro e _ _ h; exfalso; omega
  | succ k ih =>
    intro e e1 e2 hk
    rw [f_X12_repeats_L31, iI_mul, show ((o : Int) * (t : Int)) = ((o * t : Nat) : Int) from rfl]
    by_cases q : e = o * t
    · rw [if_pos (le_i (by omega) (by omega) (by omega)), iI_add, q, h3]; rfl
    · rw [if_neg (nl_i (by omega) (by omega) (by omega)), iI_add, iI_sub, hib_t (z := (b : Int) + (e : Int) - (o : Int)) (by omega) (by omega) (by omega), if_pos rfl, hib_t (z := (b : Int) + (e : Int)) (by omega) (by omega) (by omega), if_pos rfl, iI_nat (z := (b : Int) + (e : Int)) (by omega) (by omega), iI_nat (z := (b : Int) + (e : Int) - (o : Int)) (by omega) (by omega), hput_self, show ((b : Int) + (e : Int)).toNat = b + e by omega, show ((b : Int) + (e : Int) - (o : Int)).toNat = b + e - o by omega, hset_put, per_upd g ho e1, iI_s]
      exact ih (e + 1) (by omega) (by omega) (by omega)
theorem rep_both {tb : Nat → Nat} {A B : HMem} {n p N b t m s0 : Nat} (hN : 300 ≤ N) (hA : CP tb A n p) (hB : RP tb B n p) (hS : SR A B m) (hb : b < m) (t1 : 1 ≤ t) (t9 : t ≤ 9) (hs : s0 ≤ 260) : (96 < b + (m - b) * t ∧ ∃ A' B', f_X7_repeat N (iI b) (iI t) (iI s0) A = some A' ∧ f_X12_repeats N (iI b) (iI t) (iI s0) B = some (0, B') ∧ FT A' B' ∧ oc1 A A' ∧ oB B B') ∨ (b + (m - b) * t ≤ 96 ∧ ∃ A' B', f_X7_repeat N (iI b) (iI t) (iI s0) A = some A' ∧ f_X12_repeats N (iI b) (iI t) (iI s0) B = some (1, B') ∧ SR A' B' (b + (m - b) * t) ∧ (∀ k, k ≠ 8 → k ≠ 9 → A' k = A k) ∧ (∀ k, k ≠ 74 → k ≠ 98 → B' k = B k) ∧ (∀ j, j ≠ 39 → B' 74 j = B 74 j)) := by
  obtain ⟨s1, s2, s3, s4⟩ := id hS
  have hn := hA.2.1
  have em : iI (m : Int) - iI (b : Int) = iI ((m - b : Nat) : Int) := by rw [iI_sub]; congr 1; omega
  have em2 : iI (b : Int) + iI ((m - b : Nat) : Int) * iI (t : Int) = iI ((b + (m - b) * t : Nat) : Int) := by rw [iI_mul, iI_add]; congr 1
  have hbig : b + (m - b) * t ≤ 1000 := by
    have : (m - b) * t ≤ 96 * 9 := Nat.mul_le_mul (by omega) t9
    omega
  have hge : m - b ≤ (m - b) * t := Nat.le_mul_of_pos_right _ t1
  rw [f_X7_repeat, s2, em, em2, f_X12_repeats, s3, em, em2, q96]
  by_cases q : b + (m - b) * t ≤ 96
  · right
    rw [if_pos (le_i (by omega) (by omega) (by omega)), if_pos (le_i (by omega) (by omega) (by omega))]
    have c := rep_cl (A := A) (N := N) (g := A 9) (show 0 < m - b by omega) t9 q N 1 (by omega) t1 (by omega)
    rw [Nat.one_mul, per_one, hput_eta] at c
    have r := rep_rf (B := B) (N := N) (g := B 98) (show 0 < m - b by omega) t9 q N (m - b) (by omega) hge (by omega)
    rw [per_one, hput_eta] at r
    refine ⟨q, _, _, c, r, ⟨q, hset_self _ _ _ _, hset_self _ _ _ _, fun j hj => ?_⟩, fun k a b => ?_, fun k a b => ?_, fun j a => ?_⟩
    · rw [hset_nek _ _ _ (by decide), hput_self, hset_nek _ _ _ (by decide), hput_self]
      unfold per
      rw [Nat.mul_comm t]
      by_cases x : b ≤ j ∧ j < b + (m - b) * t
      · rw [if_pos x, if_pos x]
        exact s4 _ (by have := Nat.mod_lt (j - b) (show m - b > 0 by omega); omega)
      · rw [if_neg x, if_neg x]
        exact s4 j (by omega)
    · rw [hset_nek _ _ _ a, hput_ne _ _ b]
    · rw [hset_nek _ _ _ a, hput_ne _ _ b]
    · rw [hset_nej _ _ a, hput_ne _ _ (by decide)]
  · left
    rw [if_neg (nl_i (by omega) (by omega) (by omega)), if_neg (nl_i (by omega) (by omega) (by omega)), show (6 : Int32) = iI 6 from rfl, wrong_eq, hb2_some, if_pos (by decide)]
    obtain ⟨f1, f2, f3⟩ := FT_here (B := B) 6 s0 hA (by omega) (by omega) (by omega) (by omega)
    exact ⟨by omega, _, _, rfl, rfl, f1, f2, f3⟩
theorem way_all : ∀ c : Fin 256, (f_X7_wayOf (iI ((c : Nat) : Int)) = -1 ∧ f_X12_wayOf (iI ((c : Nat) : Int)) = -1) ∨ ((f_X7_wayOf (iI ((c : Nat) : Int)) = 1 ∧ f_X12_wayOf (iI ((c : Nat) : Int)) = 0) ∨ (f_X7_wayOf (iI ((c : Nat) : Int)) = 2 ∧ f_X12_wayOf (iI ((c : Nat) : Int)) = 1) ∨ (f_X7_wayOf (iI ((c : Nat) : Int)) = 3 ∧ f_X12_wayOf (iI ((c : Nat) : Int)) = 2) ∨ (f_X7_wayOf (iI ((c : Nat) : Int)) = 4 ∧ f_X12_wayOf (iI ((c : Nat) : Int)) = 3) ∨ (f_X7_wayOf (iI ((c : Nat) : Int)) = 0 ∧ f_X12_wayOf (iI ((c : Nat) : Int)) = 4)) := by decide +kernel
theorem way_eq {tb : Nat → Nat} {A : HMem} {n p : Nat} (h : CP tb A n p) : (f_X7_wayOf (iI (sgn tb n p)) = -1 ∧ f_X12_wayOf (iI (sgn tb n p)) = -1) ∨ (p < n ∧ ∃ s : Nat, s ≤ 4 ∧ f_X7_wayOf (iI (sgn tb n p)) = iI ((s + 1) % 5 : Nat) ∧ f_X12_wayOf (iI (sgn tb n p)) = iI s) := by
  by_cases q : p < n
  · have hb := (h.1 p (by have := h.2.1; omega)).1
    rw [show sgn tb n p = (tb p : Int) from if_pos q]
    rcases way_all ⟨tb p, hb⟩ with h | h | h | h | h | h
    · exact Or.inl h
    · exact Or.inr ⟨q, 0, by omega, h.1, h.2⟩
    · exact Or.inr ⟨q, 1, by omega, h.1, h.2⟩
    · exact Or.inr ⟨q, 2, by omega, h.1, h.2⟩
    · exact Or.inr ⟨q, 3, by omega, h.1, h.2⟩
    · exact Or.inr ⟨q, 4, by omega, h.1, h.2⟩
  · rw [show sgn tb n p = -1 from if_neg q]
    exact Or.inl (by decide)

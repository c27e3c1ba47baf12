/-! NUMBERS: every Int32 as iI of an Int; all arithmetic goes to Int -/
def iI (z : Int) : Int32 := Int32.ofInt z
theorem iI_toInt {z : Int} (h1 : -2147483648 ≤ z) (h2 : z < 2147483648) : (iI z).toInt = z := by
  rw [iI, Int32.toInt_ofInt]
  have hs : Int32.size = 4294967296 := rfl
  exact Int.bmod_eq_of_le (by omega) (by omega)
theorem iI_add (a b : Int) : iI a + iI b = iI (a + b) := (Int32.ofInt_add a b).symm
theorem iI_sub (a b : Int) : iI a - iI b = iI (a - b) := (Int32.ofInt_sub a b).symm
theorem iI_mul (a b : Int) : iI a * iI b = iI (a * b) := (Int32.ofInt_mul a b).symm
theorem iI_neg (a : Int) : -(iI a) = iI (-a) := (Int32.ofInt_neg a).symm
theorem iI_lt {a b : Int} (h1 : -2147483648 ≤ a) (h2 : a < 2147483648) (h3 : -2147483648 ≤ b) (h4 : b < 2147483648) : iI a < iI b ↔ a < b := by
  rw [Int32.lt_iff_toInt_lt, iI_toInt h1 h2, iI_toInt h3 h4]
theorem iI_le {a b : Int} (h1 : -2147483648 ≤ a) (h2 : a < 2147483648) (h3 : -2147483648 ≤ b) (h4 : b < 2147483648) : iI a ≤ iI b ↔ a ≤ b := by
  rw [Int32.le_iff_toInt_le, iI_toInt h1 h2, iI_toInt h3 h4]
theorem iI_eq {a b : Int} (h1 : -2147483648 ≤ a) (h2 : a < 2147483648) (h3 : -2147483648 ≤ b) (h4 : b < 2147483648) : iI a = iI b ↔ a = b := by
  rw [← Int32.toInt_inj, iI_toInt h1 h2, iI_toInt h3 h4]
theorem iI_of (x : Int32) : ∃ z : Int, -2147483648 ≤ z ∧ z < 2147483648 ∧ x = iI z := ⟨x.toInt, Int32.le_toInt x, Int32.toInt_lt x, (Int32.ofInt_toInt x).symm⟩
theorem iI_nat {z : Int} (h1 : -2147483648 ≤ z) (h2 : z < 2147483648) : (iI z).toNatClampNeg = z.toNat := by
  show (iI z).toInt.toNat = _
  rw [iI_toInt h1 h2]
theorem iI_natc {k : Nat} (h : (k : Int) < 2147483648) : (iI (k : Int)).toNatClampNeg = k := by
  rw [iI_nat (by omega) h, Int.toNat_natCast]
theorem hib_iI {z : Int} {n : Nat} (h1 : -2147483648 ≤ z) (h2 : z < 2147483648) : hib (iI z) n = decide (0 ≤ z ∧ z < (n : Int)) := by
  have h0 : (iI z < 0) ↔ z < 0 := by
    rw [show (0 : Int32) = iI 0 from rfl]
    exact iI_lt h1 h2 (by omega) (by omega)
  rw [hib, iI_nat h1 h2]
  by_cases hz : z < 0
  · simp [h0, hz]; omega
  · have : z.toNat < n ↔ z < (n : Int) := by omega
    simp [h0, hz, this]; omega
theorem hib_t {z : Int} {n : Nat} (h1 : 0 ≤ z) (h2 : z < (n : Int)) (h3 : (n : Int) ≤ 2147483648) : hib (iI z) n = true := by
  rw [hib_iI (by omega) (by omega)]
  exact decide_eq_true ⟨h1, h2⟩
theorem q0 : (0 : Int32) = iI 0 := rfl
theorem q1 : (1 : Int32) = iI 1 := rfl
theorem q2 : (2 : Int32) = iI 2 := rfl
theorem q3 : (3 : Int32) = iI 3 := rfl
theorem q4 : (4 : Int32) = iI 4 := rfl
theorem q5 : (5 : Int32) = iI 5 := rfl
theorem q6 : (6 : Int32) = iI 6 := rfl
theorem q7 : (7 : Int32) = iI 7 := rfl
theorem q8 : (8 : Int32) = iI 8 := rfl
theorem q9 : (9 : Int32) = iI 9 := rfl
theorem q10 : (10 : Int32) = iI 10 := rfl
theorem q11 : (11 : Int32) = iI 11 := rfl
theorem q12 : (12 : Int32) = iI 12 := rfl
theorem q15 : (15 : Int32) = iI 15 := rfl
theorem q16 : (16 : Int32) = iI 16 := rfl
theorem q18 : (18 : Int32) = iI 18 := rfl
theorem q20 : (20 : Int32) = iI 20 := rfl
theorem q24 : (24 : Int32) = iI 24 := rfl
theorem q26 : (26 : Int32) = iI 26 := rfl
theorem q32 : (32 : Int32) = iI 32 := rfl
theorem q60 : (60 : Int32) = iI 60 := rfl
theorem q96 : (96 : Int32) = iI 96 := rfl
theorem q97 : (97 : Int32) = iI 97 := rfl
theorem q99 : (99 : Int32) = iI 99 := rfl
theorem q100 : (100 : Int32) = iI 100 := rfl
theorem q160 : (160 : Int32) = iI 160 := rfl
theorem q192 : (192 : Int32) = iI 192 := rfl
theorem q240 : (240 : Int32) = iI 240 := rfl
theorem q260 : (260 : Int32) = iI 260 := rfl
theorem q9999 : (9999 : Int32) = iI 9999 := rfl
theorem q10000 : (10000 : Int32) = iI 10000 := rfl
theorem q20000 : (20000 : Int32) = iI 20000 := rfl
theorem q65535 : (65535 : Int32) = iI 65535 := rfl
theorem qm1 : (-1 : Int32) = iI (-1) := rfl
theorem qm2 : (-2 : Int32) = iI (-2) := rfl
theorem qm4 : (-4 : Int32) = iI (-4) := rfl
-- memory
theorem hset_self (M : HMem) (k j : Nat) (v : Int32) : hset M k j v k j = v := by simp [hset, hput, upd]
theorem hset_nej (M : HMem) {k j j' : Nat} (v : Int32) (h : j' ≠ j) : hset M k j v k j' = M k j' := by simp [hset, hput, upd, h]
theorem hset_nek (M : HMem) {k k' : Nat} (j : Nat) (v : Int32) (h : k' ≠ k) : hset M k j v k' = M k' := by simp [hset, hput, h]
theorem hset_put (M : HMem) (k j : Nat) (g : Nat → Int32) (v : Int32) : hset (hput M k g) k j v = hput M k (upd g j v) := by
  funext k'
  by_cases h : k' = k
  · subst h; simp [hset, hput]
  · simp [hset, hput, h]
theorem hput_put (M : HMem) (k : Nat) (g g' : Nat → Int32) : hput (hput M k g) k g' = hput M k g' := by
  funext k'
  by_cases h : k' = k
  · subst h; simp [hput]
  · simp [hput, h]
theorem hput_eta (M : HMem) (k : Nat) : hput M k (M k) = M := by
  funext k'
  by_cases h : k' = k
  · subst h; simp [hput]
  · simp [hput, h]
theorem upd_self (f : Nat → Int32) (k : Nat) (x : Int32) : upd f k x k = x := if_pos rfl
theorem upd_ne (f : Nat → Int32) {k j : Nat} (x : Int32) (h : j ≠ k) : upd f k x j = f j := if_neg h
theorem hb1_some {α ρ : Type} (a : α) (f : α → Option ρ) : hb1 (some a) f = f a := rfl
theorem hb2_some {ρ : Type} (a : Int32) (M : HMem) (f : Int32 → HMem → Option ρ) : hb2 (some (a, M)) f = f a M := rfl
theorem q17 : (17 : Int32) = iI 17 := rfl
theorem q255 : (255 : Int32) = iI 255 := rfl
theorem q256 : (256 : Int32) = iI 256 := rfl
theorem q768 : (768 : Int32) = iI 768 := rfl
theorem q776 : (776 : Int32) = iI 776 := rfl
theorem qm8 : (-8 : Int32) = iI (-8) := rfl
theorem qm16 : (-16 : Int32) = iI (-16) := rfl
theorem iI_cl {k : Nat} (h : k < 2147483648) : (iI (k : Int)).toNatClampNeg = k := iI_natc (by omega)
theorem isWithin_eq {z m : Int} (h1 : -2147483648 ≤ z) (h2 : z < 2147483648) (h3 : 0 ≤ m) (h4 : m < 2147483648) : f_X11_isWithin (iI z) (iI m) = if 0 ≤ z ∧ z ≤ m then 1 else 0 := by
  simp (disch := omega) only [f_X11_isWithin, q0, iI_lt]
  grind
theorem in_eq {z a m : Int} (h1 : -2147483648 ≤ z) (h2 : z < 2147483648) (h3 : -2147483648 ≤ m) (h4 : m < 2147483648) (h5 : -2147483648 ≤ a) (h6 : a < 2147483648) : f_X12_in (iI z) (iI a) (iI m) = if a ≤ z ∧ z ≤ m then 1 else 0 := by
  simp (disch := omega) only [f_X12_in, iI_lt]
  grind
theorem onLand_eq {x y : Int} (h1 : -2147483648 ≤ x) (h2 : x < 2147483648) (h3 : -2147483648 ≤ y) (h4 : y < 2147483648) : f_X11_isOnLand (iI x) (iI y) = if (0 ≤ x ∧ x < 16) ∧ 0 ≤ y ∧ y < 12 then 1 else 0 := by
  simp (disch := omega) only [f_X11_isOnLand, q0, q16, q12, iI_lt, iI_le]
  grind
theorem isPlace2_eq {x y : Int} (h1 : -2147483648 ≤ x) (h2 : x < 2147483648) (h3 : -2147483648 ≤ y) (h4 : y < 2147483648) : f_X12_isPlace (iI x) (iI y) = if (0 ≤ x ∧ x < 16) ∧ 0 ≤ y ∧ y < 12 then 1 else 0 := by
  simp (disch := omega) only [f_X12_isPlace, q0, q15, q11, in_eq]
  grind
theorem isPlace_eq {z : Int} (h1 : -2147483648 ≤ z) (h2 : z < 2147483648) : f_X11_isPlace (iI z) = if 0 ≤ z ∧ z < 192 then 1 else 0 := by
  simp (disch := omega) only [f_X11_isPlace, q0, q192, iI_lt, iI_le]
  grind
theorem placeOf_eq (x y : Int) : f_X11_placeOf (iI x) (iI y) = iI (16 * y + x) := by
  simp only [f_X11_placeOf, q16, iI_mul, iI_add]

/-! couldBe -/
theorem hmin_eq {a b : Int} (h1 : -2147483648 ≤ a) (h2 : a < 2147483648) (h3 : -2147483648 ≤ b) (h4 : b < 2147483648) : hmin (iI a) (iI b) = iI (min a b) := by
  rw [hmin]
  simp (disch := omega) only [iI_lt]
  split
  · rw [Int.min_eq_right (by omega)]
  · rw [Int.min_eq_left (by omega)]
theorem hmax_eq {a b : Int} (h1 : -2147483648 ≤ a) (h2 : a < 2147483648) (h3 : -2147483648 ≤ b) (h4 : b < 2147483648) : hmax (iI a) (iI b) = iI (max a b) := by
  rw [hmax]
  simp (disch := omega) only [iI_lt]
  split
  · rw [Int.max_eq_right (by omega)]
  · rw [Int.max_eq_left (by omega)]
theorem iI_1 (z : Int) : iI z + 1 = iI (z + 1) := by rw [q1, iI_add]
theorem LN.pb {M : HMem} {c : Nat} {fr ln : Int} (h : LN M c fr ln) {k : Nat} (hk : (k : Int) ≤ ln) : pl M c k < 192 := (h.2.2.2.2.2.2.2.2.2.1 k hk).1
theorem LN.c8 {M : HMem} {c : Nat} {fr ln : Int} (h : LN M c fr ln) : c < 8 := h.1
theorem LN.rg {M : HMem} {c : Nat} {fr ln : Int} (h : LN M c fr ln) : 1 ≤ ln ∧ ln ≤ 96 ∧ 0 ≤ fr ∧ fr ≤ 9999 := ⟨h.2.1, h.2.2.1, h.2.2.2.1, h.2.2.2.2.1⟩
theorem LN.cf {M : HMem} {c : Nat} {fr ln : Int} (h : LN M c fr ln) : M (50 + 3 * c) 3 = iI fr ∧ M (50 + 3 * c) 4 = iI ln ∧ M 78 c = iI ln ∧ M 79 c = iI fr := ⟨h.2.2.2.2.2.1, h.2.2.2.2.2.2.1, h.2.2.2.2.2.2.2.1, h.2.2.2.2.2.2.2.2.1⟩
theorem LN.p1 {M : HMem} {c : Nat} {fr ln : Int} (h : LN M c fr ln) {k : Nat} (hk : (k : Int) ≤ ln) : M (52 + 3 * c) k = iI (pl M c k) ∧ M 81 (97 * c + k) = iI (pl M c k) := (h.2.2.2.2.2.2.2.2.2.1 k hk).2
theorem wasAt_L {M : HMem} {c n : Nat} {fr ln : Int} (h : LN M c fr ln) {p hi : Int} (p0 : 0 ≤ p) (p1 : p < 256) (h1 : hi ≤ fr + ln) (h2 : -1000000 ≤ hi) : ∀ (k : Nat) (t : Int), 0 < k → fr ≤ t → t ≤ 1000000 → hi + 1 - t < k → ∃ r, f_X1_wasAt_L20 n (50 + 3 * c) (iI p) (iI hi) M k (iI t) = some r ∧ ((r = 1 ∧ ∃ u, t ≤ u ∧ u ≤ hi ∧ (pl M c (u - fr).toNat : Int) = p) ∨ (r = 0 ∧ ∀ u, t ≤ u → u ≤ hi → ¬ (pl M c (u - fr).toNat : Int) = p)) := by
  have hr := h.rg
  intro k
  induction k with
  | zero =>
    intro t t0 t1 t2 t3; omega
  | succ k ih =>
    intro t t0 t1 t2 t3
    rw [f_X1_wasAt_L20]
    by_cases ht : hi < t
    · rw [if_pos (by rw [iI_lt (by omega) (by omega) (by omega) (by omega)]; exact ht)]
      exact ⟨0, rfl, Or.inr ⟨rfl, fun u a b => by omega⟩⟩
    · rw [if_neg (by rw [iI_lt (by omega) (by omega) (by omega) (by omega)]; exact ht), placeAt_t h (by omega), hb1_some, iI_1]
      have hp := h.pb (k := (t - fr).toNat) (by omega)
      by_cases hb : (pl M c (t - fr).toNat : Int) = p
      · rw [if_pos (by rw [hb])]
        exact ⟨1, rfl, Or.inl ⟨rfl, t, by omega, by omega, hb⟩⟩
      · rw [if_neg (by rw [iI_eq (by omega) (by omega) (by omega) (by omega)]; exact hb)]
        obtain ⟨r, a1, a2⟩ := ih (t + 1) (by omega) (by omega) (by omega) (by omega)
        refine ⟨r, a1, ?_⟩
        rcases a2 with ⟨a2, u, a3, a4, a5⟩ | ⟨a2, a3⟩
        · exact Or.inl ⟨a2, u, by omega, a4, a5⟩
        · exact Or.inr ⟨a2, fun u b1 b2 => by
            by_cases e : u = t
            · rw [e]; exact hb
            · exact a3 u (by omega) b2⟩
def been (M : HMem) (c : Nat) (fr ln p a b : Int) : Prop := ∃ k : Nat, (k : Int) ≤ ln ∧ (pl M c k : Int) = p ∧ a ≤ fr + k ∧ fr + k ≤ b
theorem wasAt_eq {M : HMem} {c n : Nat} {fr ln : Int} (h : LN M c fr ln) {p a b : Int} (hn : 100 ≤ n) (p0 : 0 ≤ p) (p1 : p < 256) (a1 : -1000 ≤ a) (a2 : a ≤ 100000) (b1 : -1000 ≤ b) (b2 : b ≤ 100000) : ∃ r, f_X1_wasAt n (50 + 3 * c) (iI p) (iI a) (iI b) M = some r ∧ ((r = 1 ∧ been M c fr ln p a b) ∨ (r = 0 ∧ ¬ been M c fr ln p a b)) := by
  have hr := h.rg
  obtain ⟨f3, f4, -, -⟩ := h.cf
  rw [f_X1_wasAt, last_eq h, f3, hmin_eq (by omega) (by omega) (by omega) (by omega), hmax_eq (by omega) (by omega) (by omega) (by omega)]
  obtain ⟨r, e1, e2⟩ := wasAt_L (n := n) h (p := p) (hi := min b (fr + ln)) p0 p1 (by omega) (by omega) n (max a fr) (by omega) (by omega) (by omega) (by omega)
  refine ⟨r, e1, ?_⟩
  rcases e2 with ⟨e2, u, e3, e4, e5⟩ | ⟨e2, e3⟩
  · exact Or.inl ⟨e2, (u - fr).toNat, by omega, e5, by omega, by omega⟩
  · refine Or.inr ⟨e2, fun ⟨k, k1, k2, k3, k4⟩ => e3 (fr + k) (by omega) (by omega) ?_⟩
    rw [show (fr + (k : Int) - fr).toNat = k by omega]; exact k2
theorem size_eq {z : Int} (h1 : -2147483648 < z) (h2 : z < 2147483648) : f_X12_size (iI z) = iI (if 0 ≤ z then z else -z) := by
  rw [f_X12_size, q0, iI_neg]
  simp (disch := omega) only [iI_le]
  split <;> rfl
theorem hasBeen_L {M : HMem} {c n : Nat} {fr ln : Int} (h : LN M c fr ln) {p t off : Int} (p0 : 0 ≤ p) (p1 : p < 256) (t0 : 0 ≤ t) (t1 : t ≤ 65535) (o0 : 0 ≤ off) (o1 : off ≤ 99) : ∀ (k i : Nat), (i : Int) ≤ ln + 1 → ln + 1 - i < k → ∃ r, f_X12_hasBeen_L3 n (iI c) (iI p) (iI t) (iI off) M k (iI i) = some r ∧ ((r = 1 ∧ ∃ j : Nat, i ≤ j ∧ (j : Int) ≤ ln ∧ (pl M c j : Int) = p ∧ t - off ≤ fr + j ∧ fr + j ≤ t + off) ∨ (r = 0 ∧ ∀ j : Nat, i ≤ j → (j : Int) ≤ ln → ¬ ((pl M c j : Int) = p ∧ t - off ≤ fr + j ∧ fr + j ≤ t + off))) := by
  have hr := h.rg
  have hc := h.c8
  obtain ⟨f3, f4, f5, f6⟩ := h.cf
  intro k
  induction k with
  | zero => intro i _ h; exfalso; omega
  | succ k ih =>
    intro i i1 i2
    rw [f_X12_hasBeen_L3, hib_t (by omega) (by omega) (by omega), if_pos rfl, iI_natc (by omega), f5]
    by_cases hi : ln < i
    · rw [if_pos (by rw [iI_lt (by omega) (by omega) (by omega) (by omega)]; exact hi)]
      exact ⟨0, rfl, Or.inr ⟨rfl, fun j a b => by omega⟩⟩
    · have hp := h.pb (k := i) (by omega)
      have e81 := (h.p1 (k := i) (by omega)).2
      rw [if_neg (by rw [iI_lt (by omega) (by omega) (by omega) (by omega)]; exact hi), q97, iI_mul, iI_add, hib_t (by omega) (by omega) (by omega), if_pos rfl, iI_nat (by omega) (by omega), show (97 * (c : Int) + (i : Int)).toNat = 97 * c + i by omega, e81, if_pos rfl, f6, iI_add, iI_sub, size_eq (by omega) (by omega), iI_s]
      obtain ⟨r, a1, a2⟩ := ih (i + 1) (by omega) (by omega)
      have next : ¬ ((pl M c i : Int) = p ∧ t - off ≤ fr + i ∧ fr + i ≤ t + off) → ∃ r, f_X12_hasBeen_L3 n (iI c) (iI p) (iI t) (iI off) M k (iI ((i + 1 : Nat) : Int)) = some r ∧ ((r = 1 ∧ ∃ j : Nat, i ≤ j ∧ (j : Int) ≤ ln ∧ (pl M c j : Int) = p ∧ t - off ≤ fr + j ∧ fr + j ≤ t + off) ∨ (r = 0 ∧ ∀ j : Nat, i ≤ j → (j : Int) ≤ ln → ¬ ((pl M c j : Int) = p ∧ t - off ≤ fr + j ∧ fr + j ≤ t + off))) := by
        intro hno
        refine ⟨r, a1, ?_⟩
        rcases a2 with ⟨a2, j, a3, a4⟩ | ⟨a2, a3⟩
        · exact Or.inl ⟨a2, j, by omega, a4⟩
        · exact Or.inr ⟨a2, fun j b1 b2 => by
            by_cases e : j = i
            · rw [e]; exact hno
            · exact a3 j (by omega) b2⟩
      by_cases hb : (pl M c i : Int) = p
      · rw [if_pos (by rw [hb])]
        by_cases ho : t - off ≤ fr + i ∧ fr + i ≤ t + off
        · rw [if_neg (by rw [iI_lt (by omega) (by omega) (by split <;> omega) (by split <;> omega)]; split <;> omega)]
          exact ⟨1, rfl, Or.inl ⟨rfl, i, by omega, by omega, hb, ho⟩⟩
        · rw [if_pos (by rw [iI_lt (by omega) (by omega) (by split <;> omega) (by split <;> omega)]; split <;> omega)]
          exact next (fun q => ho q.2)
      · rw [if_neg (by rw [iI_eq (by omega) (by omega) (by omega) (by omega)]; exact hb)]
        exact next (fun q => hb q.1)
theorem hasBeen_eq {M : HMem} {c n : Nat} {fr ln : Int} (h : LN M c fr ln) {p t off : Int} (hn : 100 ≤ n) (p0 : 0 ≤ p) (p1 : p < 256) (t0 : 0 ≤ t) (t1 : t ≤ 65535) (o0 : 0 ≤ off) (o1 : off ≤ 99) : ∃ r, f_X12_hasBeen n (iI c) (iI p) (iI t) (iI off) M = some r ∧ ((r = 1 ∧ been M c fr ln p (t - off) (t + off)) ∨ (r = 0 ∧ ¬ been M c fr ln p (t - off) (t + off))) := by
  have hr := h.rg
  obtain ⟨r, e1, e2⟩ := hasBeen_L (n := n) h p0 p1 t0 t1 o0 o1 n 0 (by omega) (by omega)
  refine ⟨r, e1, ?_⟩
  rcases e2 with ⟨e2, j, e3, e4, e5, e6⟩ | ⟨e2, e3⟩
  · exact Or.inl ⟨e2, j, e4, e5, e6⟩
  · exact Or.inr ⟨e2, fun ⟨k, k1, k2⟩ => e3 k (by omega) k1 k2⟩
/-- the finds: place and time of find i by the bytes b -/
def fit (M : HMem) (b : Nat → Nat) (off : Int) (c i : Nat) (fr ln : Int) : Prop := been M c fr ln (b (3 * i)) ((b (3 * i + 1) + 256 * b (3 * i + 2) : Nat) - off) ((b (3 * i + 1) + 256 * b (3 * i + 2) : Nat) + off)
theorem fits_L {M : HMem} {b : Nat → Nat} (hb : ∀ j, j < 260 → b j < 256 ∧ M 2 j = iI (b j)) {c n m : Nat} {fr ln off : Int} (h : LN M c fr ln) (hn : 100 ≤ n) (hm : m ≤ 10) (o0 : 0 ≤ off) (o1 : off ≤ 99) : ∀ (k i : Nat), i ≤ m → m - i < k → ∃ r, f_X11_fitsFinds_L20 n (iI m) (iI off) (50 + 3 * c) M k (iI i) = some r ∧ ((r = 1 ∧ ∀ j, i ≤ j → j < m → fit M b off c j fr ln) ∨ (r = 0 ∧ ∃ j, i ≤ j ∧ j < m ∧ ¬ fit M b off c j fr ln)) := by
  intro k
  induction k with
  | zero => intro i _ h; omega
  | succ k ih =>
    intro i i1 i2
    rw [f_X11_fitsFinds_L20]
    by_cases hi : i = m
    · subst hi
      rw [if_pos (by rw [iI_le (by omega) (by omega) (by omega) (by omega)]; omega)]
      exact ⟨1, rfl, Or.inl ⟨rfl, fun j a b => by omega⟩⟩
    · obtain ⟨x1, x2⟩ := hb (3 * i) (by omega)
      obtain ⟨y1, y2⟩ := hb (3 * i + 1) (by omega)
      obtain ⟨z1, z2⟩ := hb (3 * i + 2) (by omega)
      rw [if_neg (by rw [iI_le (by omega) (by omega) (by omega) (by omega)]; omega), show (3 : Int32) = iI 3 from rfl, iI_mul, q1, q2, iI_add, iI_add, show (3 * (i : Int) + 1) = ((3 * i + 1 : Nat) : Int) by omega, show (3 * (i : Int) + 2) = ((3 * i + 2 : Nat) : Int) by omega, show (3 * (i : Int)) = ((3 * i : Nat) : Int) by omega, byteAt_in (by omega), byteAt_in (by omega), byteAt_in (by omega), hb1_some, hb1_some, hb1_some, x2, y2, z2, q256, iI_mul, iI_add, iI_sub, iI_add]
      obtain ⟨r, e1, e2⟩ := wasAt_eq (n := n) h (p := b (3 * i)) (a := (b (3 * i + 1) : Int) + 256 * b (3 * i + 2) - off) (b := (b (3 * i + 1) : Int) + 256 * b (3 * i + 2) + off) hn (by omega) (by omega) (by omega) (by omega) (by omega) (by omega)
      rw [e1, hb1_some, ← q1, iI_s]
      have hfit : fit M b off c i fr ln ↔ been M c fr ln (b (3 * i)) ((b (3 * i + 1) : Int) + 256 * b (3 * i + 2) - off) ((b (3 * i + 1) : Int) + 256 * b (3 * i + 2) + off) := by
        unfold fit; rw [Int.natCast_add, Int.natCast_mul]; rfl
      rcases e2 with ⟨e2, e3⟩ | ⟨e2, e3⟩
      · rw [e2, if_neg i10]
        obtain ⟨r, a1, a2⟩ := ih (i + 1) (by omega) (by omega)
        refine ⟨r, a1, ?_⟩
        rcases a2 with ⟨a2, a3⟩ | ⟨a2, j, a3, a4, a5⟩
        · exact Or.inl ⟨a2, fun j b1 b2 => by
            by_cases e : j = i
            · rw [e]; exact hfit.mpr e3
            · exact a3 j (by omega) b2⟩
        · exact Or.inr ⟨a2, j, by omega, a4, a5⟩
      · rw [e2, if_pos rfl]
        exact ⟨0, rfl, Or.inr ⟨rfl, i, by omega, by omega, fun q => e3 (hfit.mp q)⟩⟩
theorem fitsR_L {M : HMem} {b : Nat → Nat} (hb : ∀ j, j < 260 → b j < 256 ∧ M 84 j &&& 255 = iI (b j)) {c n m : Nat} {fr ln off : Int} (h : LN M c fr ln) (hn : 100 ≤ n) (hm : m ≤ 10) (o0 : 0 ≤ off) (o1 : off ≤ 99) (rec : Int32 → Int32 → Option (Int32 × HMem)) (s : Int32) : ∀ (k i : Nat), i ≤ m → m - i + 1 < k → (∀ j, i ≤ j → j < m → fit M b off c j fr ln) ∧ f_X12_couldBe_L89 n rec (iI m) (iI off) s (iI c) M k 1 (iI i) = rec (s ||| (1 <<< (iI c &&& 31))) (iI c + 1) ∨ (¬ ∀ j, i ≤ j → j < m → fit M b off c j fr ln) ∧ f_X12_couldBe_L89 n rec (iI m) (iI off) s (iI c) M k 1 (iI i) = rec s (iI c + 1) := by
  intro k
  induction k with
  | zero => intro i _ h; omega
  | succ k ih =>
    intro i i1 i2
    rw [f_X12_couldBe_L89]
    by_cases hi : i = m
    · subst hi
      rw [if_pos (by rw [iI_le (by omega) (by omega) (by omega) (by omega)]; omega), f_X12_couldBe_J148, if_neg i10]
      exact Or.inl ⟨fun j a b => by omega, rfl⟩
    · obtain ⟨x1, x2⟩ := hb (3 * i) (by omega)
      obtain ⟨y1, y2⟩ := hb (3 * i + 1) (by omega)
      obtain ⟨z1, z2⟩ := hb (3 * i + 2) (by omega)
      have o3 : f_X12_octet (3 * iI i) M = some (iI (b (3 * i))) := by
        rw [show (3 : Int32) = iI 3 from rfl, iI_mul, show (3 * (i : Int)) = ((3 * i : Nat) : Int) by omega, octet_in (by omega), x2]
      have o4 : f_X12_octet (3 * iI i + 1) M = some (iI (b (3 * i + 1))) := by
        rw [show (3 : Int32) = iI 3 from rfl, iI_mul, q1, iI_add, show (3 * (i : Int) + 1) = ((3 * i + 1 : Nat) : Int) by omega, octet_in (by omega), y2]
      have o5 : f_X12_octet (3 * iI i + 2) M = some (iI (b (3 * i + 2))) := by
        rw [show (3 : Int32) = iI 3 from rfl, iI_mul, q2, iI_add, show (3 * (i : Int) + 2) = ((3 * i + 2 : Nat) : Int) by omega, octet_in (by omega), z2]
      rw [if_neg (by rw [iI_le (by omega) (by omega) (by omega) (by omega)]; omega), if_neg i10, o3, o4, o5, hb1_some, hb1_some, hb1_some, q256, iI_mul, iI_add]
      obtain ⟨r, e1, e2⟩ := hasBeen_eq (n := n) h (p := b (3 * i)) (t := (b (3 * i + 1) : Int) + 256 * b (3 * i + 2)) (off := off) hn (by omega) (by omega) (by omega) (by omega) o0 o1
      rw [e1, hb1_some, iI_s]
      have hfit : fit M b off c i fr ln ↔ been M c fr ln (b (3 * i)) ((b (3 * i + 1) : Int) + 256 * b (3 * i + 2) - off) ((b (3 * i + 1) : Int) + 256 * b (3 * i + 2) + off) := by
        unfold fit; rw [Int.natCast_add, Int.natCast_mul]; rfl
      rcases e2 with ⟨e2, e3⟩ | ⟨e2, e3⟩
      · rw [e2]
        rcases ih (i + 1) (by omega) (by omega) with ⟨a1, a2⟩ | ⟨a1, a2⟩
        · refine Or.inl ⟨fun j b1 b2 => ?_, a2⟩
          by_cases e : j = i
          · rw [e]; exact hfit.mpr e3
          · exact a1 j (by omega) b2
        · exact Or.inr ⟨fun q => a1 (fun j b1 b2 => q j (by omega) b2), a2⟩
      · rw [e2]
        refine Or.inr ⟨fun q => e3 (hfit.mp (q i (by omega) (by omega))), ?_⟩
        obtain ⟨k', rfl⟩ : ∃ k', k = k' + 1 := ⟨k - 1, by omega⟩
        rw [f_X12_couldBe_L89]
        split
        · rw [f_X12_couldBe_J148, if_pos rfl]
        · rw [if_pos rfl, f_X12_couldBe_J148, if_pos rfl]
theorem couldBe_outer {M M2 : HMem} {b : Nat → Nat} (hb : ∀ j, j < 260 → b j < 256 ∧ M 2 j = iI (b j)) (hb2 : ∀ j, j < 260 → b j < 256 ∧ M2 84 j &&& 255 = iI (b j)) (hL : ILines M) (e : ∀ k j, grp k j = 3 → M2 k j = M k j) {n m : Nat} {off : Int} (hn : 100 ≤ n) (hm : m ≤ 10) (o0 : 0 ≤ off) (o1 : off ≤ 99) : ∀ (k i : Nat) (w : Nat), i ≤ 8 → w < 2 ^ i → 8 - i < k → ∃ r, f_X11_couldBe_L75 n (iI m) (iI off) M k (iI w) (iI i) = some (r, f_X10_empty M) ∧ f_X12_couldBe_L71 n (iI m) (iI off) M2 k (iI w) (iI i) = some (r, M2) := by
  intro k
  induction k with
  | zero => intro i w _ _ h; omega
  | succ k ih =>
    intro i w i1 hw i2
    rw [f_X11_couldBe_L75, f_X12_couldBe_L71]
    by_cases h8 : i = 8
    · subst h8
      rw [if_pos (by decide), if_pos (by decide)]
      exact ⟨_, rfl, rfl⟩
    · have hp : w < 256 := Nat.lt_of_lt_of_le hw (Nat.le_trans (Nat.pow_le_pow_right (by omega) i1) (by decide))
      have h2 : 2 ^ i + 2 ^ i = 2 ^ (i + 1) := by rw [Nat.pow_succ]; omega
      rw [if_neg (nle8 (i := i) (by omega)), if_neg (nle8 (i := i) (by omega)), if_neg (by rw [qm2, iI_eq (by omega) (by omega) (by omega) (by omega)]; omega), f_X11_fitsFinds]
      rcases lineC hL (c := i) (by omega) with ⟨h1, h3, h4⟩ | ⟨fr, ln, hLN, h1, h3⟩
      · have h5 : f_X12_hasLine (iI i) M2 = some 0 := hasLine_0 (by omega) (by rw [e 78 i rfl]; exact h4)
        rw [h1, h5]
        simp only [hb1_some, if_true]
        obtain ⟨m', rfl⟩ : ∃ m', n = m' + 1 := ⟨n - 1, by omega⟩
        rw [f_X12_couldBe_L89]
        simp only [f_X12_couldBe_J148, if_true, ite_self, iI_s]
        exact ih (i + 1) w (by omega) (by omega) (by omega)
      · have hLN2 := hLN.congr e
        have h5 : f_X12_hasLine (iI i) M2 = some 1 := hasLine_1 (by omega) hLN2.cf.2.2.1 hLN.rg.1 hLN.rg.2.1
        have hpl : ∀ j, fit M2 b off i j fr ln ↔ fit M b off i j fr ln := fun j => by
          unfold fit been
          have : ∀ k, pl M2 i k = pl M i k := fun k => by unfold pl; rw [e _ _ (grp3 _ (by omega))]
          simp only [this]
        rw [h1, hb1_some, h5, hb1_some]
        obtain ⟨r, a1, a2⟩ := fits_L hb hLN hn hm o0 o1 n 0 (by omega) (by omega)
        show ∃ r, hb1 (f_X11_fitsFinds_L20 n (iI m) (iI off) (50 + 3 * i) M n 0) _ = _ ∧ _
        rw [show (0 : Int32) = iI ((0 : Nat) : Int) from rfl, a1, hb1_some]
        rcases fitsR_L hb2 hLN2 hn hm o0 o1 (f_X12_couldBe_L71 n (iI m) (iI off) M2 k) (iI w) n 0 (by omega) (by omega) with ⟨g1, g2⟩ | ⟨g1, g2⟩
        · rw [g2]
          rcases a2 with ⟨a2, a3⟩ | ⟨a2, j, a3, a4, a5⟩
          · rw [a2, if_neg (by decide), iI_s, orbit ⟨i, by omega⟩ ⟨w, hp⟩ hw]
            exact ih (i + 1) (w + 2 ^ i) (by omega) (by omega) (by omega)
          · exact absurd ((hpl j).mp (g1 j a3 a4)) a5
        · rw [g2]
          rcases a2 with ⟨a2, a3⟩ | ⟨a2, j, a3, a4, a5⟩
          · exact absurd (fun j b1 b2 => (hpl j).mpr (a3 j b1 b2)) g1
          · rw [a2, if_pos (show (0 : Int32) = iI ((0 : Nat) : Int) from rfl), iI_s]
            exact ih (i + 1) w (by omega) (by omega) (by omega)
theorem couldBe_C1 {M : HMem} {b : Nat → Nat} (hb : ∀ j, j < 260 → b j < 256 ∧ M 2 j = iI (b j)) {n m : Nat} {off : Int32} (hm : m ≤ 10) : ∀ (k i : Nat) (x : Int32), i ≤ m → m - i < k → ((∀ j, i ≤ j → j < m → b (3 * j) < 192) ∧ f_X11_couldBe_L40 n (iI m) off M k x (iI i) = f_X11_couldBe_L75 n (iI m) off M n x 0) ∨ ((∃ j, i ≤ j ∧ j < m ∧ ¬ b (3 * j) < 192) ∧ f_X11_couldBe_L40 n (iI m) off M k x (iI i) = f_X11_couldBe_L75 n (iI m) off M n (-2) 0) := by
  intro k
  induction k with
  | zero => intro i x _ h; omega
  | succ k ih =>
    intro i x i1 i2
    rw [f_X11_couldBe_L40]
    by_cases hi : i = m
    · subst hi
      rw [if_pos (by rw [iI_le (by omega) (by omega) (by omega) (by omega)]; omega)]
      exact Or.inl ⟨fun j a b => by omega, rfl⟩
    · obtain ⟨x1, x2⟩ := hb (3 * i) (by omega)
      rw [if_neg (by rw [iI_le (by omega) (by omega) (by omega) (by omega)]; omega), show (3 : Int32) = iI 3 from rfl, iI_mul, show (3 * (i : Int)) = ((3 * i : Nat) : Int) by omega, byteAt_in (by omega), hb1_some, x2, iI_s]
      by_cases hp : b (3 * i) < 192
      · rw [isPlace_1 (by omega) (by omega), if_neg i10]
        rcases ih (i + 1) x (by omega) (by omega) with ⟨a1, a2⟩ | ⟨⟨j, a1, a2, a3⟩, a4⟩
        · refine Or.inl ⟨fun j b1 b2 => ?_, a2⟩
          by_cases e : j = i
          · rw [e]; exact hp
          · exact a1 j (by omega) b2
        · exact Or.inr ⟨⟨j, by omega, a2, a3⟩, a4⟩
      · rw [isPlace_0 (by omega) (by omega) (by omega), if_pos rfl]
        rcases ih (i + 1) (-2) (by omega) (by omega) with ⟨a1, a2⟩ | ⟨-, a4⟩
        · exact Or.inr ⟨⟨i, by omega, by omega, hp⟩, a2⟩
        · exact Or.inr ⟨⟨i, by omega, by omega, hp⟩, a4⟩
theorem couldBe_R1 {M : HMem} {b : Nat → Nat} (hb : ∀ j, j < 260 → b j < 256 ∧ M 84 j &&& 255 = iI (b j)) {n m : Nat} {off : Int32} (hm : m ≤ 10) : ∀ (k i : Nat), i ≤ m → m - i < k → ((∀ j, i ≤ j → j < m → b (3 * j) < 192) ∧ f_X12_couldBe_L39 n (iI m) off M k (iI i) = f_X12_couldBe_L71 n (iI m) off M n 0 0) ∨ ((∃ j, i ≤ j ∧ j < m ∧ ¬ b (3 * j) < 192) ∧ f_X12_couldBe_L39 n (iI m) off M k (iI i) = some (-2, M)) := by
  intro k
  induction k with
  | zero => intro i _ h; omega
  | succ k ih =>
    intro i i1 i2
    rw [f_X12_couldBe_L39]
    by_cases hi : i = m
    · subst hi
      rw [if_pos (by rw [iI_le (by omega) (by omega) (by omega) (by omega)]; omega)]
      exact Or.inl ⟨fun j a b => by omega, rfl⟩
    · obtain ⟨x1, x2⟩ := hb (3 * i) (by omega)
      rw [if_neg (by rw [iI_le (by omega) (by omega) (by omega) (by omega)]; omega), show (3 : Int32) = iI 3 from rfl, iI_mul, show (3 * (i : Int)) = ((3 * i : Nat) : Int) by omega, octet_in (by omega), hb1_some, x2, iI_s]
      by_cases hp : b (3 * i) < 192
      · rw [if_pos (by rw [q192, iI_lt (by omega) (by omega) (by omega) (by omega)]; omega)]
        rcases ih (i + 1) (by omega) (by omega) with ⟨a1, a2⟩ | ⟨⟨j, a1, a2, a3⟩, a4⟩
        · refine Or.inl ⟨fun j b1 b2 => ?_, a2⟩
          by_cases e : j = i
          · rw [e]; exact hp
          · exact a1 j (by omega) b2
        · exact Or.inr ⟨⟨j, by omega, a2, a3⟩, a4⟩
      · rw [if_neg (by rw [q192, iI_lt (by omega) (by omega) (by omega) (by omega)]; omega)]
        exact Or.inr ⟨⟨i, by omega, by omega, hp⟩, rfl⟩
theorem op_couldBe (v w : Int32) {n : Nat} (hn : 100 ≤ n) {M : HMem} (hT : ITape M) (hL : ILines M) : ∃ r M1 M2, f_X11_couldBe n v w M = some (r, M1) ∧ f_X12_couldBe n v w M1 = some (r, M2) ∧ ITape M2 ∧ oth 1 M M2 := by
  obtain ⟨m, m1, m2, rfl⟩ := iI_of v
  obtain ⟨off, w1, w2, rfl⟩ := iI_of w
  obtain ⟨z, z1, z2, z3, z4, z5⟩ := id hT
  by_cases hm : ((1 ≤ m ∧ m ≤ 10) ∧ 0 ≤ off ∧ off ≤ 99) ∧ 3 * m ≤ z
  · obtain ⟨⟨⟨a1, a2⟩, a3, a4⟩, a5⟩ := hm
    obtain ⟨q, rfl⟩ : ∃ q : Nat, m = q := ⟨m.toNat, by omega⟩
    have hb : ∀ j, j < 260 → (M 2 j).toNatClampNeg < 256 ∧ M 2 j = iI ((M 2 j).toNatClampNeg : Nat) := fun j hj => by
      rw [z5 j hj]
      obtain ⟨x, x1, x2⟩ := byte_nat (M 84 j)
      rw [x2, iI_natc (by omega)]
      exact ⟨x1, rfl⟩
    have hE : ∀ k, k ≠ 1 → k ≠ 74 → hset (f_X10_empty M) 74 12 0 k = M k := fun k k1 k2 => by rw [f_X10_empty, hset_nek _ _ _ k2, hset_nek _ _ _ k1]
    have hb2 : ∀ j, j < 260 → (M 2 j).toNatClampNeg < 256 ∧ hset (f_X10_empty M) 74 12 0 84 j &&& 255 = iI ((M 2 j).toNatClampNeg : Nat) := fun j hj => by
      rw [hE 84 (by decide) (by decide), ← z5 j hj]; exact hb j hj
    have e3 : ∀ k j, grp k j = 3 → hset (f_X10_empty M) 74 12 0 k j = M k j := fun k j hg => by
      rw [hE k (fun q => by subst q; rw [show grp 1 j = if j = 1 then 1 else 0 from rfl] at hg; split at hg <;> omega) (fun q => by subst q; rw [show grp 74 j = if j = 9 then 2 else if j = 10 then 4 else if j = 12 then 1 else if j = 21 then 5 else if j = 55 then 7 else 0 from rfl] at hg; grind)]
    have c0 : f_X11_couldBe n (iI q) (iI off) M = f_X11_couldBe_L40 n (iI q) (iI off) M n 0 0 := by
      rw [f_X11_couldBe, if_neg (by rw [q1, iI_lt (by omega) (by omega) (by omega) (by omega)]; omega), if_neg (by rw [q10, iI_lt (by omega) (by omega) (by omega) (by omega)]; omega), q99, isWithin_1 a3 a4 (by omega), if_neg i10, show (3 : Int32) = iI 3 from rfl, iI_mul, has_eq z3 z1 z2 (by omega) (by omega), if_pos a5, if_neg i10]
    have d0 : f_X12_couldBe n (iI q) (iI off) (f_X10_empty M) = f_X12_couldBe_L39 n (iI q) (iI off) (hset (f_X10_empty M) 74 12 0) n 0 := by
      rw [f_X12_couldBe, q10, q1, in_1 (by omega) (by omega) (by omega) (by omega), if_neg (by decide), q99, in01 a3 a4 (by omega), if_neg (by decide), show f_X10_empty M 74 12 = iI z by rw [f_X10_empty, hset_nek _ _ _ (by decide)]; exact z4, show (3 : Int32) = iI 3 from rfl, iI_mul, if_pos (by rw [iI_le (by omega) (by omega) (by omega) (by omega)]; exact a5)]
    rw [c0]
    have cC := couldBe_C1 (n := n) (m := q) (off := iI off) hb (by omega) n 0 0 (by omega) (by omega)
    have cR := couldBe_R1 (n := n) (m := q) (off := iI off) hb2 (by omega) n 0 (by omega) (by omega)
    rw [show iI ((0 : Nat) : Int) = 0 from rfl] at cC cR
    rcases cC with ⟨g1, g2⟩ | ⟨⟨j, g1, g2, g3⟩, g4⟩
    · rcases cR with ⟨h1, h2⟩ | ⟨⟨j, h1, h2, h3⟩, h4⟩
      · obtain ⟨r, k1, k2⟩ := couldBe_outer hb hb2 hL e3 hn (show q ≤ 10 by omega) a3 a4 n 0 0 (by omega) (by decide) (by omega)
        rw [show iI ((0 : Nat) : Int) = 0 from rfl] at k1 k2
        exact ⟨r, f_X10_empty M, hset (f_X10_empty M) 74 12 0, by rw [g2, k1], by rw [d0, h2, k2], hT.clear, oth.trans (M1 := f_X10_empty M) (oth_set (k0 := 1) (j0 := 1) (v := 0) (Or.inl rfl)) (oth_set (Or.inl rfl))⟩
      · exact absurd (g1 j h1 h2) h3
    · rcases cR with ⟨h1, h2⟩ | ⟨-, h4⟩
      · exact absurd (h1 j g1 g2) g3
      · obtain ⟨n', rfl⟩ : ∃ n', n = n' + 1 := ⟨n - 1, by omega⟩
        refine ⟨-2, f_X10_empty M, hset (f_X10_empty M) 74 12 0, ?_, by rw [d0, h4], hT.clear, oth.trans (M1 := f_X10_empty M) (oth_set (k0 := 1) (j0 := 1) (v := 0) (Or.inl rfl)) (oth_set (Or.inl rfl))⟩
        rw [g4, f_X11_couldBe_L75, if_neg (by decide), if_pos rfl]
  · refine ⟨-1, M, M, ?_, ?_, hT, oth_rf _ _⟩
    · by_cases b1 : 1 ≤ m ∧ m ≤ 10
      · by_cases b2 : 0 ≤ off ∧ off ≤ 99
        · rw [f_X11_couldBe, if_neg (by rw [q1, iI_lt (by omega) (by omega) (by omega) (by omega)]; omega), if_neg (by rw [q10, iI_lt (by omega) (by omega) (by omega) (by omega)]; omega), q99, isWithin_1 b2.1 b2.2 (by omega), if_neg i10, show (3 : Int32) = iI 3 from rfl, iI_mul, has_eq z3 z1 z2 (by omega) (by omega), if_neg (fun q => hm ⟨⟨b1, b2⟩, q⟩), if_pos rfl]
        · rw [f_X11_couldBe, if_neg (by rw [q1, iI_lt (by omega) (by omega) (by omega) (by omega)]; omega), if_neg (by rw [q10, iI_lt (by omega) (by omega) (by omega) (by omega)]; omega), q99, isWithin_0 b2 w1 w2 (by omega) (by omega), if_pos rfl]
      · rw [f_X11_couldBe]
        by_cases b3 : m < 1
        · rw [if_pos (by rw [q1, iI_lt (by omega) (by omega) (by omega) (by omega)]; omega)]
        · rw [if_neg (by rw [q1, iI_lt (by omega) (by omega) (by omega) (by omega)]; omega), if_pos (by rw [q10, iI_lt (by omega) (by omega) (by omega) (by omega)]; omega)]
    · by_cases b1 : 1 ≤ m ∧ m ≤ 10
      · by_cases b2 : 0 ≤ off ∧ off ≤ 99
        · rw [f_X12_couldBe, q10, q1, in_1 (by omega) (by omega) (by omega) (by omega), if_neg (by decide), q99, in01 b2.1 b2.2 (by omega), if_neg (by decide), z4, show (3 : Int32) = iI 3 from rfl, iI_mul, if_neg (by rw [iI_le (by omega) (by omega) (by omega) (by omega)]; exact fun q => hm ⟨⟨b1, b2⟩, q⟩)]
        · rw [f_X12_couldBe, q10, q1, in_1 (by omega) (by omega) (by omega) (by omega), if_neg (by decide), q99, in00 b2 w1 w2 (by omega) (by omega), if_pos rfl]
      · rw [f_X12_couldBe, q10, q1, in_0 b1 m1 m2 (by omega) (by omega) (by omega) (by omega), if_pos rfl]

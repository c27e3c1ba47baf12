/-! THE HUNT: a hound's turn -/
def PH (o : Nat) (A B : HMem) (h : Nat) : Prop := (B 75 h = 0 ∧ A (o + 4) h = 3) ∨ (B 75 h = 1 ∧ (∃ p : Int, 0 ≤ p ∧ p < 192 ∧ A (o + 1) h = iI p ∧ B 75 (6 + h) = iI p) ∧ (∃ t : Int, 0 ≤ t ∧ t ≤ 10000 ∧ A (o + 2) h = iI t ∧ B 75 (12 + h) = iI t) ∧ (∃ f : Int, 0 ≤ f ∧ f ≤ 9 ∧ A (o + 3) h = iI f ∧ B 75 (18 + h) = iI f) ∧ (∃ q : Int, 0 ≤ q ∧ q ≤ 2 ∧ A (o + 4) h = iI q ∧ B 75 (24 + h) = iI q ∧ (q = 0 → ∃ f : Int, 0 ≤ f ∧ f ≤ 8 ∧ A (o + 3) h = iI f)))
def PQ (o : Nat) (A B : HMem) : Prop := (∃ t : Int, 0 ≤ t ∧ t ≤ 9999 ∧ A o 4 = iI t ∧ B 75 30 = iI t) ∧ (∃ x : Int, 0 ≤ x ∧ x ≤ 65535 ∧ A o 5 = iI x ∧ B 75 31 = iI x) ∧ ∀ h, h < 6 → PH o A B h
def jn (A B : HMem) : HMem := fun k => if k < 74 then A k else B k
theorem PQ_iff {o : Nat} (ho : o = 35 ∨ o = 45) (A B : HMem) : PR o 75 (jn A B) ↔ PQ o A B := by
  rcases ho with rfl | rfl <;> exact Iff.rfl
theorem PQ_of (o : Nat) (M : HMem) : PR o 75 M ↔ PQ o M M := Iff.rfl
theorem PH.cg {o : Nat} {A B A' B' : HMem} {h : Nat} (hp : PH o A B h) (eA : ∀ j, 1 ≤ j → j ≤ 4 → A' (o + j) h = A (o + j) h) (eB : ∀ a, a ≤ 4 → B' 75 (6 * a + h) = B 75 (6 * a + h)) : PH o A' B' h := by
  have b0 : B' 75 h = B 75 h := by
    have := eB 0 (by omega)
    rwa [show 6 * 0 + h = h by omega] at this
  have b1 : B' 75 (6 + h) = B 75 (6 + h) := eB 1 (by omega)
  have b2 : B' 75 (12 + h) = B 75 (12 + h) := eB 2 (by omega)
  have b3 : B' 75 (18 + h) = B 75 (18 + h) := eB 3 (by omega)
  have b4 : B' 75 (24 + h) = B 75 (24 + h) := eB 4 (by omega)
  unfold PH at hp ⊢
  rw [b0, b1, b2, b3, b4, eA 1 (by omega) (by omega), eA 2 (by omega) (by omega), eA 3 (by omega) (by omega), eA 4 (by omega) (by omega)]
  exact hp
theorem PQ.up {o h0 : Nat} {A B A' B' : HMem} (hq : PQ o A B) (e4 : A' o 4 = A o 4) (e30 : B' 75 30 = B 75 30) (hx : ∃ x : Int, 0 ≤ x ∧ x ≤ 65535 ∧ A' o 5 = iI x ∧ B' 75 31 = iI x) (eA : ∀ j i, 1 ≤ j → j ≤ 4 → i < 6 → i ≠ h0 → A' (o + j) i = A (o + j) i) (eB : ∀ a i, a ≤ 4 → i < 6 → i ≠ h0 → B' 75 (6 * a + i) = B 75 (6 * a + i)) (hh : PH o A' B' h0) : PQ o A' B' := by
  obtain ⟨⟨t, t1, t2, t3, t4⟩, -, hp⟩ := hq
  refine ⟨⟨t, t1, t2, e4.trans t3, e30.trans t4⟩, hx, fun i hi => ?_⟩
  by_cases e : i = h0
  · rw [e]; exact hh
  · exact (hp i hi).cg (fun j a b => eA j i a b hi e) (fun a b => eB a i b hi e)
def FA (o : Nat) (A A' : HMem) : Prop := ∀ k, (k < 29 ∨ 31 < k) → (k < o ∨ o + 4 < k) → A' k = A k
def FR (B B' : HMem) : Prop := (∀ k, k ≠ 74 → k ≠ 75 → k ≠ 96 → k ≠ 97 → B' k = B k) ∧ (∀ j, (j < 46 ∨ 49 < j) → B' 74 j = B 74 j) ∧ ∀ j, j < 6 → B' 75 j = B 75 j
theorem FA_rf (o : Nat) (A : HMem) : FA o A A := fun _ _ _ => rfl
theorem FA.trans {o : Nat} {A A' A2 : HMem} (h : FA o A A') (h2 : FA o A' A2) : FA o A A2 := fun k a b => (h2 k a b).trans (h k a b)
theorem FR_rf (B : HMem) : FR B B := ⟨fun _ _ _ _ _ => rfl, fun _ _ => rfl, fun _ _ => rfl⟩
theorem FR.trans {B B' B2 : HMem} (h : FR B B') (h2 : FR B' B2) : FR B B2 := ⟨fun k a b c d => (h2.1 k a b c d).trans (h.1 k a b c d), fun j a => (h2.2.1 j a).trans (h.2.1 j a), fun j a => (h2.2.2 j a).trans (h.2.2 j a)⟩
theorem FW.A {o : Nat} {A A' : HMem} (h : FW A A') : FA o A A' := fun k a _ => h k a
theorem FB.R {B B' : HMem} (h : FB B B') : FR B B' := ⟨fun k a _ b c => h.1 k a b c, h.2, fun j _ => by rw [h.1 75 (by decide) (by decide) (by decide)]⟩
theorem FA_set {o : Nat} (A : HMem) {k : Nat} (j : Nat) (v : Int32) (h : o ≤ k ∧ k ≤ o + 4) : FA o A (hset A k j v) := fun k' _ b => hset_nek _ _ _ (by omega)
theorem FR_set (B : HMem) (j : Nat) (v : Int32) (h : 6 ≤ j) : FR B (hset B 75 j v) := ⟨fun k _ a _ _ => hset_nek _ _ _ a, fun i _ => by rw [hset_nek _ _ _ (by decide)], fun i hi => hset_nej _ _ (by omega)⟩
theorem grp_o {o k : Nat} (ho : o = 35 ∨ o = 45) (hk : o ≤ k ∧ k ≤ o + 4) (j : Nat) : grp k j = 0 ∨ grp k j = 6 := by
  rcases ho with rfl | rfl
  · rcases (show k = 35 ∨ k = 36 ∨ k = 37 ∨ k = 38 ∨ k = 39 by omega) with rfl | rfl | rfl | rfl | rfl
    · have : grp 35 j = if j = 4 then 6 else if j = 5 then 6 else 0 := rfl
      rw [this]; split
      · right; rfl
      · split
        · right; rfl
        · left; rfl
    all_goals exact Or.inr rfl
  · rcases (show k = 45 ∨ k = 46 ∨ k = 47 ∨ k = 48 ∨ k = 49 by omega) with rfl | rfl | rfl | rfl | rfl
    all_goals exact Or.inl rfl
theorem FA.g {o : Nat} (ho : o = 35 ∨ o = 45) {A A' : HMem} (h : FA o A A') : ∀ k j, grp k j ≠ 0 → grp k j ≠ 6 → A' k j = A k j := fun k j a b => by
  by_cases hk : 29 ≤ k ∧ k ≤ 31
  · exact absurd (grp_29 hk) a
  · by_cases h2 : o ≤ k ∧ k ≤ o + 4
    · rcases grp_o ho h2 j with z | z
      · exact absurd z a
      · exact absurd z b
    · rw [h k (by omega) (by omega)]
theorem FR.g {B B' : HMem} (h : FR B B') : ∀ k j, grp k j ≠ 0 → grp k j ≠ 6 → B' k j = B k j := fun k j a b => by
  by_cases k1 : k = 96
  · subst k1; exact absurd rfl a
  · by_cases k2 : k = 97
    · subst k2; exact absurd rfl a
    · by_cases k4 : k = 75
      · subst k4; exact absurd rfl b
      · by_cases k3 : k = 74
        · subst k3
          refine h.2.1 j ?_
          have : grp 74 j = if j = 9 then 2 else if j = 10 then 4 else if j = 12 then 1 else if j = 21 then 5 else if j = 55 then 7 else 0 := rfl
          rw [this] at a
          by_cases z : j < 46 ∨ 49 < j
          · exact z
          · rw [if_neg (by omega), if_neg (by omega), if_neg (by omega), if_neg (by omega), if_neg (by omega)] at a
            exact absurd rfl a
        · rw [h.1 k k3 k4 k1 k2]
theorem mod_n {a d : Nat} (ha : a < 2147483648) (h0 : 0 < d) (hd : d < 2147483648) : iI (a : Int) - iI (a : Int) / iI (d : Int) * iI (d : Int) = iI ((a % d : Nat) : Int) := by
  have h := pk_div (a := a) (d := d) ha h0 hd
  rw [nI_iI, nI_iI, nI_iI] at h
  rw [h, iI_mul, iI_sub]
  congr 1
  have := Nat.div_add_mod a d
  have e : ((a / d : Nat) : Int) * (d : Int) = ((d * (a / d) : Nat) : Int) := by rw [Nat.mul_comm]; exact (Int.natCast_mul _ _).symm
  rw [e]
  omega
theorem draw_x {x : Nat} (hx : x ≤ 65535) : (25173 * iI (x : Int) + 13849) - (25173 * iI (x : Int) + 13849) / 65536 * 65536 = iI (((25173 * x + 13849) % 65536 : Nat) : Int) := by
  have e : 25173 * iI (x : Int) + 13849 = iI ((25173 * x + 13849 : Nat) : Int) := by
    rw [show (25173 : Int32) = iI 25173 from rfl, show (13849 : Int32) = iI 13849 from rfl, iI_mul, iI_add]
    congr 1
  rw [e]
  exact mod_n (d := 65536) (by omega) (by omega) (by omega)
theorem draw_10 {x : Nat} (hx : x ≤ 65535) : iI (x : Int) - iI (x : Int) / 10 * 10 = iI ((x % 10 : Nat) : Int) := mod_n (d := 10) (by omega) (by omega) (by omega)
theorem in5 {h : Nat} (hh : h < 6) : f_X11_isWithin (iI (h : Int)) 5 = 1 := isWithin_1 (m := 5) (by omega) (by omega) (by omega)
theorem hib6 {h : Nat} (hh : h < 6) : hib (iI (h : Int)) 6 = true := hib_t (by omega) (by omega) (by omega)
theorem fault_J {o h : Nat} {A B : HMem} {f : Int} (hh : h < 6) (f0 : 0 ≤ f) (f8 : f ≤ 8) (a3 : A (o + 3) h = iI f) (b18 : B 75 (18 + h) = iI f) : ∃ A' B', f_X8_addFault o (iI h) A = some A' ∧ f_X12_isAtFault (iI h) B = some B' ∧ (∀ k, k ≠ o + 3 → k ≠ o + 4 → A' k = A k) ∧ (∀ i, i ≠ h → A' (o + 3) i = A (o + 3) i ∧ A' (o + 4) i = A (o + 4) i) ∧ (∀ k, k ≠ 75 → B' k = B k) ∧ (∀ j, j ≠ 18 + h → j ≠ 24 + h → B' 75 j = B 75 j) ∧ A' (o + 3) h = iI (f + 1) ∧ B' 75 (18 + h) = iI (f + 1) ∧ ((f + 1 ≤ 8 ∧ A' (o + 4) h = A (o + 4) h ∧ B' 75 (24 + h) = B 75 (24 + h)) ∨ (f + 1 = 9 ∧ A' (o + 4) h = 2 ∧ B' 75 (24 + h) = 2)) := by
  obtain ⟨e1, e2⟩ := i18 hh 18 (by omega)
  have e1' : hib (18 + iI (h : Int)) 32 = true := e1
  have e2' : (18 + iI (h : Int)).toNatClampNeg = 18 + h := e2
  obtain ⟨e3, e4⟩ := i18 hh 24 (by omega)
  have e3' : hib (24 + iI (h : Int)) 32 = true := e3
  have e4' : (24 + iI (h : Int)).toNatClampNeg = 24 + h := e4
  have eA : f_X8_addFault o (iI h) A = (if iI (f + 1) < 9 then some (hset A (o + 3) h (iI (f + 1))) else some (hset (hset A (o + 3) h (iI (f + 1))) (o + 4) h 2)) := by
    rw [f_X8_addFault, in5 hh, if_neg i10, hib6 hh, if_pos rfl, if_pos rfl, hb1_some, if_pos rfl, if_pos rfl, iI_natc (k := h) (by omega), a3, q1, iI_add, hset_self]
  have eB : f_X12_isAtFault (iI h) B = (if iI (f + 1) < 9 then some (hset B 75 (18 + h) (iI (f + 1))) else some (hset (hset B 75 (18 + h) (iI (f + 1))) 75 (24 + h) 2)) := by
    rw [f_X12_isAtFault, e1', if_pos rfl, if_pos rfl, hb1_some, if_pos rfl, e3', if_pos rfl, e4', e2', b18, q1, iI_add, hset_self]
  rw [eA, eB]
  by_cases z : f + 1 ≤ 8
  · rw [if_pos (show iI (f + 1) < 9 from lt_i (b := 9) (by omega) (by omega) (by omega)), if_pos (show iI (f + 1) < 9 from lt_i (b := 9) (by omega) (by omega) (by omega))]
    exact ⟨_, _, rfl, rfl, fun k a _ => hset_nek _ _ _ a, fun i hi => ⟨hset_nej _ _ hi, by rw [hset_nek _ _ _ (by omega)]⟩, fun k a => hset_nek _ _ _ a, fun j a _ => hset_nej _ _ a, hset_self _ _ _ _, hset_self _ _ _ _, Or.inl ⟨z, by rw [hset_nek _ _ _ (by omega)], hset_nej _ _ (by omega)⟩⟩
  · rw [if_neg (show ¬ iI (f + 1) < 9 from nlt_i (b := 9) (by omega) (by omega) (by omega)), if_neg (show ¬ iI (f + 1) < 9 from nlt_i (b := 9) (by omega) (by omega) (by omega))]
    exact ⟨_, _, rfl, rfl, fun k a b => by rw [hset_nek _ _ _ b, hset_nek _ _ _ a], fun i hi => ⟨by rw [hset_nek _ _ _ (by omega), hset_nej _ _ hi], by rw [hset_nej _ _ hi, hset_nek _ _ _ (by omega)]⟩, fun k a => by rw [hset_nek _ _ _ a, hset_nek _ _ _ a], fun j a b => by rw [hset_nej _ _ b, hset_nej _ _ a], by rw [hset_nek _ _ _ (by omega), hset_self], by rw [hset_nej _ _ (by omega), hset_self], Or.inr ⟨by omega, hset_self _ _ _ _, hset_self _ _ _ _⟩⟩
/-- a fault, over memories where the pack stands as it did but for X -/
theorem fault_Q {o h : Nat} {A B A1 B1 : HMem} {f : Int} (ho : o = 35 ∨ o = 45) (hh : h < 6) (hQ : PQ o A B) (f0 : 0 ≤ f) (f8 : f ≤ 8) (a3 : A (o + 3) h = iI f) (b18 : B 75 (18 + h) = iI f) (a4 : A (o + 4) h = 0) (hA : ∀ j, 1 ≤ j → j ≤ 4 → A1 (o + j) = A (o + j)) (h4 : A1 o 4 = A o 4) (hB : ∀ j, j ≠ 31 → B1 75 j = B 75 j) (hx : ∃ x : Int, 0 ≤ x ∧ x ≤ 65535 ∧ A1 o 5 = iI x ∧ B1 75 31 = iI x) : ∃ A' B', f_X8_addFault o (iI h) A1 = some A' ∧ f_X12_isAtFault (iI h) B1 = some B' ∧ FA o A1 A' ∧ FR B1 B' ∧ PQ o A' B' ∧ A' o 4 = A1 o 4 := by
  obtain ⟨A', B', g1, g2, g3, g4, g5, g6, g7, g8, g9⟩ := fault_J (A := A1) (B := B1) hh f0 f8 (by rw [hA 3 (by omega) (by omega)]; exact a3) (by rw [hB _ (by omega)]; exact b18)
  have hp := hQ.2.2 h hh
  refine ⟨A', B', g1, g2, fun k _ b => g3 k (by omega) (by omega), ⟨fun k _ a _ _ => g5 k a, fun j _ => by rw [g5 74 (by decide)], fun j hj => g6 j (by omega) (by omega)⟩, ?_, by rw [g3 o (by omega) (by omega)]⟩
  refine PQ.up (h0 := h) hQ ?_ ?_ ?_ (fun j i j1 j4 hi hne => ?_) (fun a i ha hi hne => ?_) ?_
  · rw [g3 o (by omega) (by omega)]; exact h4
  · rw [g6 30 (by omega) (by omega)]; exact hB 30 (by omega)
  · obtain ⟨x, x1, x2, x3, x4⟩ := hx
    exact ⟨x, x1, x2, by rw [g3 o (by omega) (by omega)]; exact x3, by rw [g6 31 (by omega) (by omega)]; exact x4⟩
  · rcases (show j = 1 ∨ j = 2 ∨ j = 3 ∨ j = 4 by omega) with rfl | rfl | rfl | rfl
    · rw [g3 (o + 1) (by omega) (by omega), hA 1 (by omega) (by omega)]
    · rw [g3 (o + 2) (by omega) (by omega), hA 2 (by omega) (by omega)]
    · rw [(g4 i hne).1, hA 3 (by omega) (by omega)]
    · rw [(g4 i hne).2, hA 4 (by omega) (by omega)]
  · rw [g6 _ (by omega) (by omega), hB _ (by omega)]
  · rcases hp with ⟨p1, p2⟩ | ⟨p1, ⟨p, p2, p3, p4, p5⟩, ⟨t, t1, t2, t3, t4⟩, ⟨f', f1, f2, f3, f4⟩, ⟨q, q1, q2, q3, q4, q5⟩⟩
    · rw [a4] at p2; exact absurd p2 (by decide)
    · refine Or.inr ⟨?_, ⟨p, p2, p3, ?_, ?_⟩, ⟨t, t1, t2, ?_, ?_⟩, ⟨f + 1, by omega, by omega, g7, g8⟩, ?_⟩
      · rw [g6 h (by omega) (by omega), hB h (by omega)]; exact p1
      · rw [g3 (o + 1) (by omega) (by omega), hA 1 (by omega) (by omega)]; exact p4
      · rw [g6 (6 + h) (by omega) (by omega), hB _ (by omega)]; exact p5
      · rw [g3 (o + 2) (by omega) (by omega), hA 2 (by omega) (by omega)]; exact t3
      · rw [g6 (12 + h) (by omega) (by omega), hB _ (by omega)]; exact t4
      · rcases g9 with ⟨z1, z2, z3⟩ | ⟨z1, z2, z3⟩
        · exact ⟨q, q1, q2, by rw [z2, hA 4 (by omega) (by omega)]; exact q3, by rw [z3, hB _ (by omega)]; exact q4, fun _ => ⟨f + 1, by omega, z1, g7⟩⟩
        · exact ⟨2, by omega, by omega, z2, z3, fun z => absurd z (by omega)⟩

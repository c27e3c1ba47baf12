/-! THE HUNT: the reference asks for scents -/
def XB (B0 : HMem) (N h P : Nat) (T C f : Int) (n5 n7 : Int32) (nh : Nat → Int32) : Prop := h < 6 ∧ P < 192 ∧ 0 ≤ T ∧ T ≤ 10000 ∧ ILand B0 ∧ SC B0 C f ∧ B0 75 (6 + h) = iI (P : Int) ∧ B0 75 (12 + h) = iI T ∧ B0 75 (18 + h) = n5 ∧ n7 = iI C - iI C / 100 * 100 ∧ ∀ p : Nat, p < 192 → f_X12_houndsAt N (iI (p : Int)) B0 = some (nh p)
def FB (B B' : HMem) : Prop := (∀ k, k ≠ 74 → k ≠ 96 → k ≠ 97 → B' k = B k) ∧ ∀ j, (j < 46 ∨ 49 < j) → B' 74 j = B 74 j
theorem FB_rf (B : HMem) : FB B B := ⟨fun _ _ _ _ => rfl, fun _ _ => rfl⟩
theorem FB.trans {B B' B2 : HMem} (h : FB B B') (h2 : FB B' B2) : FB B B2 := ⟨fun k a b c => (h2.1 k a b c).trans (h.1 k a b c), fun j a => (h2.2 j a).trans (h.2 j a)⟩
theorem FB_of {B B' : HMem} (h : ∀ k, k ≠ 96 → k ≠ 97 → B' k = B k) : FB B B' := ⟨fun k _ a b => h k a b, fun j _ => by rw [h 74 (by decide) (by decide)]⟩
theorem FB.g {B B' : HMem} (h : FB B B') : ∀ k j, grp k j ≠ 0 → B' k j = B k j := fun k j a => by
  by_cases k1 : k = 96
  · subst k1; exact absurd rfl a
  · by_cases k2 : k = 97
    · subst k2; exact absurd rfl a
    · by_cases k3 : k = 74
      · subst k3
        refine h.2 j ?_
        have : grp 74 j = if j = 9 then 2 else if j = 10 then 4 else if j = 12 then 1 else if j = 21 then 5 else if j = 55 then 7 else 0 := rfl
        rw [this] at a
        by_cases z : j < 46 ∨ 49 < j
        · exact z
        · rw [if_neg (by omega), if_neg (by omega), if_neg (by omega), if_neg (by omega), if_neg (by omega)] at a
          exact absurd rfl a
      · rw [h.1 k k3 k1 k2]
theorem FB.sc {B B' : HMem} {C f : Int} (h : FB B B') (hS : SC B C f) : SC B' C f := by
  unfold SC at hS ⊢
  rw [h.1 3 (by decide) (by decide) (by decide), h.2 9 (by omega), h.1 75 (by decide) (by decide) (by decide)]
  exact hS
def fE (n : Nat) (v1 : Int32) (M : HMem) : Option HMem := if hib (18 + v1) 32 then hb1 (some (hset (hset M 97 0 v1) 97 5 ((hset M 97 0 v1) 75 (Int32.toNatClampNeg (18 + v1))))) (fun M101 => if hib (6 + v1) 32 then hb1 (f_X12_houndsAt n (M101 75 (Int32.toNatClampNeg (6 + v1))) M101) (fun x102 => some (hset (hset M101 97 6 x102) 97 7 (((hset M101 97 6 x102) 75 30) - ((hset M101 97 6 x102) 75 30) / 100 * 100))) else none) else none
theorem feels_L {N : Nat} {v : Int32} : ∀ (k i : Nat) (B : HMem), i ≤ 8 → 8 - i < k → ∃ B', f_X12_feels_L2 N v k (iI i) B = fE N v B' ∧ (∀ q, q ≠ 97 → B' q = B q) ∧ (∀ q, i ≤ q → q < 8 → B' 97 q = 0) ∧ (∀ q, q < i → B' 97 q = B 97 q) := by
  intro k
  induction k with
  | zero => intro i _ _ h; exfalso; omega
  | succ k ih =>
    intro i B hi hk
    by_cases e : i = 8
    · subst e
      exact ⟨B, by rw [f_X12_feels_L2, if_pos (by decide)]; rfl, fun _ _ => rfl, fun q a b => absurd a (by omega), fun _ _ => rfl⟩
    · have x : ¬ (8 : Int32) ≤ iI (i : Int) := nl_i (a := 8) (by omega) (by omega) (by omega)
      obtain ⟨B', g1, g2, g3, g4⟩ := ih (i + 1) (hset B 97 i 0) (by omega) (by omega)
      refine ⟨B', ?_, fun q hq => by rw [g2 q hq, hset_nek _ _ _ hq], fun q a b => ?_, fun q a => ?_⟩
      · rw [f_X12_feels_L2, if_neg x, hib_t (n := 8) (by omega) (by omega) (by omega), if_pos rfl, iI_natc (k := i) (by omega), iI_s]; exact g1
      · by_cases z : q = i
        · subst z; rw [g4 q (by omega), hset_self]
        · exact g3 q (by omega) b
      · rw [g4 q (by omega), hset_nej _ _ (by omega)]
theorem i18 {h : Nat} (hh : h < 6) (a : Nat) (ha : a ≤ 26) : hib (iI (a : Int) + iI (h : Int)) 32 = true ∧ (iI (a : Int) + iI (h : Int)).toNatClampNeg = a + h := by
  rw [iI_add, show (a : Int) + (h : Int) = ((a + h : Nat) : Int) by omega]
  exact ⟨hib_t (by omega) (by omega) (by omega), iI_natc (by omega)⟩
theorem feels_eq {N h : Nat} {B : HMem} {n6 : Int32} (hN : 300 ≤ N) (hh : h < 6) (hn : f_X12_houndsAt N (B 75 (6 + h)) B = some n6) : ∃ B', f_X12_feels N (iI h) B = some B' ∧ (∀ q, q ≠ 97 → B' q = B q) ∧ B' 97 0 = iI h ∧ B' 97 1 = 0 ∧ B' 97 2 = 0 ∧ B' 97 3 = 0 ∧ B' 97 4 = 0 ∧ B' 97 5 = B 75 (18 + h) ∧ B' 97 6 = n6 ∧ B' 97 7 = B 75 30 - B 75 30 / 100 * 100 := by
  obtain ⟨B1, g1, g2, g3, -⟩ := feels_L (N := N) (v := iI h) N 0 B (by omega) (by omega)
  obtain ⟨e1, e2⟩ := i18 hh 18 (by omega)
  obtain ⟨e3, e4⟩ := i18 hh 6 (by omega)
  have e1' : hib (18 + iI (h : Int)) 32 = true := e1
  have e2' : (18 + iI (h : Int)).toNatClampNeg = 18 + h := e2
  have e3' : hib (6 + iI (h : Int)) 32 = true := e3
  have e4' : (6 + iI (h : Int)).toNatClampNeg = 6 + h := e4
  have hn1 : ∀ x y : Int32, f_X12_houndsAt N (B 75 (6 + h)) (hset (hset B1 97 0 x) 97 5 y) = some n6 := fun x y => by
    rw [← hn]; exact hAtR_cg (by rw [hset_nek _ _ _ (by decide), hset_nek _ _ _ (by decide), g2 75 (by decide)])
  refine ⟨hset (hset (hset (hset B1 97 0 (iI h)) 97 5 (B 75 (18 + h))) 97 6 n6) 97 7 (B 75 30 - B 75 30 / 100 * 100), ?_, fun q hq => ?_, ?_, ?_, ?_, ?_, ?_, ?_, ?_, ?_⟩
  · rw [show f_X12_feels N (iI h) B = fE N (iI h) B1 from g1, fE, e1', if_pos rfl, e2', hb1_some, e3', if_pos rfl, e4', hset_nek _ _ _ (show (75 : Nat) ≠ 97 by decide), hset_nek _ _ _ (show (75 : Nat) ≠ 97 by decide), g2 75 (by decide), hn1, hb1_some, hset_nek _ _ _ (show (75 : Nat) ≠ 97 by decide), hset_nek _ _ _ (show (75 : Nat) ≠ 97 by decide), hset_nek _ _ _ (show (75 : Nat) ≠ 97 by decide), g2 75 (by decide)]
  · rw [hset_nek _ _ _ hq, hset_nek _ _ _ hq, hset_nek _ _ _ hq, hset_nek _ _ _ hq, g2 q hq]
  · rw [hset_nej _ _ (by decide), hset_nej _ _ (by decide), hset_nej _ _ (by decide), hset_self]
  · rw [hset_nej _ _ (by decide), hset_nej _ _ (by decide), hset_nej _ _ (by decide), hset_nej _ _ (by decide), g3 1 (by omega) (by omega)]
  · rw [hset_nej _ _ (by decide), hset_nej _ _ (by decide), hset_nej _ _ (by decide), hset_nej _ _ (by decide), g3 2 (by omega) (by omega)]
  · rw [hset_nej _ _ (by decide), hset_nej _ _ (by decide), hset_nej _ _ (by decide), hset_nej _ _ (by decide), g3 3 (by omega) (by omega)]
  · rw [hset_nej _ _ (by decide), hset_nej _ _ (by decide), hset_nej _ _ (by decide), hset_nej _ _ (by decide), g3 4 (by omega) (by omega)]
  · rw [hset_nej _ _ (by decide), hset_nej _ _ (by decide), hset_self]
  · rw [hset_nej _ _ (by decide), hset_self]
  · rw [hset_self]
theorem i97 {c i : Nat} (hc : c < 8) (hi : i ≤ 96) : hib (97 * iI (c : Int) + iI (i : Int)) 776 = true ∧ (97 * iI (c : Int) + iI (i : Int)).toNatClampNeg = 97 * c + i := by
  rw [q97, iI_mul, iI_add, show (97 : Int) * (c : Int) + (i : Int) = ((97 * c + i : Nat) : Int) by omega]
  exact ⟨hib_t (by omega) (by omega) (by omega), iI_natc (by omega)⟩
theorem feelsS_eq {B0 B : HMem} {N h c P i : Nat} {T C f fr ln : Int} {n5 n7 : Int32} {nh : Nat → Int32} (hN : 300 ≤ N) (hX : XB B0 N h P T C f n5 n7 nh) (hL : LN B0 c fr ln) (hi : (i : Int) ≤ ln) (s0 : 0 < st C f (fr + (i : Int))) (w1 : kd B0 (pl B0 c i) ≠ 1) (hF : FB B0 B) : ∃ B', f_X12_feelsScent N (iI h) (iI c) (iI i) B = some B' ∧ (∀ q, q ≠ 97 → B' q = B q) ∧ ∀ q, q < 8 → B' 97 q = fcs h c C f T fr n5 (nh (pl B0 c i)) n7 i q := by
  obtain ⟨hh, hP, hT0, hT1, hD, hS, x6, x12, x18, x7, xn⟩ := id hX
  have r := hL.rg
  have c8 := hL.c8
  have hp := hL.pb hi
  have b75 : B 75 = B0 75 := hF.1 75 (by decide) (by decide) (by decide)
  obtain ⟨M1, g1, g2, g3, g4, g5, g6, g7, g8, g9, g10⟩ := feels_eq (B := B) (n6 := nh P) hN hh (by rw [b75, x6, ← xn P hP]; exact hAtR_cg b75)
  obtain ⟨e1, e2⟩ := i18 hh 12 (by omega)
  have e1' : hib (12 + iI (h : Int)) 32 = true := e1
  have e2' : (12 + iI (h : Int)).toNatClampNeg = 12 + h := e2
  obtain ⟨e3, e4⟩ := i97 (c := c) (i := i) c8 (by omega)
  have f1 : FB B0 M1 := hF.trans (FB_of (fun k _ a => g2 k a))
  have m79 : M1 79 c = iI fr := by rw [f1.1 79 (by decide) (by decide) (by decide)]; exact hL.cf.2.2.2
  have m75 : M1 75 = B0 75 := f1.1 75 (by decide) (by decide) (by decide)
  have hC : B0 75 30 = iI C := hS.2.2.2.2.2.2
  obtain ⟨M2, hM2⟩ : ∃ M2, M2 = hset (hset M1 97 1 (iI (c : Int))) 97 2 (iI (C - (fr + (i : Int)))) := ⟨_, rfl⟩
  have n2 : ∀ k, k ≠ 97 → M2 k = M1 k := fun k hk => by rw [hM2, hset_nek _ _ _ hk, hset_nek _ _ _ hk]
  have f2 : FB B0 M2 := f1.trans (FB_of (fun k _ a => n2 k a))
  have sE : f_X12_strengthOf (iI c) (iI i) M2 = some (iI (st C f (fr + (i : Int)))) := by
    rw [strengthOf_eq (f2.sc hS) (hD.congr (fun k j e => f2.g k j (by omega))) (hL.congr (fun k j e => f2.g k j (by omega))) hi, sp]
    have k6 : M2 6 = B0 6 := f2.1 6 (by decide) (by decide) (by decide)
    have kp : pl M2 c i = pl B0 c i := by simp only [pl, f2.1 (52 + 3 * c) (by omega) (by omega) (by omega)]
    rw [show kd M2 (pl M2 c i) = kd B0 (pl B0 c i) by rw [kp]; simp only [kd, k6], if_neg w1, show max 0 (st C f (fr + (i : Int))) = st C f (fr + (i : Int)) by omega]
  obtain ⟨M4, hM4⟩ : ∃ M4, M4 = hset (hset M2 97 3 (iI (st C f (fr + (i : Int))))) 97 4 (iI (T - (fr + (i : Int)))) := ⟨_, rfl⟩
  have n4 : ∀ k, k ≠ 97 → M4 k = M1 k := fun k hk => by rw [hM4, hset_nek _ _ _ hk, hset_nek _ _ _ hk, n2 k hk]
  have m81 : M4 81 (97 * c + i) = iI (pl B0 c i : Int) := by rw [n4 81 (by decide), f1.1 81 (by decide) (by decide) (by decide)]; exact (hL.p1 hi).2
  have hn : f_X12_houndsAt N (iI (pl B0 c i : Int)) M4 = some (nh (pl B0 c i)) := by rw [← xn _ hp]; exact hAtR_cg (by rw [n4 75 (by decide), m75])
  refine ⟨hset M4 97 6 (nh (pl B0 c i)), ?_, fun q hq => by rw [hset_nek _ _ _ hq, n4 q hq, g2 q hq], fun q hq => ?_⟩
  · rw [f_X12_feelsScent, g1, hb1_some, hib_t (n := 8) (by omega) (by omega) (by omega), if_pos rfl, iI_natc (k := c) (by omega), m79, iI_add, hset_nek _ _ _ (show (75 : Nat) ≠ 97 by decide), m75, hC, iI_sub, hb1_some, ← hM2, sE, hb1_some, e1', if_pos rfl, e2', hset_nek _ _ _ (show (75 : Nat) ≠ 97 by decide), n2 75 (by decide), m75, x12, iI_sub, hb1_some, ← hM4, e3, if_pos rfl, e4, m81, hn, hb1_some]
  · rcases (show q = 0 ∨ q = 1 ∨ q = 2 ∨ q = 3 ∨ q = 4 ∨ q = 5 ∨ q = 6 ∨ q = 7 by omega) with rfl | rfl | rfl | rfl | rfl | rfl | rfl | rfl
    · rw [hset_nej _ _ (by decide), hM4, hset_nej _ _ (by decide), hset_nej _ _ (by decide), hM2, hset_nej _ _ (by decide), hset_nej _ _ (by decide), g3]; rfl
    · rw [hset_nej _ _ (by decide), hM4, hset_nej _ _ (by decide), hset_nej _ _ (by decide), hM2, hset_nej _ _ (by decide), hset_self]; rfl
    · rw [hset_nej _ _ (by decide), hM4, hset_nej _ _ (by decide), hset_nej _ _ (by decide), hM2, hset_self]; rfl
    · rw [hset_nej _ _ (by decide), hM4, hset_nej _ _ (by decide), hset_self]; rfl
    · rw [hset_nej _ _ (by decide), hM4, hset_self]; rfl
    · rw [hset_nej _ _ (by decide), hM4, hset_nej _ _ (by decide), hset_nej _ _ (by decide), hM2, hset_nej _ _ (by decide), hset_nej _ _ (by decide), g8, b75, x18]; rfl
    · rw [hset_self]; rfl
    · rw [hset_nej _ _ (by decide), hM4, hset_nej _ _ (by decide), hset_nej _ _ (by decide), hM2, hset_nej _ _ (by decide), hset_nej _ _ (by decide), g10, b75, hC, x7]; rfl
def WRp (B0 : HMem) (N h c : Nat) (C f T fr ln : Int) (n5 n7 : Int32) (nh : Nat → Int32) (W : Nat → Int) : Prop := ∀ i : Nat, (i : Int) ≤ ln → 0 ≤ W i ∧ W i ≤ 9999 ∧ ∀ B, FB B0 B → (∀ q, q < 8 → B 97 q = fcs h c C f T fr n5 (nh (pl B0 c i)) n7 i q) → ∃ B', f_X12_byLaw N 101 9999 B = some (iI (W i), B') ∧ ∀ q, q ≠ 96 → B' q = B q
theorem asks_L {B0 : HMem} {N h c P q : Nat} {T C f fr ln s : Int} {n5 n7 : Int32} {nh : Nat → Int32} {W : Nat → Int} (hN : 300 ≤ N) (hX : XB B0 N h P T C f n5 n7 nh) (hL : LN B0 c fr ln) (hW : WRp B0 N h c C f T fr ln n5 n7 nh W) (hq : q < 192) (s1 : 0 ≤ s) (s2 : s ≤ 4) (hsq : ∀ p, p < 192 → (p = q ↔ wy P p = s)) : ∀ (k i : Nat) (B : HMem) (κ cr : Int), (i : Int) ≤ ln + 1 → ln + 1 - (i : Int) < k → FB B0 B → BC (B 74) 46 κ cr → ∃ B' κ', f_X12_asksScents_L3 N (iI h) (iI c) (iI q) (iI s) k (iI i) B = some B' ∧ FB B0 B' ∧ TOP (kyf C f T fr P (kd B0) (pl B0 c) W) (fun j => i ≤ j ∧ (j : Int) ≤ ln ∧ wy P (pl B0 c j) = s) κ κ' ∧ BC (B' 74) 46 κ' (if κ < κ' then (c : Int) else cr) := by
  obtain ⟨hh, hP, hT0, hT1, hD, hS, x6, x12, x18, x7, xn⟩ := id hX
  have r := hL.rg
  have c8 := hL.c8
  intro k
  induction k with
  | zero => intro i _ _ _ _ h; exfalso; omega
  | succ k ih =>
    intro i B κ cr hi hk hF hB
    have hc : hib (iI (c : Int)) 8 = true := hib_t (by omega) (by omega) (by omega)
    have b78 : B 78 c = iI ln := by rw [hF.1 78 (by decide) (by decide) (by decide)]; exact hL.cf.2.2.1
    by_cases e : (i : Int) = ln + 1
    · refine ⟨B, κ, ?_, hF, TOP.nil hB.nn (fun j hj => absurd hj (by intro ⟨a, b, _⟩; omega)), by rw [if_neg (by omega)]; exact hB⟩
      rw [f_X12_asksScents_L3, hc, if_pos rfl, iI_natc (k := c) (by omega), b78, if_pos (lt_i (by omega) (by omega) (by omega))]
    · have hil : (i : Int) ≤ ln := by omega
      have hp := hL.pb hil
      have fin : ∀ B1 κ1, FB B0 B1 → TOP (kyf C f T fr P (kd B0) (pl B0 c) W) (fun j => j = i ∧ wy P (pl B0 c j) = s) κ κ1 → BC (B1 74) 46 κ1 (if κ < κ1 then (c : Int) else cr) → ∃ B' κ', f_X12_asksScents_L3 N (iI h) (iI c) (iI q) (iI s) k (iI (i : Int) + 1) B1 = some B' ∧ FB B0 B' ∧ TOP (kyf C f T fr P (kd B0) (pl B0 c) W) (fun j => i ≤ j ∧ (j : Int) ≤ ln ∧ wy P (pl B0 c j) = s) κ κ' ∧ BC (B' 74) 46 κ' (if κ < κ' then (c : Int) else cr) := by
        intro B1 κ1 f1 f3 f4
        obtain ⟨B', κ', g1, g2, g4, g5⟩ := ih (i + 1) B1 κ1 _ (by omega) (by omega) f1 f4
        refine ⟨B', κ', by rw [iI_s]; exact g1, g2, f3.join g4 (fun j => ?_), ?_⟩
        · show i ≤ j ∧ (j : Int) ≤ ln ∧ wy P (pl B0 c j) = s ↔ (j = i ∧ wy P (pl B0 c j) = s) ∨ (i + 1 ≤ j ∧ (j : Int) ≤ ln ∧ wy P (pl B0 c j) = s)
          omega
        · have h1 := f3.1
          have h2 := g4.1
          by_cases a : κ1 < κ'
          · rw [if_pos a] at g5
            rw [if_pos (by omega)]; exact g5
          · rw [if_neg a] at g5
            obtain rfl : κ' = κ1 := by omega
            exact g5
      have skip : kyf C f T fr P (kd B0) (pl B0 c) W i = 0 → ∃ B' κ', f_X12_asksScents_L3 N (iI h) (iI c) (iI q) (iI s) k (iI (i : Int) + 1) B = some B' ∧ FB B0 B' ∧ TOP (kyf C f T fr P (kd B0) (pl B0 c) W) (fun j => i ≤ j ∧ (j : Int) ≤ ln ∧ wy P (pl B0 c j) = s) κ κ' ∧ BC (B' 74) 46 κ' (if κ < κ' then (c : Int) else cr) := fun z =>
        fin B κ hF (TOP.nil hB.nn (fun j hj => by rw [hj.1]; exact z)) (by rw [if_neg (by omega)]; exact hB)
      obtain ⟨e3, e4⟩ := i97 (c := c) (i := i) c8 (by omega)
      obtain ⟨e1, e2⟩ := i18 hh 12 (by omega)
      have e1' : hib (12 + iI (h : Int)) 32 = true := e1
      have e2' : (12 + iI (h : Int)).toNatClampNeg = 12 + h := e2
      have b81 : B 81 (97 * c + i) = iI (pl B0 c i : Int) := by rw [hF.1 81 (by decide) (by decide) (by decide)]; exact (hL.p1 hil).2
      have b75 : B 75 = B0 75 := hF.1 75 (by decide) (by decide) (by decide)
      have b79 : B 79 c = iI fr := by rw [hF.1 79 (by decide) (by decide) (by decide)]; exact hL.cf.2.2.2
      rw [f_X12_asksScents_L3, hc, if_pos rfl, iI_natc (k := c) (by omega), b78, if_neg (nlt_i (by omega) (by omega) (by omega)), if_pos rfl, e3, if_pos rfl, e4, b81]
      by_cases pq : pl B0 c i = q
      · have ws : wy P (pl B0 c i) = s := (hsq _ hp).mp pq
        rw [if_pos (by rw [pq]), e1', if_pos rfl, e2', b75, x12, b79, iI_add]
        by_cases t1 : T ≤ fr + (i : Int)
        · rw [if_pos (le_i t1 (by omega) (by omega))]
          exact skip (kyf_0 (Or.inr t1))
        · rw [if_neg (nl_i (by omega) (by omega) (by omega))]
          have sE := strengthOf_eq (hF.sc hS) (hD.congr (fun k j e => hF.g k j (by omega))) (hL.congr (fun k j e => hF.g k j (by omega))) hil
          have k6 : B 6 = B0 6 := hF.1 6 (by decide) (by decide) (by decide)
          have kp : pl B c i = pl B0 c i := by simp only [pl, hF.1 (52 + 3 * c) (by omega) (by omega) (by omega)]
          have srg := st_rg (T := C) (f := f) (t := fr + (i : Int)) hS.1 hS.2.1 hS.2.2.1 hS.2.2.2.1 (by omega)
          rw [sE, hb1_some, sp, show kd B (pl B c i) = kd B0 (pl B0 c i) by rw [kp]; simp only [kd, k6]]
          by_cases w1 : kd B0 (pl B0 c i) = 1
          · rw [if_pos w1, if_pos (by rfl)]
            exact skip (by rw [kyf, if_neg (by omega)])
          · rw [if_neg w1]
            by_cases s0 : 0 < st C f (fr + (i : Int))
            · have n0 : ¬ iI (max 0 (st C f (fr + (i : Int)))) = 0 := ne_i (b := 0) (by omega) (by omega) (by omega) (by omega) (by omega)
              obtain ⟨M1, g1, g2, g3⟩ := feelsS_eq hN hX hL hil s0 w1 hF
              have f1 : FB B0 M1 := hF.trans (FB_of (fun k _ a => g2 k a))
              obtain ⟨W0, W1, hWm⟩ := hW i hil
              obtain ⟨M2, u1, u2⟩ := hWm M1 f1 g3
              have f2 : FB B0 M2 := f1.trans (FB_of (fun k a _ => u2 k a))
              have m74 : M2 74 = B 74 := by rw [u2 74 (by decide), g2 74 (by decide)]
              have B2 : BC (M2 74) 46 κ cr := by rw [m74]; exact hB
              have bt := better_R (w := W i) (t := fr + (i : Int)) (s := s) B2 W0 W1 (by omega) (by omega) s1 s2
              have kE2 : kyf C f T fr P (kd B0) (pl B0 c) W i = KY (W i) (fr + (i : Int)) s := by rw [kyf, if_pos ⟨by omega, s0, w1, by omega⟩, ws]
              rw [if_neg n0, g1, hb1_some, u1, hb2_some, bt]
              by_cases b : κ < KY (W i) (fr + (i : Int)) s
              · rw [if_pos b, if_neg i10]
                have W2 : 1 ≤ W i := by
                  have := hB.nn
                  by_cases z : W i = 0
                  · rw [KY, if_pos z] at b; omega
                  · omega
                obtain ⟨M4, hM4⟩ : ∃ M4, M4 = hset (hset (hset (hset M2 74 46 (iI (W i))) 74 47 (iI (fr + (i : Int)))) 74 48 (iI s)) 74 49 (iI (c : Int)) := ⟨_, rfl⟩
                have f4 : FB M2 M4 := ⟨fun k a _ _ => by rw [hM4, hset_nek _ _ _ a, hset_nek _ _ _ a, hset_nek _ _ _ a, hset_nek _ _ _ a], fun j a => by rw [hM4, hset_nej _ _ (by omega), hset_nej _ _ (by omega), hset_nej _ _ (by omega), hset_nej _ _ (by omega)]⟩
                rw [← hM4]
                have T1 := TOP.one (κ := κ) _ kE2
                rw [if_pos b] at T1
                have T2 : TOP (kyf C f T fr P (kd B0) (pl B0 c) W) (fun j => j = i ∧ wy P (pl B0 c j) = s) κ (KY (W i) (fr + (i : Int)) s) := ⟨T1.1, fun j hj => T1.2.1 j hj.1, by
                  rcases T1.2.2 with z | ⟨j, z1, z2⟩
                  · exact Or.inl z
                  · exact Or.inr ⟨j, ⟨z1, by rw [show j = i from z1]; exact ws⟩, z2⟩⟩
                refine fin M4 _ (f2.trans f4) T2 ?_
                rw [if_pos b]
                refine Or.inr ⟨W i, fr + (i : Int), s, W2, W1, by omega, by omega, s1, s2, by omega, by omega, rfl, ?_, ?_, ?_, ?_⟩
                · rw [hM4, hset_nej _ _ (by decide), hset_nej _ _ (by decide), hset_nej _ _ (by decide), hset_self]
                · rw [hM4, hset_nej _ _ (by decide), hset_nej _ _ (by decide), hset_self]
                · rw [hM4, hset_nej _ _ (by decide), hset_self]
                · rw [hM4, hset_self]
              · rw [if_neg b, if_pos rfl]
                have T1 := TOP.one (κ := κ) _ kE2
                rw [if_neg b] at T1
                exact fin M2 κ f2 ⟨T1.1, fun j hj => T1.2.1 j hj.1, Or.inl rfl⟩ (by rw [if_neg (by omega)]; exact B2)
            · rw [show max 0 (st C f (fr + (i : Int))) = 0 by omega, if_pos (by rfl)]
              exact skip (by rw [kyf, if_neg (by omega)])
      · have nq : ¬ iI (pl B0 c i : Int) = iI (q : Int) := ne_i (by omega) (by omega) (by omega) (by omega) (by omega)
        rw [if_neg nq]
        refine fin B κ hF (TOP.nil hB.nn (fun j hj => absurd hj ?_)) (by rw [if_neg (by omega)]; exact hB)
        intro ⟨a, b⟩
        rw [a] at b
        exact pq ((hsq _ hp).mpr b)

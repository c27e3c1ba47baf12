/-! THE HUNT: the class weighs a line -/
theorem put0 (v : Int32) (A : HMem) : f_X5_put 23 0 v A = some (hset A 29 0 v) := put_eq (j := 0) (by omega) v A
theorem put1 (v : Int32) (A : HMem) : f_X5_put 23 1 v A = some (hset A 29 1 v) := put_eq (j := 1) (by omega) v A
theorem put2 (v : Int32) (A : HMem) : f_X5_put 23 2 v A = some (hset A 29 2 v) := put_eq (j := 2) (by omega) v A
theorem put3 (v : Int32) (A : HMem) : f_X5_put 23 3 v A = some (hset A 29 3 v) := put_eq (j := 3) (by omega) v A
theorem put4 (v : Int32) (A : HMem) : f_X5_put 23 4 v A = some (hset A 29 4 v) := put_eq (j := 4) (by omega) v A
theorem put5 (v : Int32) (A : HMem) : f_X5_put 23 5 v A = some (hset A 29 5 v) := put_eq (j := 5) (by omega) v A
theorem put6 (v : Int32) (A : HMem) : f_X5_put 23 6 v A = some (hset A 29 6 v) := put_eq (j := 6) (by omega) v A
theorem put7 (v : Int32) (A : HMem) : f_X5_put 23 7 v A = some (hset A 29 7 v) := put_eq (j := 7) (by omega) v A
def XA (A0 : HMem) (N o h P : Nat) (T C f : Int) (nh : Nat → Int32) : Prop := (o = 35 ∨ o = 45) ∧ h < 6 ∧ P < 192 ∧ 0 ≤ T ∧ T ≤ 10000 ∧ 0 ≤ C ∧ C ≤ 9999 ∧ 0 ≤ f ∧ f ≤ 9 ∧ ILand A0 ∧ A0 3 2 = iI f ∧ A0 o 4 = iI C ∧ A0 (o + 1) h = iI (P : Int) ∧ A0 (o + 2) h = iI T ∧ ∀ p : Nat, p < 192 → f_X8_houndsAt N o (iI (p : Int)) A0 = some (nh p)
def AF (A : HMem) (h : Nat) (n5 n7 : Int32) : Prop := A 29 0 = iI (h : Int) ∧ A 29 5 = n5 ∧ A 29 7 = n7
def WCp (A0 : HMem) (N h c : Nat) (C f T fr ln : Int) (n5 n7 : Int32) (nh : Nat → Int32) (W : Nat → Int) : Prop := ∀ i : Nat, (i : Int) ≤ ln → 0 ≤ W i ∧ W i ≤ 9999 ∧ ∀ A, FW A0 A → (∀ q, q < 8 → A 29 q = fcs h c C f T fr n5 (nh (pl A0 c i)) n7 i q) → ∃ A', f_X5_worth N 23 101 9999 A = some (iI (W i), A') ∧ ∀ q, q ≠ 30 → A' q = A q
theorem AF.fr {A A' : HMem} {h : Nat} {n5 n7 : Int32} (a : AF A h n5 n7) (e : A' 29 = A 29) : AF A' h n5 n7 := by
  unfold AF at a ⊢; rw [e]; exact a
theorem weigh_L {A0 : HMem} {N o h c P : Nat} {T C f fr ln : Int} {n5 n7 : Int32} {nh : Nat → Int32} {W : Nat → Int} (hX : XA A0 N o h P T C f nh) (hL : LN A0 c fr ln) (hW : WCp A0 N h c C f T fr ln n5 n7 nh W) : ∀ (m k : Nat) (A : HMem) (κ cr : Int), (m : Int) ≤ ln + 1 → fr + (m : Int) ≤ T → fr + (m : Int) ≤ C + 1 → m < k → FW A0 A → AF A h n5 n7 → BC (A 31) 2 κ cr → ∃ A' κ', f_X2_weigh_L51 N o (iI h) (iI c) (50 + 3 * c) (iI P) k (iI (fr + (m : Int) - 1)) A = some A' ∧ FW A0 A' ∧ AF A' h n5 n7 ∧ TOP (kyf C f T fr P (kd A0) (pl A0 c) W) (fun i => i < m) κ κ' ∧ BC (A' 31) 2 κ' (if κ < κ' then (c : Int) else cr) := by
  obtain ⟨ho, hh, hP, hT0, hT1, hC0, hC1, hf0, hf1, hD, x3, xC, xP, xT, xn⟩ := id hX
  have r := hL.rg
  have c8 := hL.c8
  intro m
  induction m with
  | zero =>
    intro k A κ cr _ _ _ hk hF hf hB
    obtain ⟨k, rfl⟩ : ∃ q, k = q + 1 := ⟨k - 1, by omega⟩
    refine ⟨A, κ, ?_, hF, hf, TOP.nil hB.nn (fun i hi => absurd hi (by omega)), by rw [if_neg (by omega)]; exact hB⟩
    rw [f_X2_weigh_L51, hF (50 + 3 * c) (by omega), hL.cf.1, if_pos (lt_i (by omega) (by omega) (by omega))]
  | succ m ih =>
    intro k A κ cr hm hmT hmC hk hF hf hB
    obtain ⟨k, rfl⟩ : ∃ q, k = q + 1 := ⟨k - 1, by omega⟩
    have hp := hL.pb (k := m) (by omega)
    rw [show fr + ((m + 1 : Nat) : Int) - 1 = fr + (m : Int) by omega]
    have fin : ∀ A1 κ1, FW A0 A1 → AF A1 h n5 n7 → TOP (kyf C f T fr P (kd A0) (pl A0 c) W) (fun q => q = m) κ κ1 → BC (A1 31) 2 κ1 (if κ < κ1 then (c : Int) else cr) → ∃ A' κ', f_X2_weigh_L51 N o (iI h) (iI c) (50 + 3 * c) (iI P) k (iI (fr + (m : Int)) + (-1)) A1 = some A' ∧ FW A0 A' ∧ AF A' h n5 n7 ∧ TOP (kyf C f T fr P (kd A0) (pl A0 c) W) (fun i => i < m + 1) κ κ' ∧ BC (A' 31) 2 κ' (if κ < κ' then (c : Int) else cr) := by
      intro A1 κ1 f1 f2 f3 f4
      obtain ⟨A', κ', g1, g2, g3, g4, g5⟩ := ih k A1 κ1 _ (by omega) (by omega) (by omega) (by omega) f1 f2 f4
      refine ⟨A', κ', ?_, g2, g3, f3.join g4 (fun i => by show i < m + 1 ↔ i = m ∨ i < m; omega), ?_⟩
      · rw [qm1, iI_add]; exact g1
      · have h1 := f3.1
        have h2 := g4.1
        by_cases a : κ1 < κ'
        · rw [if_pos a] at g5
          rw [if_pos (by omega)]; exact g5
        · rw [if_neg a] at g5
          obtain rfl : κ' = κ1 := by omega
          exact g5
    have x1 : ¬ iI (fr + (m : Int)) < A (50 + 3 * c) 3 := by
      rw [hF (50 + 3 * c) (by omega), hL.cf.1]; exact nlt_i (by omega) (by omega) (by omega)
    have aC : A o 4 = iI C := by rw [hF o (by omega)]; exact xC
    have sA : f_X0_strength (iI (fr + (m : Int))) (A o 4) A = iI (st C f (fr + (m : Int))) := by
      rw [aC]; exact str_A (by rw [hF 3 (by omega)]; exact x3) hC0 hC1 (by omega) (by omega)
    have srg := st_rg (T := C) (f := f) (t := fr + (m : Int)) hC0 hC1 hf0 hf1 (by omega)
    rw [f_X2_weigh_L51, if_neg x1, sA]
    by_cases s0 : 0 < st C f (fr + (m : Int))
    · have hLA : LN A c fr ln := hL.congr (fun k j e => hF.g k j (by omega))
      have pE : pl A c m = pl A0 c m := by simp only [pl, hF (52 + 3 * c) (by omega)]
      have pA : f_X1_placeAt (50 + 3 * c) (iI (fr + (m : Int))) A = some (iI (pl A0 c m : Int)) := by rw [placeAt_in hLA (by omega), pE]
      rw [if_pos (show (0 : Int32) < iI (st C f (fr + (m : Int))) from lt_i (a := 0) s0 (by omega) (by omega)), pA, hb1_some, wayTo_eq hP hp]
      have wr := wy_rg P (pl A0 c m)
      by_cases wn : wy P (pl A0 c m) = -1
      · rw [if_pos (by rw [wn]; rfl)]
        exact fin A κ hF hf (TOP.nil hB.nn (fun i hi => by rw [show i = m from hi, kyf, if_neg (by omega)])) (by rw [if_neg (by omega)]; exact hB)
      · have wm : ¬ iI (wy P (pl A0 c m)) = -1 := ne_i (b := -1) wn (by omega) (by omega) (by omega) (by omega)
        have hDA : ILand A := hD.congr (fun k j e => hF.g k j (by omega))
        have kE : kd A (pl A0 c m) = kd A0 (pl A0 c m) := by simp only [kd, hF 6 (by omega)]
        rw [if_neg wm, isWater_in hDA hp, hb1_some, kE]
        by_cases w1 : kd A0 (pl A0 c m) = 1
        · rw [if_pos w1, if_neg i10]
          exact fin A κ hF hf (TOP.nil hB.nn (fun i hi => by rw [show i = m from hi, kyf, if_neg (by omega)])) (by rw [if_neg (by omega)]; exact hB)
        · obtain ⟨A2, hA2⟩ : ∃ A2, A2 = hset (hset (hset (hset (hset A 29 1 (iI (c : Int))) 29 2 (iI (C - (fr + (m : Int))))) 29 3 (iI (st C f (fr + (m : Int))))) 29 4 (iI (T - (fr + (m : Int))))) 29 6 (nh (pl A0 c m)) := ⟨_, rfl⟩
          have a2 : ∀ k, k ≠ 29 → A2 k = A k := fun k hk => by rw [hA2, hset_nek _ _ _ hk, hset_nek _ _ _ hk, hset_nek _ _ _ hk, hset_nek _ _ _ hk, hset_nek _ _ _ hk]
          have F2 : FW A0 A2 := fun k a => by rw [a2 k (by omega)]; exact hF k a
          have fc : ∀ q, q < 8 → A2 29 q = fcs h c C f T fr n5 (nh (pl A0 c m)) n7 m q := fun q hq => by
            obtain ⟨v0, v5, v7⟩ := hf
            rcases (show q = 0 ∨ q = 1 ∨ q = 2 ∨ q = 3 ∨ q = 4 ∨ q = 5 ∨ q = 6 ∨ q = 7 by omega) with rfl | rfl | rfl | rfl | rfl | rfl | rfl | rfl
            · rw [hA2, hset_nej _ _ (by decide), hset_nej _ _ (by decide), hset_nej _ _ (by decide), hset_nej _ _ (by decide), hset_nej _ _ (by decide), v0]; rfl
            · rw [hA2, hset_nej _ _ (by decide), hset_nej _ _ (by decide), hset_nej _ _ (by decide), hset_nej _ _ (by decide), hset_self]; rfl
            · rw [hA2, hset_nej _ _ (by decide), hset_nej _ _ (by decide), hset_nej _ _ (by decide), hset_self]; rfl
            · rw [hA2, hset_nej _ _ (by decide), hset_nej _ _ (by decide), hset_self]; rfl
            · rw [hA2, hset_nej _ _ (by decide), hset_self]; rfl
            · rw [hA2, hset_nej _ _ (by decide), hset_nej _ _ (by decide), hset_nej _ _ (by decide), hset_nej _ _ (by decide), hset_nej _ _ (by decide), v5]; rfl
            · rw [hA2, hset_self]; rfl
            · rw [hA2, hset_nej _ _ (by decide), hset_nej _ _ (by decide), hset_nej _ _ (by decide), hset_nej _ _ (by decide), hset_nej _ _ (by decide), v7]; rfl
          obtain ⟨W0, W1, hWm⟩ := hW m (by omega)
          obtain ⟨A3, g1, g2⟩ := hWm A2 F2 fc
          have a3 : ∀ k, k ≠ 29 → k ≠ 30 → A3 k = A k := fun k b1 b2 => by rw [g2 k b2, a2 k b1]
          have F3 : FW A0 A3 := fun k a => by rw [g2 k (by omega)]; exact F2 k a
          have f3 : AF A3 h n5 n7 := by
            refine AF.fr (A := A2) ⟨?_, ?_, ?_⟩ (g2 29 (by decide))
            · rw [fc 0 (by omega)]; rfl
            · rw [fc 5 (by omega)]; rfl
            · rw [fc 7 (by omega)]; rfl
          have B3 : BC (A3 31) 2 κ cr := by rw [a3 31 (by decide) (by decide)]; exact hB
          have bt := better_C (w := W m) (t := fr + (m : Int)) (s := wy P (pl A0 c m)) B3 W0 W1 (by omega) (by omega) (by omega) (by omega)
          have hn : f_X8_houndsAt N o (iI (pl A0 c m : Int)) (hset (hset (hset (hset A 29 1 (iI (c : Int))) 29 2 (iI (C - (fr + (m : Int))))) 29 3 (iI (st C f (fr + (m : Int))))) 29 4 (iI (T - (fr + (m : Int))))) = some (nh (pl A0 c m)) := by
            rw [← xn _ hp]
            refine hAt_cg ?_ ?_
            · rw [hset_nek _ _ _ (by omega), hset_nek _ _ _ (by omega), hset_nek _ _ _ (by omega), hset_nek _ _ _ (by omega), hF _ (by omega)]
            · rw [hset_nek _ _ _ (by omega), hset_nek _ _ _ (by omega), hset_nek _ _ _ (by omega), hset_nek _ _ _ (by omega), hF _ (by omega)]
          have kE2 : kyf C f T fr P (kd A0) (pl A0 c) W m = KY (W m) (fr + (m : Int)) (wy P (pl A0 c m)) := by rw [kyf, if_pos ⟨by omega, s0, w1, by omega⟩]
          rw [if_neg w1, if_pos rfl, put1, hb1_some, hset_nek _ _ _ (show o ≠ 29 by omega), aC, iI_sub, put2, hb1_some, put3, hb1_some, timeOf_in hh, hb1_some, hset_nek _ _ _ (show o + 2 ≠ 29 by omega), hset_nek _ _ _ (show o + 2 ≠ 29 by omega), hset_nek _ _ _ (show o + 2 ≠ 29 by omega), hF (o + 2) (by omega), xT, iI_sub, put4, hb1_some, hn, hb1_some, put6, hb1_some, ← hA2, g1, hb2_some, bt]
          by_cases b : κ < KY (W m) (fr + (m : Int)) (wy P (pl A0 c m))
          · rw [if_pos b, if_neg i10]
            obtain ⟨A4, hA4⟩ : ∃ A4, A4 = hset (hset (hset (hset A3 31 2 (iI (W m))) 31 3 (iI (fr + (m : Int)))) 31 4 (iI (wy P (pl A0 c m)))) 31 5 (iI (c : Int)) := ⟨_, rfl⟩
            have a4 : ∀ k, k ≠ 31 → A4 k = A3 k := fun k hk => by rw [hA4, hset_nek _ _ _ hk, hset_nek _ _ _ hk, hset_nek _ _ _ hk, hset_nek _ _ _ hk]
            have W2 : 1 ≤ W m := by
              have := hB.nn
              by_cases z : W m = 0
              · rw [KY, if_pos z] at b; omega
              · omega
            rw [← hA4]
            have T1 := TOP.one (κ := κ) _ kE2
            rw [if_pos b] at T1
            refine fin A4 _ (fun k a => by rw [a4 k (by omega)]; exact F3 k a) (f3.fr (a4 29 (by decide))) T1 ?_
            rw [if_pos b]
            refine Or.inr ⟨W m, fr + (m : Int), wy P (pl A0 c m), W2, W1, by omega, by omega, by omega, by omega, by omega, by omega, rfl, ?_, ?_, ?_, ?_⟩
            · rw [hA4, hset_nej _ _ (by decide), hset_nej _ _ (by decide), hset_nej _ _ (by decide), hset_self]
            · rw [hA4, hset_nej _ _ (by decide), hset_nej _ _ (by decide), hset_self]
            · rw [hA4, hset_nej _ _ (by decide), hset_self]
            · rw [hA4, hset_self]
          · rw [if_neg b, if_pos rfl]
            have T1 := TOP.one (κ := κ) _ kE2
            rw [if_neg b] at T1
            exact fin A3 κ F3 f3 T1 (by rw [if_neg (by omega)]; exact B3)
    · rw [if_neg (show ¬ (0 : Int32) < iI (st C f (fr + (m : Int))) from nlt_i (a := 0) (by omega) (by omega) (by omega))]
      refine ⟨A, κ, rfl, hF, hf, TOP.nil hB.nn (fun i hi => ?_), by rw [if_neg (by omega)]; exact hB⟩
      have hi' : i < m + 1 := hi
      have := st_mono (T := C) (f := f) (t := fr + (m : Int)) (t' := fr + (i : Int)) hf0 (by omega) (by omega)
      rw [kyf, if_neg (by omega)]
theorem kyf_0 {C f T fr : Int} {P : Nat} {kz p : Nat → Nat} {W : Nat → Int} {i : Nat} (h : C < fr + (i : Int) ∨ T ≤ fr + (i : Int)) : kyf C f T fr P kz p W i = 0 := by
  rw [kyf, if_neg]
  intro ⟨a, b, _⟩
  rcases h with h | h
  · rw [st, if_neg (by omega)] at b; omega
  · omega
theorem weigh_eq {A0 : HMem} {N o h c P : Nat} {T C f fr ln : Int} {n5 n7 : Int32} {nh : Nat → Int32} {W : Nat → Int} (hN : 300 ≤ N) (hX : XA A0 N o h P T C f nh) (hL : LN A0 c fr ln) (hl : A0 (50 + 3 * c) 2 = 1) (hW : WCp A0 N h c C f T fr ln n5 n7 nh W) {A : HMem} {κ cr : Int} (hF : FW A0 A) (hf : AF A h n5 n7) (hB : BC (A 31) 2 κ cr) : ∃ A' κ', f_X2_weigh N o (iI h) (iI c) A = some A' ∧ FW A0 A' ∧ AF A' h n5 n7 ∧ TOP (kyf C f T fr P (kd A0) (pl A0 c) W) (fun i => (i : Int) ≤ ln) κ κ' ∧ BC (A' 31) 2 κ' (if κ < κ' then (c : Int) else cr) := by
  obtain ⟨ho, hh, hP, hT0, hT1, hC0, hC1, hf0, hf1, hD, x3, xC, xP, xT, xn⟩ := id hX
  have r := hL.rg
  have c8 := hL.c8
  have hLA : LN A c fr ln := hL.congr (fun k j e => hF.g k j (by omega))
  have e0 : f_X2_weigh N o (iI h) (iI c) A = f_X2_weigh_L51 N o (iI h) (iI c) (50 + 3 * c) (iI P) N (iI (min (min (fr + ln) C) (T - 1))) A := by
    rw [f_X2_weigh, laid_1 c8 (by rw [hF _ (by omega)]; exact hl), hb1_some]
    show hb1 (f_X8_placeOfHound o (iI h) A) _ = _
    rw [placeOfHound_in hh, hb1_some, timeOf_in hh, hb1_some, hF (o + 1) (by omega), xP, hF (o + 2) (by omega), xT, hF o (by omega), xC, last_eq hLA, hmin_eq (by omega) (by omega) (by omega) (by omega), q1, iI_sub, hmin_eq (by omega) (by omega) (by omega) (by omega)]
  rw [e0]
  by_cases hs : min (min (fr + ln) C) (T - 1) < fr
  · obtain ⟨k, rfl⟩ : ∃ q, N = q + 1 := ⟨N - 1, by omega⟩
    refine ⟨A, κ, ?_, hF, hf, TOP.nil hB.nn (fun i hi => kyf_0 (by omega)), by rw [if_neg (by omega)]; exact hB⟩
    rw [f_X2_weigh_L51, hLA.cf.1, if_pos (lt_i (by omega) (by omega) (by omega))]
  · obtain ⟨m, hm⟩ : ∃ m : Nat, min (min (fr + ln) C) (T - 1) = fr + (m : Int) - 1 := ⟨(min (min (fr + ln) C) (T - 1) - fr + 1).toNat, by omega⟩
    obtain ⟨A', κ', g1, g2, g3, g4, g5⟩ := weigh_L hX hL hW m N A κ cr (by omega) (by omega) (by omega) (by omega) hF hf hB
    rw [hm]
    refine ⟨A', κ', g1, g2, g3, ?_, g5⟩
    refine g4.join (S2 := fun i => (i : Int) ≤ ln ∧ m ≤ i) (TOP.nil (by have := g4.1; have := hB.nn; omega) (fun i hi => kyf_0 (by have : (i : Int) ≤ ln ∧ m ≤ i := hi; omega))) (fun i => ?_)
    show (i : Int) ≤ ln ↔ i < m ∨ (i : Int) ≤ ln ∧ m ≤ i
    omega

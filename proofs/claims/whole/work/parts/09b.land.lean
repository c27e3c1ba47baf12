/-! LAND as a text -/
theorem readsAmt_RL (N : Nat) (fr : Nat) : ∀ k M, f_X12_readsAmount_L27 N (iI fr) (k + 1) M = hb1 (f_X12_isDigit M) (fun x101 => if x101 = 0 then some (1, M) else if M 74 13 = iI fr + iI (2 : Nat) then hb2 (f_X12_wrongAt 2 (M 74 13) M) (fun x104 M105 => if x104 &&& 1 = x104 then some (x104, M105) else none) else hb1 (f_X12_here M) (fun x102 => hb1 (some (hset M 74 16 (((10 * (M 74 16)) + x102) - 48))) (fun M103 => f_X12_readsAmount_L27 N (iI fr) k (hset M103 74 13 ((M103 74 13) + 1))))) := fun _ _ => rfl
theorem numA {tb : Nat → Nat} {A B : HMem} {n p N : Nat} (hN : 10 ≤ N) (hA : CP tb A n p) (hB : RP tb B n p) : ∃ (v : Nat) (A' B' : HMem), f_X10_number N 2 A = some (iI v, A') ∧ v ≤ 99 ∧ oc1 A A' ∧ oB B B' ∧ ((∃ p', p ≤ p' ∧ CP tb A' n p' ∧ RP tb B' n p' ∧ B' 74 16 = iI v ∧ f_X12_readsAmount N B = some (1, B')) ∨ (FT A' B' ∧ f_X12_readsAmount N B = some (0, B'))) := by
  have hs := sgn_rg hA
  have hn := hA.2.1
  have hp := hA.2.2.1
  rw [f_X10_number, sign_ok hA, hb1_some, isDig_eq hs.1 hs.2, f_X12_readsAmount, isDigR_eq hB hA, hb1_some]
  by_cases d : 48 ≤ sgn tb n p ∧ sgn tb n p ≤ 57
  · have h2 : RP tb (hset B 74 16 0) n p := hB.cg (hset_nek _ _ _ (by decide)) (hset_nej _ _ (by decide)) (hset_nej _ _ (by decide))
    obtain ⟨v, A', B', g1, g2, g3, g4, g5⟩ := num_L (tb := tb) (n := n) (N := N) (fr := p) (m := 2) (RL := f_X12_readsAmount_L27 N (iI p)) (by omega) (readsAmt_RL N p) N 0 0 A (hset B 74 16 0) hA h2 (hset_self _ _ _ _) (by omega) (by omega) (by omega)
    have g1' : f_X10_number_L21 N 2 N 0 0 A = some (iI v, A') := g1
    rw [if_pos d, if_neg i10, if_neg i10, hB.2.2.2.2]
    refine ⟨v, A', B', g1', by omega, g3, (oB_set _ _ (by decide)).trans g4, ?_⟩
    rcases g5 with ⟨p', q1, q2, q3, q4, q5⟩ | ⟨q1, q2⟩
    · exact Or.inl ⟨p', by omega, q2, q3, q4, q5⟩
    · exact Or.inr ⟨q1, q2⟩
  · rw [if_neg d, if_pos rfl, if_pos rfl, fh_eq, hA.2.2.2.2.1, hB.2.2.2.2, show (1 : Int32) = iI 1 from rfl, wrong_eq, hb2_some, if_pos (by decide)]
    obtain ⟨f1, f2, f3⟩ := FT_here (B := B) 1 p hA (by omega) (by omega) (by omega) (by omega)
    exact ⟨0, _, _, rfl, by omega, f2, f3, Or.inr ⟨f1, rfl⟩⟩
theorem rbd_dead {A : HMem} {N : Nat} (lo hi : Int32) (h : ¬ A 1 4 = 0) : f_X4_readBounded N lo hi A = some (0, A) := by
  rw [f_X4_readBounded, number_dead _ h, hb2_some, fail_dead h]
  split
  · rfl
  · split <;> rfl
theorem chg_dead {A : HMem} {N : Nat} (h : ¬ A 1 4 = 0) : f_X4_readCharge N A = some (0, A) := by
  rw [f_X4_readCharge, show (61 : Int32) = iI 61 from rfl, expect_dead h (by omega) (by omega), hb1_some, number_dead _ h, hb2_some]
/-- a number within bounds, and (c) a sign behind it -/
theorem rbd {tb : Nat → Nat} {A B : HMem} {n p N : Nat} {lo hi : Int} (hN : 10 ≤ N) (hA : CP tb A n p) (hB : RP tb B n p) (l0 : 0 ≤ lo) (l1 : lo ≤ 1) (l2 : -100 ≤ hi) (l3 : hi ≤ 100) : ∃ (v : Nat) (A' : HMem), f_X4_readBounded N (iI lo) (iI hi) A = some (iI v, A') ∧ v ≤ 99 ∧ oc1 A A' ∧ (∃ B', oB B B' ∧ ((lo ≤ v ∧ v ≤ hi ∧ ∃ p', p ≤ p' ∧ CP tb A' n p' ∧ RP tb B' n p' ∧ B' 74 16 = iI v ∧ f_X12_readsWithin N (iI lo) (iI hi) (-1) B = some (1, B')) ∨ (FT A' B' ∧ f_X12_readsWithin N (iI lo) (iI hi) (-1) B = some (0, B')))) ∧ (∀ c : Int, 0 ≤ c → c < 256 → ∃ A2 B', f_X10_expect (iI c) A' = some A2 ∧ oc1 A A2 ∧ oB B B' ∧ ((lo ≤ v ∧ v ≤ hi ∧ ∃ p', p ≤ p' ∧ CP tb A2 n p' ∧ RP tb B' n p' ∧ B' 74 16 = iI v ∧ f_X12_readsWithin N (iI lo) (iI hi) (iI c) B = some (1, B')) ∨ (FT A2 B' ∧ f_X12_readsWithin N (iI lo) (iI hi) (iI c) B = some (0, B')))) := by
  have hn := hA.2.1
  have hp := hA.2.2.1
  obtain ⟨v, A', B', g1, g2, g3, g4, g5⟩ := numA hN hA hB
  rw [f_X4_readBounded, g1, hb2_some, hA.2.2.2.2.1]
  rcases g5 with ⟨p', q1, q2, q3, q4, q5⟩ | ⟨q1, q2⟩
  · by_cases b : lo ≤ v ∧ v ≤ hi
    · rw [if_neg (nlt_i (by omega) (by omega) (by omega)), if_pos (le_i (by omega) (by omega) (by omega))]
      refine ⟨v, A', rfl, g2, g3, ⟨B', g4, Or.inl ⟨b.1, b.2, p', q1, q2, q3, q4, ?_⟩⟩, fun c c1 c2 => ?_⟩
      · rw [f_X12_readsWithin, q5, hb2_some, if_neg i10, q4, in_1 b.1 b.2 (by omega) (by omega), if_neg i10, if_pos rfl]
      · obtain ⟨A2, B2, e1, e2, e3, e4, e5⟩ := ex_tk q2 q3 c1 c2
        have nc : ¬ iI c = -1 := by rw [qm1]; exact ne_i (by omega) (by omega) (by omega) (by omega) (by omega)
        refine ⟨A2, B2, e1, g3.trans e2, g4.trans e3, ?_⟩
        rw [f_X12_readsWithin, q5, hb2_some, if_neg i10, q4, in_1 b.1 b.2 (by omega) (by omega), if_neg i10, if_neg nc]
        rcases e5 with ⟨e5, e6, e7, e8⟩ | ⟨e5, e6⟩
        · rw [e5, hb2_some, if_neg i10]
          exact Or.inl ⟨b.1, b.2, p' + 1, by omega, e7, e8, by rw [e4, q4], rfl⟩
        · rw [e5, hb2_some, if_pos rfl]
          exact Or.inr ⟨e6, rfl⟩
    · obtain ⟨f1, f2, f3⟩ := FT_here (B := B') 3 p q2 (by omega) (by omega) (by omega) (by omega)
      have eA : (if iI (v : Int) < iI lo then some (iI (v : Int), f_X10_failAt 3 (iI p) A') else if iI (v : Int) ≤ iI hi then some (iI (v : Int), A') else some (iI (v : Int), f_X10_failAt 3 (iI p) A')) = some (iI (v : Int), f_X10_failAt (iI 3) (iI p) A') := by
        by_cases x : (v : Int) < lo
        · rw [if_pos (lt_i x (by omega) (by omega))]; rfl
        · rw [if_neg (nlt_i (by omega) (by omega) (by omega)), if_neg (nl_i (by omega) (by omega) (by omega))]; rfl
      have eB : ∀ c, f_X12_readsWithin N (iI lo) (iI hi) c B = some (0, hset B' 74 15 (iI (-1000 * 3 - p))) := fun c => by
        rw [f_X12_readsWithin, q5, hb2_some, if_neg i10, q4, in_0 b (by omega) (by omega) (by omega) (by omega) (by omega) (by omega), if_pos rfl, hB.2.2.2.2, show (3 : Int32) = iI 3 from rfl, wrong_eq, hb2_some, if_pos (by decide)]
      rw [eA]
      refine ⟨v, _, rfl, g2, g3.trans f2, ⟨_, g4.trans f3, Or.inr ⟨f1, eB _⟩⟩, fun c c1 c2 => ⟨_, _, expect_dead f1.dead c1 (by omega), g3.trans f2, g4.trans f3, Or.inr ⟨f1, eB _⟩⟩⟩
  · have eB : ∀ c, f_X12_readsWithin N (iI lo) (iI hi) c B = some (0, B') := fun c => by
      rw [f_X12_readsWithin, q2, hb2_some, if_pos rfl]
    rw [fail_dead q1.dead]
    refine ⟨v, A', ?_, g2, g3, ⟨B', g4, Or.inr ⟨q1, eB _⟩⟩, fun c c1 c2 => ⟨A', B', expect_dead q1.dead c1 (by omega), g3, g4, Or.inr ⟨q1, eB _⟩⟩⟩
    split
    · rfl
    · split <;> rfl
-- painting
def rcB (x y w h p : Nat) : Bool := decide (x ≤ p % 16 ∧ p % 16 < x + w ∧ y ≤ p / 16 ∧ p / 16 < y + h)
def rcD (x y w r c p : Nat) : Bool := decide (x ≤ p % 16 ∧ p % 16 < x + w ∧ y ≤ p / 16 ∧ (p / 16 < y + r ∨ (p / 16 = y + r ∧ p % 16 < x + c)))
theorem cov_1 {A : HMem} {N x y w h r : Nat} {K C v5 : Int32} {g0 g1 : Nat → Int32} (hx : x + w ≤ 16) (hy : y + r < 12) (rk : Int32 → HMem → Option HMem) : ∀ (k c : Nat) (gk gp : Nat → Int32), c ≤ w → w - c < k → (∀ p, p < 192 → gk p = if rcD x y w r c p = true then K else g0 p) → (∀ p, p < 192 → gp p = if rcD x y w r c p = true then C else g1 p) → ∃ gk' gp', (∀ p, p < 192 → gk' p = if rcD x y w (r + 1) 0 p = true then K else g0 p) ∧ (∀ p, p < 192 → gp' p = if rcD x y w (r + 1) 0 p = true then C else g1 p) ∧ f_X4_readPlaces_L104 N rk K (iI x) (iI y) (iI w) v5 C (iI r) k (iI c) (hput (hput A 12 gk) 13 gp) = rk (iI ((r + 1 : Nat) : Int)) (hput (hput A 12 gk') 13 gp') := by
  intro k
  induction k with
  | zero => intro c _ _ _ h; exfalso; omega
  | succ k ih =>
    intro c gk gp hc hk h1 h2
    rw [f_X4_readPlaces_L104]
    by_cases e : c = w
    · subst e
      rw [if_pos (le_i (by omega) (by omega) (by omega)), iI_s]
      have : ∀ p, rcD x y c r c p = rcD x y c (r + 1) 0 p := fun p => by unfold rcD; rw [decide_eq_decide]; omega
      exact ⟨gk, gp, fun p hp => by rw [h1 p hp, this], fun p hp => by rw [h2 p hp, this], rfl⟩
    · rw [if_neg (nl_i (by omega) (by omega) (by omega)), iI_add, iI_add, placeOf_eq, f_X3_cover, isPlace_1 (by omega) (by omega), if_neg i10, hib_t (by omega) (by omega) (by omega), if_pos rfl, if_pos rfl, hb1_some, iI_nat (by omega) (by omega), iI_s]
      show ∃ gk' gp', _ ∧ _ ∧ f_X4_readPlaces_L104 N rk K (iI x) (iI y) (iI w) v5 C (iI r) k (iI ((c + 1 : Nat) : Int)) (hset (hset (hput (hput A 12 gk) 13 gp) 12 _ K) 13 _ C) = _
      rw [hset_put_ne _ _ _ _ (by decide), hset_put, hset_put]
      obtain ⟨q, hq⟩ : ∃ q : Nat, (16 * ((y : Int) + (r : Int)) + ((x : Int) + (c : Int))).toNat = q := ⟨_, rfl⟩
      rw [hq]
      have key : ∀ p, p < 192 → rcD x y w r (c + 1) p = (if p = q then true else rcD x y w r c p) := fun p hp => by
        unfold rcD
        by_cases e2 : p = q
        · rw [if_pos e2]; exact decide_eq_true (by omega)
        · rw [if_neg e2, decide_eq_decide]; omega
      refine ih (c + 1) _ _ (by omega) (by omega) (fun p hp => ?_) (fun p hp => ?_)
      · rw [key p hp]; simp only [upd]
        by_cases e2 : p = q
        · rw [if_pos e2, if_pos e2, if_pos rfl]
        · rw [if_neg e2, if_neg e2]; exact h1 p hp
      · rw [key p hp]; simp only [upd]
        by_cases e2 : p = q
        · rw [if_pos e2, if_pos e2, if_pos rfl]
        · rw [if_neg e2, if_neg e2]; exact h2 p hp
theorem cov_2 {A : HMem} {N x y w h : Nat} {K C : Int32} {g0 g1 : Nat → Int32} (hN : 300 ≤ N) (hx : x + w ≤ 16) (hy : y + h ≤ 12) : ∀ (k r : Nat) (gk gp : Nat → Int32), r ≤ h → h - r < k → (∀ p, p < 192 → gk p = if rcD x y w r 0 p = true then K else g0 p) → (∀ p, p < 192 → gp p = if rcD x y w r 0 p = true then C else g1 p) → ∃ gk' gp', (∀ p, p < 192 → gk' p = if rcB x y w h p = true then K else g0 p) ∧ (∀ p, p < 192 → gp' p = if rcB x y w h p = true then C else g1 p) ∧ f_X4_readPlaces_L94 N K (iI x) (iI y) (iI w) (iI h) C k (iI r) (hput (hput A 12 gk) 13 gp) = some (hput (hput A 12 gk') 13 gp') := by
  intro k
  induction k with
  | zero => intro r _ _ _ h; exfalso; omega
  | succ k ih =>
    intro r gk gp hr hk h1 h2
    rw [f_X4_readPlaces_L94]
    by_cases e : r = h
    · subst e
      rw [if_pos (le_i (by omega) (by omega) (by omega))]
      have : ∀ p, rcD x y w r 0 p = rcB x y w r p := fun p => by unfold rcD rcB; rw [decide_eq_decide]; omega
      exact ⟨gk, gp, fun p hp => by rw [h1 p hp, this], fun p hp => by rw [h2 p hp, this], rfl⟩
    · rw [if_neg (nl_i (by omega) (by omega) (by omega))]
      obtain ⟨gk', gp', a1, a2, a3⟩ := cov_1 (A := A) (N := N) (h := h) (v5 := iI h) (K := K) (C := C) (g0 := g0) (g1 := g1) hx (show y + r < 12 by omega) (f_X4_readPlaces_L94 N K (iI x) (iI y) (iI w) (iI h) C k) N 0 gk gp (by omega) (by omega) h1 h2
      have a3' : f_X4_readPlaces_L104 N (f_X4_readPlaces_L94 N K (iI x) (iI y) (iI w) (iI h) C k) K (iI x) (iI y) (iI w) (iI h) C (iI r) N 0 (hput (hput A 12 gk) 13 gp) = f_X4_readPlaces_L94 N K (iI x) (iI y) (iI w) (iI h) C k (iI ((r + 1 : Nat) : Int)) (hput (hput A 12 gk') 13 gp') := a3
      rw [a3']
      exact ih (r + 1) gk' gp' (by omega) (by omega) a1 a2
def kc (c : Nat) : Int32 := if c = 126 then 1 else iI ((c : Int) - 97 + 2)
theorem cov_R {B : HMem} {N x y w h v c : Nat} {g0 g1 : Nat → Int32} (hx : x + w ≤ 16) (hy : y + h ≤ 12) (h16 : B 74 16 = iI v) (hc : c < 256) : ∀ (k i : Nat) (gk gp : Nat → Int32), i ≤ 192 → 192 - i < k → (∀ p, p < 192 → gk p = if p < i ∧ rcB x y w h p = true then kc c else g0 p) → (∀ p, p < 192 → gp p = if p < i ∧ rcB x y w h p = true then iI v else g1 p) → ∃ gk' gp', (∀ p, p < 192 → gk' p = if rcB x y w h p = true then kc c else g0 p) ∧ (∀ p, p < 192 → gp' p = if rcB x y w h p = true then iI v else g1 p) ∧ f_X12_readsGround_L184 N (iI c) (iI x) (iI y) (iI w) (iI h) k (iI i) (hput (hput B 102 gk) 103 gp) = some (1, hput (hput B 102 gk') 103 gp') := by
  intro k
  induction k with
  | zero => intro i _ _ _ h; exfalso; omega
  | succ k ih =>
    intro i gk gp hi hk h1 h2
    rw [f_X12_readsGround_L184]
    by_cases e : i = 192
    · subst e
      rw [if_pos (by decide)]
      exact ⟨gk, gp, fun p hp => by rw [h1 p hp]; simp only [hp, true_and], fun p hp => by rw [h2 p hp]; simp only [hp, true_and], rfl⟩
    · have hi' : i < 192 := by omega
      obtain ⟨-, -, b1, b2⟩ := and15 ⟨i, hi'⟩
      dsimp only at b1 b2
      have a1 : f_X12_in (iI ((i % 16 : Nat) : Int)) (iI x) (iI x + iI w - 1) = if (x : Int) ≤ ((i % 16 : Nat) : Int) ∧ ((i % 16 : Nat) : Int) ≤ (x : Int) + (w : Int) - 1 then 1 else 0 := by
        rw [iI_add, show (iI ((x : Int) + (w : Int)) - 1 : Int32) = iI ((x : Int) + (w : Int) - 1) from iI_sub _ 1, in_eq (by omega) (by omega) (by omega) (by omega) (by omega) (by omega)]
      have a2 : f_X12_in (iI ((i / 16 : Nat) : Int)) (iI y) (iI y + iI h - 1) = if (y : Int) ≤ ((i / 16 : Nat) : Int) ∧ ((i / 16 : Nat) : Int) ≤ (y : Int) + (h : Int) - 1 then 1 else 0 := by
        rw [iI_add, show (iI ((y : Int) + (h : Int)) - 1 : Int32) = iI ((y : Int) + (h : Int) - 1) from iI_sub _ 1, in_eq (by omega) (by omega) (by omega) (by omega) (by omega) (by omega)]
      rw [if_neg (by rw [q192]; exact nl_i (by omega) (by omega) (by omega)), b2, b1, a1, a2, iI_s]
      have skip : rcB x y w h i = false → ∃ gk' gp', (∀ p, p < 192 → gk' p = if rcB x y w h p = true then kc c else g0 p) ∧ (∀ p, p < 192 → gp' p = if rcB x y w h p = true then iI v else g1 p) ∧ f_X12_readsGround_L184 N (iI c) (iI x) (iI y) (iI w) (iI h) k (iI ((i + 1 : Nat) : Int)) (hput (hput B 102 gk) 103 gp) = some (1, hput (hput B 102 gk') 103 gp') := fun hb => by
        have key : ∀ p, p < 192 → ((p < i + 1 ∧ rcB x y w h p = true) ↔ (p < i ∧ rcB x y w h p = true)) := fun p hp => by
          by_cases e2 : p = i
          · rw [e2, hb]; simp
          · constructor <;> intro h <;> exact ⟨by omega, h.2⟩
        exact ih (i + 1) gk gp (by omega) (by omega) (fun p hp => by rw [h1 p hp]; simp only [key p hp]) (fun p hp => by rw [h2 p hp]; simp only [key p hp])
      by_cases c1 : (x : Int) ≤ ((i % 16 : Nat) : Int) ∧ ((i % 16 : Nat) : Int) ≤ (x : Int) + (w : Int) - 1
      · rw [if_pos c1, if_neg i10]
        by_cases c2 : (y : Int) ≤ ((i / 16 : Nat) : Int) ∧ ((i / 16 : Nat) : Int) ≤ (y : Int) + (h : Int) - 1
        · rw [if_pos c2, if_neg i10]
          have hb : rcB x y w h i = true := decide_eq_true (by omega)
          have key : ∀ p, p < 192 → ∀ (a : Int32) (g g0 : Nat → Int32), (∀ p, p < 192 → g p = if p < i ∧ rcB x y w h p = true then a else g0 p) → upd g i a p = if p < i + 1 ∧ rcB x y w h p = true then a else g0 p := fun p hp a g g0 hg => by
            simp only [upd]
            by_cases e2 : p = i
            · rw [if_pos e2, e2, if_pos ⟨by omega, hb⟩]
            · rw [if_neg e2, hg p hp]
              by_cases e3 : p < i ∧ rcB x y w h p = true
              · rw [if_pos e3, if_pos ⟨by omega, e3.2⟩]
              · rw [if_neg e3, if_neg (fun h => e3 ⟨by omega, h.2⟩)]
          have e16 : ∀ g, hset (hput (hput B 102 g) 103 gp) 103 i (hput (hput B 102 g) 103 gp 74 16) = hput (hput B 102 g) 103 (upd gp i (iI v)) := fun g => by
            rw [hput_ne _ _ (by decide), hput_ne _ _ (by decide), h16, hset_put]
          have eK : ∀ u, hset (hput (hput B 102 gk) 103 gp) 102 i u = hput (hput B 102 (upd gk i u)) 103 gp := fun u => by
            rw [hset_put_ne _ _ _ _ (by decide), hset_put]
          have hi3 : hib (iI (i : Int)) 192 = true := hib_t (by omega) (by omega) (by omega)
          rw [iI_natc (k := i) (by omega)]
          simp only [hi3, if_true, hb1_some, eK, e16]
          by_cases c3 : c = 126
          · have ek : kc c = 1 := if_pos c3
            rw [if_pos (show iI (c : Int) = 126 by rw [c3]; rfl), show upd gk i 1 = upd gk i (kc c) by rw [ek]]
            exact ih (i + 1) _ _ (by omega) (by omega) (fun p hp => key p hp _ _ _ h1) (fun p hp => key p hp _ _ _ h2)
          · have ek : kc c = iI (c : Int) - 97 + 2 := by rw [kc, if_neg c3, ← iI_add, ← iI_sub]; rfl
            rw [if_neg (show ¬ iI (c : Int) = 126 from ne_i (b := 126) (by omega) (by omega) (by omega) (by omega) (by omega)), ← ek]
            exact ih (i + 1) _ _ (by omega) (by omega) (fun p hp => key p hp _ _ _ h1) (fun p hp => key p hp _ _ _ h2)
        · rw [if_neg c2, if_pos rfl]
          exact skip (decide_eq_false (by omega))
      · rw [if_neg c1, if_pos rfl]
        exact skip (decide_eq_false (by omega))

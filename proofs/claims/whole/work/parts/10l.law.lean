/-! THE LAW: the text, rule by rule -/
theorem law_L {tb : Nat → Nat} {n N : Nat} (hN : 300 ≤ N) : ∀ (k p c off t : Nat) (A B : HMem), SX tb n A B p c off t → LW A B (c + off) c t → 16 - t + 1 < k → ∃ A' B' : HMem, f_X6_read_L9 N k (iI t) A = some A' ∧ ocR A A' ∧ oBR B B' ∧ ((∃ c' off' t' : Nat, 1 ≤ t' ∧ t' ≤ 16 ∧ A' 1 4 = 0 ∧ A' 15 6 = iI ((c' + off' : Nat) : Int) ∧ c' + off' ≤ 240 ∧ A' 15 3 = iI (t' : Int) ∧ B' 74 18 = iI (c' : Int) ∧ B' 74 20 = iI (t' : Int) ∧ LW A' B' (c' + off') c' t' ∧ hb2 (f_X12_readsRule N B) (fun x M => f_X12_law_L31 N k x M) = f_X12_law_J71 N 1 B') ∨ (FT A' B' ∧ hb2 (f_X12_readsRule N B) (fun x M => f_X12_law_L31 N k x M) = f_X12_law_J71 N 0 B')) := by
  intro k
  induction k with
  | zero => intro p c off t _ _ _ _ h; exfalso; omega
  | succ k ih =>
    intro p c off t A B hS hL hk
    have ht := hS.2.2.2.2.2.2.2.2
    obtain ⟨A1, B1, g1, g2, g3, g4⟩ := rule_ok (N := N) hN hS hL
    rw [f_X6_read_L9, if_neg (by rw [q16]; exact nlt_i (by omega) (by omega) (by omega)), g1, hb1_some]
    rcases g4 with ⟨p', c', off', h1, ht', hS', hL', h6⟩ | ⟨h1, h2⟩
    · obtain ⟨h2, h3, hn, k18, k6, kc, k3, k20, k16⟩ := id hS'
      have hs := sgn_rg h2
      have hp' := h2.2.2.1
      rw [h6, hb2_some, f_X12_law_L31, if_neg i10, f_X10_isAt, sign_ok h2, hb1_some, h3.2.2.2.1, h3.2.2.2.2]
      by_cases e : p' < n
      · have es : ¬ iI (sgn tb n p') = -1 := by
          rw [sgn, if_pos e]; exact ne_i (a := (tb p' : Int)) (b := -1) (by omega) (by omega) (by have := (h2.1 p' (by omega)).1; omega) (by omega) (by omega)
        obtain ⟨A2, B2, e1, e2, e3, -, e5⟩ := ex_tk (c := 59) h2 h3 (by omega) (by omega)
        have e1' : f_X10_expect 59 A1 = some A2 := e1
        rw [if_neg es, hb1_some, if_pos rfl, e1', hb1_some, if_neg (nl_i (by omega) (by omega) (by omega)), iI_s]
        rcases e5 with ⟨e5, e6, e7, e8⟩ | ⟨e5, e6⟩
        · have e5' : f_X12_takes 59 B1 = some (1, B2) := e5
          have hS2 : SX tb n A2 B2 (p' + 1) c' off' (t + 1) := ⟨e7, e8, hn, by rw [e3.2 18 (by decide) (by decide) (by decide)]; exact k18, by rw [e2 15 (by decide)]; exact k6, by omega, by rw [e2 15 (by decide)]; exact k3, by rw [e3.2 20 (by decide) (by decide) (by decide)]; exact k20, k16⟩
          have hL2 : LW A2 B2 (c' + off') c' (t + 1) := hL'.same e2 e3.1
          obtain ⟨A3, B3, i1, i2, i3, i4⟩ := ih (p' + 1) c' off' (t + 1) A2 B2 hS2 hL2 (by omega)
          rw [e5', hb2_some, if_neg i10]
          have es3 : hb2 (f_X12_readsRule N B2) (fun x103 M104 => if x103 = 0 then f_X12_law_L31 N k 0 M104 else f_X12_law_L31 N k 1 M104) = hb2 (f_X12_readsRule N B2) (fun x M => f_X12_law_L31 N k x M) := by
            obtain ⟨_, B4, _, _, _, y⟩ := rule_ok (N := N) hN hS2 hL2
            rcases y with ⟨_, _, _, _, _, _, _, y⟩ | ⟨_, y⟩
            · rw [y, hb2_some, hb2_some, if_neg i10]
            · rw [y, hb2_some, hb2_some, if_pos rfl]
          rw [es3]
          exact ⟨A3, B3, i1, g2.trans (e2.D.R.trans i2), g3.trans (e3.D.R.trans i3), i4⟩
        · have e5' : f_X12_takes 59 B1 = some (0, B2) := e5
          obtain ⟨q, rfl⟩ : ∃ q, k = q + 1 := ⟨k - 1, by omega⟩
          rw [e5', hb2_some, if_pos rfl, lw_dead _ e6.dead, f_X12_law_L31, if_pos rfl]
          exact ⟨A2, B2, rfl, g2.trans e2.D.R, g3.trans e3.D.R, Or.inr ⟨e6, rfl⟩⟩
      · have es : sgn tb n p' = -1 := if_neg e
        rw [es, if_pos (show iI (-1) = -1 from rfl), hb1_some, if_neg i10, if_pos (le_i (by omega) (by omega) (by omega))]
        exact ⟨A1, B1, rfl, g2, g3, Or.inl ⟨c', off', t + 1, by omega, k16, h2.2.2.2.2.2, k6, by omega, k3, k18, k20, hL', rfl⟩⟩
    · rw [f_X10_isAt, sign_dead h1.dead, hb1_some, if_pos rfl, hb1_some, if_neg i10, h2, hb2_some, f_X12_law_L31, if_pos rfl]
      exact ⟨A1, B1, rfl, g2, g3, Or.inr ⟨h1, rfl⟩⟩
theorem nx_u {i : Nat} (g f : Nat → Int32) (hg : ∀ p, p < i → g p = f p) : ∀ p, p < i + 1 → upd g i (f i) p = f p := fun p hp => by
  simp only [upd]
  by_cases q : p = i
  · rw [if_pos q, q]
  · rw [if_neg q]; exact hg p (by omega)
theorem cpc_L {N cm : Nat} (M : HMem) (hc : M 74 18 = iI (cm : Int)) (hm : cm ≤ 240) : ∀ (k i : Nat) (g : Nat → Int32), i ≤ cm → cm - i < k → (∀ p, p < i → g p = M 85 p) → ∃ gk, (∀ p, p < cm → gk p = M 85 p) ∧ f_X12_law_L95 N k (iI i) (hput M 91 g) = f_X12_law_L123 N N 0 (hput M 91 gk) := by
  intro k
  induction k with
  | zero => intro i _ _ h; exfalso; omega
  | succ k ih =>
    intro i g hi hk h1
    rw [f_X12_law_L95, hput_ne _ _ (by decide), hc]
    by_cases e : i = cm
    · subst e
      rw [if_pos (le_i (by omega) (by omega) (by omega))]
      exact ⟨g, h1, rfl⟩
    · have e1 : hput M 91 g 85 i = M 85 i := by rw [hput_ne _ _ (by decide)]
      rw [if_neg (nl_i (by omega) (by omega) (by omega)), show hib (iI (i : Int)) 260 = true from hib_t (by omega) (by omega) (by omega), if_pos rfl, if_pos rfl, iI_natc (by omega), iI_s, e1, hset_put]
      exact ih (i + 1) _ (by omega) (by omega) (nx_u g _ h1)
theorem cpr_L {N t : Nat} (M : HMem) (hc : M 74 20 = iI (t : Int)) (hm : t ≤ 16) : ∀ (k i : Nat) (g1 g2 g3 g4 : Nat → Int32), i ≤ t → t - i < k → (∀ p, p < i → g1 p = M 87 p) → (∀ p, p < i → g2 p = M 88 p) → (∀ p, p < i → g3 p = M 89 p) → (∀ p, p < i → g4 p = M 90 p) → ∃ d1 d2 d3 d4, (∀ p, p < t → d1 p = M 87 p) ∧ (∀ p, p < t → d2 p = M 88 p) ∧ (∀ p, p < t → d3 p = M 89 p) ∧ (∀ p, p < t → d4 p = M 90 p) ∧ f_X12_law_L123 N k (iI i) (hput (hput (hput (hput M 92 g1) 93 g2) 94 g3) 95 g4) = some (iI (t : Int), hput (hput (hput (hput M 92 d1) 93 d2) 94 d3) 95 d4) := by
  intro k
  induction k with
  | zero => intro i _ _ _ _ _ h; exfalso; omega
  | succ k ih =>
    intro i g1 g2 g3 g4 hi hk h1 h2 h3 h4
    have el : ∀ (a b c d : Nat → Int32) (k' : Nat), k' ≠ 92 → k' ≠ 93 → k' ≠ 94 → k' ≠ 95 → hput (hput (hput (hput M 92 a) 93 b) 94 c) 95 d k' = M k' := fun a b c d k' x1 x2 x3 x4 => by rw [hput_ne _ _ x4, hput_ne _ _ x3, hput_ne _ _ x2, hput_ne _ _ x1]
    rw [f_X12_law_L123, el _ _ _ _ 74 (by decide) (by decide) (by decide) (by decide), hc]
    by_cases e : i = t
    · subst e
      rw [if_pos (le_i (by omega) (by omega) (by omega))]
      exact ⟨g1, g2, g3, g4, h1, h2, h3, h4, rfl⟩
    · have s1 : ∀ (a b c d : Nat → Int32) u, hset (hput (hput (hput (hput M 92 a) 93 b) 94 c) 95 d) 92 i u = hput (hput (hput (hput M 92 (upd a i u)) 93 b) 94 c) 95 d := fun a b c d u => by rw [hset_put_ne _ _ _ _ (by decide), hset_put_ne _ _ _ _ (by decide), hset_put_ne _ _ _ _ (by decide), hset_put]
      have s2 : ∀ (a b c d : Nat → Int32) u, hset (hput (hput (hput (hput M 92 a) 93 b) 94 c) 95 d) 93 i u = hput (hput (hput (hput M 92 a) 93 (upd b i u)) 94 c) 95 d := fun a b c d u => by rw [hset_put_ne _ _ _ _ (by decide), hset_put_ne _ _ _ _ (by decide), hset_put]
      have s3 : ∀ (a b c d : Nat → Int32) u, hset (hput (hput (hput (hput M 92 a) 93 b) 94 c) 95 d) 94 i u = hput (hput (hput (hput M 92 a) 93 b) 94 (upd c i u)) 95 d := fun a b c d u => by rw [hset_put_ne _ _ _ _ (by decide), hset_put]
      have s4 : ∀ (a b c d : Nat → Int32) u, hset (hput (hput (hput (hput M 92 a) 93 b) 94 c) 95 d) 95 i u = hput (hput (hput (hput M 92 a) 93 b) 94 c) 95 (upd d i u) := fun a b c d u => by rw [hset_put]
      have hh : hib (iI (i : Int)) 16 = true := hib_t (by omega) (by omega) (by omega)
      have l1 : ∀ a b c d : Nat → Int32, hput (hput (hput (hput M 92 a) 93 b) 94 c) 95 d 87 i = M 87 i := fun a b c d => by rw [el _ _ _ _ 87 (by decide) (by decide) (by decide) (by decide)]
      have l2 : ∀ a b c d : Nat → Int32, hput (hput (hput (hput M 92 a) 93 b) 94 c) 95 d 88 i = M 88 i := fun a b c d => by rw [el _ _ _ _ 88 (by decide) (by decide) (by decide) (by decide)]
      have l3 : ∀ a b c d : Nat → Int32, hput (hput (hput (hput M 92 a) 93 b) 94 c) 95 d 89 i = M 89 i := fun a b c d => by rw [el _ _ _ _ 89 (by decide) (by decide) (by decide) (by decide)]
      have l4 : ∀ a b c d : Nat → Int32, hput (hput (hput (hput M 92 a) 93 b) 94 c) 95 d 90 i = M 90 i := fun a b c d => by rw [el _ _ _ _ 90 (by decide) (by decide) (by decide) (by decide)]
      rw [if_neg (nl_i (by omega) (by omega) (by omega)), hh, if_pos rfl, if_pos rfl, hb1_some, if_pos rfl, if_pos rfl, hb1_some, if_pos rfl, if_pos rfl, hb1_some, if_pos rfl, if_pos rfl, iI_natc (by omega), iI_s, l1, s1, l2, s2, l3, s3, l4, s4]
      exact ih (i + 1) _ _ _ _ (by omega) (by omega) (nx_u g1 _ h1) (nx_u g2 _ h2) (nx_u g3 _ h3) (nx_u g4 _ h4)
/-- THE LAW as it stands -/
def ILaw (M : HMem) : Prop := ∃ t sz cm : Nat, t ≤ 16 ∧ sz ≤ 240 ∧ cm ≤ 240 ∧ M 23 3 = iI (t : Int) ∧ M 74 21 = iI (t : Int) ∧ M 23 6 = iI (sz : Int) ∧ ∀ s, s < t → RU (M 24) (M 25) (M 26) (M 27) (M 28) (M 92) (M 93) (M 94) (M 95) (M 91) sz cm s
theorem ILaw.congr {M M' : HMem} (h : ILaw M) (e : ∀ k j, grp k j = 5 → M' k j = M k j) : ILaw M' := by
  obtain ⟨t, sz, cm, h1, h2, h3, h4, h5, h6, h7⟩ := h
  have ef : ∀ k, (∀ j, grp k j = 5) → M' k = M k := fun k hk => funext (fun j => e k j (hk j))
  refine ⟨t, sz, cm, h1, h2, h3, by rw [e 23 3 rfl]; exact h4, by rw [e 74 21 rfl]; exact h5, by rw [e 23 6 rfl]; exact h6, ?_⟩
  rw [ef 24 (fun _ => rfl), ef 25 (fun _ => rfl), ef 26 (fun _ => rfl), ef 27 (fun _ => rfl), ef 28 (fun _ => rfl), ef 91 (fun _ => rfl), ef 92 (fun _ => rfl), ef 93 (fun _ => rfl), ef 94 (fun _ => rfl), ef 95 (fun _ => rfl)]
  exact h7
theorem ILaw.C {M : HMem} (h : ILaw M) : ILawC M := by
  obtain ⟨t, sz, cm, h1, h2, h3, h4, h5, h6, h7⟩ := h
  show M 23 3 = M 74 21
  rw [h4, h5]
theorem law_run {M : HMem} {tb : Nat → Nat} {n N : Nat} (hN : 300 ≤ N) (hn : n ≤ 240) (hc : cT tb M) : ∀ Mb : HMem, rT tb Mb → ∃ A' B' : HMem, f_X6_read N (f_X10_open (iI n) M) = some A' ∧ ocR M A' ∧ (∀ k, k ≠ 74 → k ≠ 85 → k ≠ 86 → k ≠ 87 → k ≠ 88 → k ≠ 89 → k ≠ 90 → B' k = Mb k) ∧ (∀ j, j ≠ 13 → j ≠ 14 → j ≠ 15 → j ≠ 16 → j ≠ 17 → j ≠ 18 → j ≠ 19 → j ≠ 20 → B' 74 j = Mb 74 j) ∧ ((∃ c' off' t' : Nat, 1 ≤ t' ∧ t' ≤ 16 ∧ A' 1 4 = 0 ∧ A' 15 6 = iI ((c' + off' : Nat) : Int) ∧ c' + off' ≤ 240 ∧ A' 15 3 = iI (t' : Int) ∧ B' 74 18 = iI (c' : Int) ∧ B' 74 20 = iI (t' : Int) ∧ LW A' B' (c' + off') c' t' ∧ hb2 (f_X12_readsRule N (f_X12_beginsText (iI n) Mb)) (fun x M => f_X12_law_L31 N N x M) = f_X12_law_J71 N 1 B') ∨ (FT A' B' ∧ hb2 (f_X12_readsRule N (f_X12_beginsText (iI n) Mb)) (fun x M => f_X12_law_L31 N N x M) = f_X12_law_J71 N 0 B')) := by
  intro Mb hr
  obtain ⟨o1, o2⟩ := open_CP hc n (by omega)
  have b1 := begin_RP hr n (by omega)
  obtain ⟨b2, b3⟩ := begin_o (iI n) Mb
  obtain ⟨A1, hA1⟩ : ∃ A1, A1 = f_X5_clear 15 (f_X10_open (iI n) M) := ⟨_, rfl⟩
  have e2 : ∀ k, k ≠ 15 → A1 k = f_X10_open (iI n) M k := fun k a => by rw [hA1, f_X5_clear, hset_nek _ _ _ a, hset_nek _ _ _ a]
  have hA : CP tb A1 n 0 := o1.cg (e2 2 (by decide)) (e2 1 (by decide))
  have hS : SX tb n A1 (f_X12_beginsText (iI n) Mb) 0 0 0 0 := by
    refine ⟨hA, b1, hn, ?_, ?_, by omega, ?_, ?_, by omega⟩
    · rw [f_X12_beginsText, hset_nej _ _ (by decide), hset_self]; rfl
    · rw [hA1, f_X5_clear, hset_self]; rfl
    · rw [hA1, f_X5_clear, hset_nej _ _ (by decide), hset_self]; rfl
    · rw [f_X12_beginsText, hset_self]; rfl
  obtain ⟨A', B', g1, g2, g3, g4⟩ := law_L (N := N) hN N 0 0 0 0 A1 _ hS (fun s hs => absurd hs (by omega)) (by omega)
  refine ⟨A', B', ?_, fun k a b c d e f g => ?_, fun k a b c d e f g => ?_, fun j a a2 b c d e f g => ?_, ?_⟩
  · rw [f_X6_read, ← hA1]; exact g1
  · rw [g2 k a b c d e f g, e2 k b]; exact o2 k a
  · rw [g3.1 k a b c d e f g, b2 k a]
  · rw [g3.2 j a b c d e f g, b3 j a a2 e g]
  · exact g4
theorem op_law (v : Int32) {N : Nat} (hN : 300 ≤ N) {M : HMem} (hT : ITape M) (hW : ILaw M) : ∃ r M1 M2, f_X11_law N v M = some (r, M1) ∧ f_X12_law N v M1 = some (r, M2) ∧ ITape M2 ∧ ILaw M2 ∧ othT 5 M M2 := by
  obtain ⟨z, z1, z2, rfl⟩ := iI_of v
  obtain ⟨sz, s1, s2, s3, s4, s5⟩ := id hT
  have ct := canTell_eq (mx := 240) s3 s1 s2 z1 z2 (by omega) (by omega)
  have ct' : f_X10_canTell (iI z) 240 M = if 1 ≤ z ∧ z ≤ 240 ∧ z ≤ sz then 1 else 0 := ct
  by_cases hz : 1 ≤ z ∧ z ≤ 240 ∧ z ≤ sz
  · obtain ⟨n, rfl⟩ : ∃ n : Nat, z = n := ⟨z.toNat, by omega⟩
    obtain ⟨tb, t1, t2⟩ := tb_of hT
    obtain ⟨A', -, a1, a2, -, -, a5⟩ := law_run (n := n) hN (by omega) t1 M (t2 M rfl)
    rw [if_pos hz] at ct'
    have hr0 : ∀ M1 : HMem, M1 74 12 = iI sz → f_X12_law N (iI n) M1 = hb2 (f_X12_readsRule N (f_X12_beginsText (iI n) M1)) (fun x M => f_X12_law_L31 N N x M) := fun M1 h => by
      rw [f_X12_law, show f_X12_in (iI n) 1 240 = 1 from in_1 (a := 1) (m := 240) hz.1 hz.2.1 (by omega) (by omega), if_neg i10, h, if_pos (le_i hz.2.2 (by omega) (by omega))]
    by_cases hf : A' 1 4 = 0
    · obtain ⟨M1, hM1⟩ : ∃ M1, M1 = f_X5_copyFrom 23 15 (f_X10_empty A') := ⟨_, rfl⟩
      have e0 : ∀ k, k ≠ 1 → f_X10_empty A' k = A' k := fun k hk => hset_nek _ _ _ hk
      have m1 : ∀ k, k ≠ 23 → k ≠ 24 → k ≠ 25 → k ≠ 26 → k ≠ 27 → k ≠ 28 → M1 k = f_X10_empty A' k := fun k a b c d e f => by
        rw [hM1, f_X5_copyFrom, hcpy, hput_ne _ _ f, hcpy, hput_ne _ _ e, hcpy, hput_ne _ _ d, hcpy, hput_ne _ _ c, hcpy, hput_ne _ _ b, hset_nek _ _ _ a, hset_nek _ _ _ a]
      have m23 : M1 23 3 = A' 15 3 ∧ M1 23 6 = A' 15 6 := by
        rw [hM1, f_X5_copyFrom, hcpy, hput_ne _ _ (by decide), hcpy, hput_ne _ _ (by decide), hcpy, hput_ne _ _ (by decide), hcpy, hput_ne _ _ (by decide), hcpy, hput_ne _ _ (by decide), hset_self, hset_nej _ _ (by decide), hset_self, hset_nek _ _ _ (by decide), e0 15 (by decide)]
        exact ⟨rfl, rfl⟩
      have mc : ∀ i n', 0 < i → i < 6 → (i < 4 → n' = 16) → (4 ≤ i → n' = 240) → ∀ p, p < n' → M1 (23 + i) p = A' (15 + i) p := fun i n' i1 i2 i3 i4 p hp => by
        rcases (show i = 1 ∨ i = 2 ∨ i = 3 ∨ i = 4 ∨ i = 5 by omega) with rfl | rfl | rfl | rfl | rfl
        · obtain rfl := i3 (by omega)
          rw [hM1, f_X5_copyFrom, hcpy, hput_ne _ _ (by decide), hcpy, hput_ne _ _ (by decide), hcpy, hput_ne _ _ (by decide), hcpy, hput_ne _ _ (by decide), hcpy, hput_self, va_cpy, if_pos (by omega), hset_nek _ _ _ (by decide), hset_nek _ _ _ (by decide), e0 _ (by decide)]
          congr 1; omega
        · obtain rfl := i3 (by omega)
          rw [hM1, f_X5_copyFrom, hcpy, hput_ne _ _ (by decide), hcpy, hput_ne _ _ (by decide), hcpy, hput_ne _ _ (by decide), hcpy, hput_self, va_cpy, if_pos (by omega), hcpy, hput_ne _ _ (by decide), hset_nek _ _ _ (by decide), hset_nek _ _ _ (by decide), e0 _ (by decide)]
          congr 1; omega
        · obtain rfl := i3 (by omega)
          rw [hM1, f_X5_copyFrom, hcpy, hput_ne _ _ (by decide), hcpy, hput_ne _ _ (by decide), hcpy, hput_self, va_cpy, if_pos (by omega), hcpy, hput_ne _ _ (by decide), hcpy, hput_ne _ _ (by decide), hset_nek _ _ _ (by decide), hset_nek _ _ _ (by decide), e0 _ (by decide)]
          congr 1; omega
        · obtain rfl := i4 (by omega)
          rw [hM1, f_X5_copyFrom, hcpy, hput_ne _ _ (by decide), hcpy, hput_self, va_cpy, if_pos (by omega), hcpy, hput_ne _ _ (by decide), hcpy, hput_ne _ _ (by decide), hcpy, hput_ne _ _ (by decide), hset_nek _ _ _ (by decide), hset_nek _ _ _ (by decide), e0 _ (by decide)]
          congr 1; omega
        · obtain rfl := i4 (by omega)
          rw [hM1, f_X5_copyFrom, hcpy, hput_self, va_cpy, if_pos (by omega), hcpy, hput_ne _ _ (by decide), hcpy, hput_ne _ _ (by decide), hcpy, hput_ne _ _ (by decide), hcpy, hput_ne _ _ (by decide), hset_nek _ _ _ (by decide), hset_nek _ _ _ (by decide), e0 _ (by decide)]
          congr 1; omega
      have aM : ∀ k, k ≠ 1 → k ≠ 15 → k ≠ 16 → k ≠ 17 → k ≠ 18 → k ≠ 19 → k ≠ 20 → k ≠ 23 → k ≠ 24 → k ≠ 25 → k ≠ 26 → k ≠ 27 → k ≠ 28 → M1 k = M k := fun k b1 b2 b3 b4 b5 b6 b7 c1 c2 c3 c4 c5 c6 => by
        rw [m1 k c1 c2 c3 c4 c5 c6, e0 k b1, a2 k b1 b2 b3 b4 b5 b6 b7]
      have m84 : M1 84 = M 84 := by apply aM <;> decide
      have m74 : M1 74 = M 74 := by apply aM <;> decide
      have m2 : M1 2 = M 2 := by apply aM <;> decide
      obtain ⟨A2, B', b1, b2, b3, b4, b5⟩ := law_run (n := n) hN (by omega) t1 M1 (t2 M1 m84)
      rw [a1] at b1
      injection b1 with b1
      subst b1
      rcases b5 with ⟨c', off', t, u1, u1', u2, u3, u4, u5, u6, u7, u8, u9⟩ | ⟨u1, -⟩
      · obtain ⟨C0, hC0⟩ : ∃ C0, C0 = hset (hset B' 74 12 0) 74 21 (iI (t : Int)) := ⟨_, rfl⟩
        have c0 : ∀ k, k ≠ 74 → C0 k = B' k := fun k a => by rw [hC0, hset_nek _ _ _ a, hset_nek _ _ _ a]
        have c74 : ∀ j, j ≠ 12 → j ≠ 21 → C0 74 j = B' 74 j := fun j a b => by rw [hC0, hset_nej _ _ b, hset_nej _ _ a]
        obtain ⟨gk, y1, y2⟩ := cpc_L (N := N) (cm := c') C0 (by rw [c74 18 (by decide) (by decide)]; exact u6) (by omega) N 0 (C0 91) (by omega) (by omega) (fun p h => absurd h (by omega))
        rw [hput_eta] at y2
        obtain ⟨C1, hC1⟩ : ∃ C1, C1 = hput C0 91 gk := ⟨_, rfl⟩
        rw [← hC1] at y2
        have c1 : ∀ k, k ≠ 91 → C1 k = C0 k := fun k a => by rw [hC1, hput_ne _ _ a]
        obtain ⟨d1, d2, d3, d4, w1, w2, w3, w4, w5⟩ := cpr_L (N := N) (t := t) C1 (by rw [c1 74 (by decide), c74 20 (by decide) (by decide)]; exact u7) (by omega) N 0 (C1 92) (C1 93) (C1 94) (C1 95) (by omega) (by omega) (fun p h => absurd h (by omega)) (fun p h => absurd h (by omega)) (fun p h => absurd h (by omega)) (fun p h => absurd h (by omega))
        have et : hput (hput (hput (hput C1 92 (C1 92)) 93 (C1 93)) 94 (C1 94)) 95 (C1 95) = C1 := by rw [hput_eta, hput_eta, hput_eta, hput_eta]
        rw [et] at w5
        obtain ⟨M2, hM2⟩ : ∃ M2, M2 = hput (hput (hput (hput C1 92 d1) 93 d2) 94 d3) 95 d4 := ⟨_, rfl⟩
        rw [← hM2] at w5
        have n1 : ∀ k, k ≠ 92 → k ≠ 93 → k ≠ 94 → k ≠ 95 → M2 k = C1 k := fun k a b c d => by rw [hM2, hput_ne _ _ d, hput_ne _ _ c, hput_ne _ _ b, hput_ne _ _ a]
        have n91 : ∀ p, p < c' → M2 91 p = B' 85 p := fun p hp => by rw [n1 91 (by decide) (by decide) (by decide) (by decide), hC1, hput_self, y1 p hp, c0 85 (by decide)]
        have n92 : ∀ p, p < t → M2 92 p = B' 87 p := fun p hp => by rw [hM2, hput_ne _ _ (by decide), hput_ne _ _ (by decide), hput_ne _ _ (by decide), hput_self, w1 p hp, c1 87 (by decide), c0 87 (by decide)]
        have n93 : ∀ p, p < t → M2 93 p = B' 88 p := fun p hp => by rw [hM2, hput_ne _ _ (by decide), hput_ne _ _ (by decide), hput_self, w2 p hp, c1 88 (by decide), c0 88 (by decide)]
        have n94 : ∀ p, p < t → M2 94 p = B' 89 p := fun p hp => by rw [hM2, hput_ne _ _ (by decide), hput_self, w3 p hp, c1 89 (by decide), c0 89 (by decide)]
        have n95 : ∀ p, p < t → M2 95 p = B' 90 p := fun p hp => by rw [hM2, hput_self, w4 p hp, c1 90 (by decide), c0 90 (by decide)]
        have n74 : M2 74 = C0 74 := by rw [n1 74 (by decide) (by decide) (by decide) (by decide), c1 74 (by decide)]
        have q1 : ∀ k, k ≠ 74 → k ≠ 91 → k ≠ 92 → k ≠ 93 → k ≠ 94 → k ≠ 95 → k ≠ 85 → k ≠ 86 → k ≠ 87 → k ≠ 88 → k ≠ 89 → k ≠ 90 → M2 k = M1 k := fun k a1 a2 a3 a4 a5 a6 a7 a8 a9 a10 a11 a12 => by rw [n1 k a3 a4 a5 a6, c1 k a2, c0 k a1, b3 k a1 a7 a8 a9 a10 a11 a12]
        refine ⟨iI (t : Int), M1, M2, ?_, ?_, ?_, ?_, ?_⟩
        · rw [f_X11_law, ct', if_neg i10, a1, hb1_some, show f_X10_isSound (f_X10_empty A') = 1 by rw [f_X10_isSound, f_X10_empty, hset_nej _ _ (by decide), if_pos hf], if_neg i10, ← hM1, m23.1, u5]
        · rw [hr0 M1 (by rw [m74]; exact s4), u9, f_X12_law_J71, if_neg i10, show hset B' 74 12 0 74 20 = iI (t : Int) by rw [hset_nej _ _ (by decide)]; exact u7, ← hC0]
          exact y2.trans w5
        · refine hT.ends ?_ ?_ ?_ ?_
          · rw [show M2 1 = M1 1 by apply q1 <;> decide, m1 1 (by decide) (by decide) (by decide) (by decide) (by decide) (by decide)]; exact hset_self _ _ _ _
          · rw [n74, hC0, hset_nej _ _ (by decide), hset_self]
          · rw [show M2 2 = M1 2 by apply q1 <;> decide, m2]
          · rw [show M2 84 = M1 84 by apply q1 <;> decide, m84]
        · refine ⟨t, c' + off', c', u1', u4, by omega, ?_, ?_, ?_, fun s hs => ?_⟩
          · rw [show M2 23 = M1 23 by apply q1 <;> decide, m23.1, u5]
          · rw [n74, hC0, hset_self]
          · rw [show M2 23 = M1 23 by apply q1 <;> decide, m23.2, u3]
          · have k24 : M2 24 = M1 24 := by apply q1 <;> decide
            have k25 : M2 25 = M1 25 := by apply q1 <;> decide
            have k26 : M2 26 = M1 26 := by apply q1 <;> decide
            have k27 : M2 27 = M1 27 := by apply q1 <;> decide
            have k28 : M2 28 = M1 28 := by apply q1 <;> decide
            refine (u8 s hs).cg ?_ ?_ ?_ (n92 s hs) (n93 s hs) (n94 s hs) (n95 s hs) (fun q hq => ⟨?_, ?_⟩) (fun q hq => n91 q hq) (Nat.le_refl _) (Nat.le_refl _)
            · rw [k24]; exact mc 1 16 (by omega) (by omega) (fun _ => rfl) (fun h => absurd h (by omega)) s (by omega)
            · rw [k25]; exact mc 2 16 (by omega) (by omega) (fun _ => rfl) (fun h => absurd h (by omega)) s (by omega)
            · rw [k26]; exact mc 3 16 (by omega) (by omega) (fun _ => rfl) (fun h => absurd h (by omega)) s (by omega)
            · rw [k27]; exact mc 4 240 (by omega) (by omega) (fun h => absurd h (by omega)) (fun _ => rfl) q (by omega)
            · rw [k28]; exact mc 5 240 (by omega) (by omega) (fun h => absurd h (by omega)) (fun _ => rfl) q (by omega)
        · intro k j g0 g1 g5
          by_cases k74 : k = 74
          · subst k74
            have j21 : j ≠ 21 := fun h => by subst h; exact g5 rfl
            have j12 : j ≠ 12 := fun h => by subst h; exact g1 rfl
            have jj : ∀ i, grp 74 i = 0 → j ≠ i := fun i hi h => by subst h; exact g0 hi
            rw [n74, c74 j j12 j21, b4 j (jj 13 rfl) (jj 14 rfl) (jj 15 rfl) (jj 16 rfl) (jj 17 rfl) (jj 18 rfl) (jj 19 rfl) (jj 20 rfl), m74]
          · have kk : ∀ i, (∀ j, grp i j = 0 ∨ grp i j = 1 ∨ grp i j = 5) → k ≠ i := fun i hi h => by
              subst h
              rcases hi j with h | h | h
              · exact g0 h
              · exact g1 h
              · exact g5 h
            have k0 : ∀ i, (∀ j, grp i j = 0) → k ≠ i := fun i hi => kk i (fun j => Or.inl (hi j))
            have k5 : ∀ i, (∀ j, grp i j = 5) → k ≠ i := fun i hi => kk i (fun j => Or.inr (Or.inr (hi j)))
            have g23 : ∀ j, grp 23 j = 0 ∨ grp 23 j = 1 ∨ grp 23 j = 5 := fun j => by by_cases h : j = 3 <;> by_cases h6 : j = 6 <;> simp [grp, h, h6]
            have g1' : ∀ j, grp 1 j = 0 ∨ grp 1 j = 1 ∨ grp 1 j = 5 := fun j => by by_cases h : j = 1 <;> simp [grp, h]
            rw [q1 k k74 (k5 91 (fun _ => rfl)) (k5 92 (fun _ => rfl)) (k5 93 (fun _ => rfl)) (k5 94 (fun _ => rfl)) (k5 95 (fun _ => rfl)) (k0 85 (fun _ => rfl)) (k0 86 (fun _ => rfl)) (k0 87 (fun _ => rfl)) (k0 88 (fun _ => rfl)) (k0 89 (fun _ => rfl)) (k0 90 (fun _ => rfl)), aM k (kk 1 g1') (k0 15 (fun _ => rfl)) (k0 16 (fun _ => rfl)) (k0 17 (fun _ => rfl)) (k0 18 (fun _ => rfl)) (k0 19 (fun _ => rfl)) (k0 20 (fun _ => rfl)) (kk 23 g23) (k5 24 (fun _ => rfl)) (k5 25 (fun _ => rfl)) (k5 26 (fun _ => rfl)) (k5 27 (fun _ => rfl)) (k5 28 (fun _ => rfl))]
      · exact absurd hf u1.dead
    · obtain ⟨M1, hM1⟩ : ∃ M1, M1 = f_X10_empty A' := ⟨_, rfl⟩
      have e0 : ∀ k, k ≠ 1 → M1 k = A' k := fun k hk => by rw [hM1]; exact hset_nek _ _ _ hk
      have aM : ∀ k, k ≠ 1 → k ≠ 15 → k ≠ 16 → k ≠ 17 → k ≠ 18 → k ≠ 19 → k ≠ 20 → M1 k = M k := fun k b1 b2 b3 b4 b5 b6 b7 => by
        rw [e0 k b1, a2 k b1 b2 b3 b4 b5 b6 b7]
      have m84 : M1 84 = M 84 := by apply aM <;> decide
      have m74 : M1 74 = M 74 := by apply aM <;> decide
      have m2 : M1 2 = M 2 := by apply aM <;> decide
      obtain ⟨A2, B', b1, b2, b3, b4, b5⟩ := law_run (n := n) hN (by omega) t1 M1 (t2 M1 m84)
      rw [a1] at b1
      injection b1 with b1
      subst b1
      rcases b5 with ⟨c', off', t, u1, u1', u2, u3⟩ | ⟨u1, u2⟩
      · exact absurd u2 hf
      · obtain ⟨f1, f2⟩ := fa_eq u1
        have n1 : ∀ k, k ≠ 74 → hset B' 74 12 0 k = B' k := fun k a => hset_nek _ _ _ a
        have q1 : ∀ k, k ≠ 74 → k ≠ 85 → k ≠ 86 → k ≠ 87 → k ≠ 88 → k ≠ 89 → k ≠ 90 → hset B' 74 12 0 k = M1 k := fun k a b c d e f g => by rw [n1 k a, b3 k a b c d e f g]
        have fr : othT 0 M (hset B' 74 12 0) := by
          intro k j g0 g1 _
          by_cases k74 : k = 74
          · subst k74
            have j12 : j ≠ 12 := fun h => by subst h; exact g1 rfl
            have jj : ∀ i, grp 74 i = 0 → j ≠ i := fun i hi h => by subst h; exact g0 hi
            rw [hset_nej _ _ j12, b4 j (jj 13 rfl) (jj 14 rfl) (jj 15 rfl) (jj 16 rfl) (jj 17 rfl) (jj 18 rfl) (jj 19 rfl) (jj 20 rfl), m74]
          · have kk : ∀ i, (∀ j, grp i j = 0 ∨ grp i j = 1) → k ≠ i := fun i hi h => by
              subst h
              rcases hi j with h | h
              · exact g0 h
              · exact g1 h
            have k0 : ∀ i, (∀ j, grp i j = 0) → k ≠ i := fun i hi => kk i (fun j => Or.inl (hi j))
            have g1' : ∀ j, grp 1 j = 0 ∨ grp 1 j = 1 := fun j => by by_cases h : j = 1 <;> simp [grp, h]
            rw [q1 k k74 (k0 85 (fun _ => rfl)) (k0 86 (fun _ => rfl)) (k0 87 (fun _ => rfl)) (k0 88 (fun _ => rfl)) (k0 89 (fun _ => rfl)) (k0 90 (fun _ => rfl)), aM k (kk 1 g1') (k0 15 (fun _ => rfl)) (k0 16 (fun _ => rfl)) (k0 17 (fun _ => rfl)) (k0 18 (fun _ => rfl)) (k0 19 (fun _ => rfl)) (k0 20 (fun _ => rfl))]
        refine ⟨B' 74 15, M1, hset B' 74 12 0, ?_, ?_, ?_, hW.congr (fun k j e => fr k j (by omega) (by omega) (by omega)), fun k j a b c => fr k j a b a⟩
        · rw [f_X11_law, ct', if_neg i10, a1, hb1_some, f1, if_pos rfl, f2, hM1]
        · rw [hr0 M1 (by rw [m74]; exact s4), u2, f_X12_law_J71, if_pos rfl, hset_nej _ _ (by decide)]
        · refine hT.ends ?_ ?_ ?_ ?_
          · rw [show hset B' 74 12 0 1 = M1 1 by apply q1 <;> decide, hM1]; exact hset_self _ _ _ _
          · rw [hset_self]
          · rw [show hset B' 74 12 0 2 = M1 2 by apply q1 <;> decide, m2]
          · rw [show hset B' 74 12 0 84 = M1 84 by apply q1 <;> decide, m84]
  · rw [if_neg hz] at ct'
    refine ⟨-1, M, M, by rw [f_X11_law, ct', if_pos rfl], ?_, hT, hW, fun _ _ _ _ _ => rfl⟩
    rw [f_X12_law, show f_X12_in (iI z) 1 240 = _ from in_eq (a := 1) (m := 240) z1 z2 (by omega) (by omega) (by omega) (by omega), s4]
    by_cases h : 1 ≤ z ∧ z ≤ 240
    · rw [if_pos h, if_neg i10, if_neg (nl_i (by omega) (by omega) (by omega))]
    · rw [if_neg h, if_pos rfl]

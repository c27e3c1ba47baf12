/-! LINES as texts: recursion here, a row of open rounds there -/
def ocN (A A' : HMem) : Prop := ∀ k, k ≠ 1 → k ≠ 8 → k ≠ 9 → A' k = A k
def oBN (d : Nat) (B B' : HMem) : Prop := (∀ k, k ≠ 74 → k ≠ 98 → k ≠ 99 → k ≠ 100 → k ≠ 101 → B' k = B k) ∧ (∀ j, j ≠ 13 → j ≠ 15 → j ≠ 16 → j ≠ 39 → j ≠ 40 → j ≠ 41 → j ≠ 42 → B' 74 j = B 74 j) ∧ ∀ i, i < d → B' 99 i = B 99 i ∧ B' 100 i = B 100 i ∧ B' 101 i = B 101 i
theorem ocN.trans {A A' A2 : HMem} (h : ocN A A') (h2 : ocN A' A2) : ocN A A2 := fun k a b c => (h2 k a b c).trans (h k a b c)
theorem oBN.trans {d : Nat} {A A' A2 : HMem} (h : oBN d A A') (h2 : oBN d A' A2) : oBN d A A2 := ⟨fun k a b c d e => (h2.1 k a b c d e).trans (h.1 k a b c d e), fun j a b c d e f g => (h2.2.1 j a b c d e f g).trans (h.2.1 j a b c d e f g), fun i hi => ⟨(h2.2.2 i hi).1.trans (h.2.2 i hi).1, (h2.2.2 i hi).2.1.trans (h.2.2 i hi).2.1, (h2.2.2 i hi).2.2.trans (h.2.2 i hi).2.2⟩⟩
theorem oBN.le {d e : Nat} {A A' : HMem} (h : oBN d A A') (he : e ≤ d) : oBN e A A' := ⟨h.1, h.2.1, fun i hi => h.2.2 i (by omega)⟩
theorem oc1.N {A A' : HMem} (h : oc1 A A') : ocN A A' := fun k a _ _ => h k a
theorem oB.N {A A' : HMem} (h : oB A A') (d : Nat) : oBN d A A' := ⟨fun k a _ _ _ _ => h.1 k a, fun j a b c _ _ _ _ => h.2 j a b c, fun i _ => ⟨by rw [h.1 99 (by decide)], by rw [h.1 100 (by decide)], by rw [h.1 101 (by decide)]⟩⟩
theorem oBN_set (d : Nat) (B : HMem) {j : Nat} (v : Int32) (h : j = 13 ∨ j = 15 ∨ j = 39 ∨ j = 40 ∨ j = 41 ∨ j = 42) : oBN d B (hset B 74 j v) := ⟨fun k a _ _ _ _ => hset_nek _ _ _ a, fun i a b c d e f g => hset_nej _ _ (by omega), fun i _ => ⟨by rw [hset_nek _ _ _ (by decide)], by rw [hset_nek _ _ _ (by decide)], by rw [hset_nek _ _ _ (by decide)]⟩⟩
theorem oBN_rep {d : Nat} {B B' : HMem} (h1 : ∀ k, k ≠ 74 → k ≠ 98 → B' k = B k) (h2 : ∀ j, j ≠ 39 → B' 74 j = B 74 j) : oBN d B B' := ⟨fun k a b _ _ _ => h1 k a b, fun j _ _ _ a _ _ _ => h2 j a, fun i _ => ⟨by rw [h1 99 (by decide) (by decide)], by rw [h1 100 (by decide) (by decide)], by rw [h1 101 (by decide) (by decide)]⟩⟩
theorem ocN_rep {A A' : HMem} (h1 : ∀ k, k ≠ 8 → k ≠ 9 → A' k = A k) : ocN A A' := fun k _ a b => h1 k a b
section
variable (N : Nat) (v1 v2 v3 v4 : Int32)
def lG (k2 k1 : Nat) (B : HMem) : Option (Int32 × HMem) := hb2 (f_X12_readsStep_L4 N k1 B) (fun x M => f_X12_line_L74 N v1 v2 v3 v4 k2 x M)
def lS (k2 k1 : Nat) (B : HMem) : Option (Int32 × HMem) := hb2 (hb1 (f_X12_readsTimes B) (fun M => f_X12_readsStep_L4 N k1 M)) (fun x M => f_X12_line_L74 N v1 v2 v3 v4 k2 x M)
def lH (k2 k1 : Nat) (B : HMem) : Option (Int32 × HMem) := hb2 (f_X12_readsStep_L196 N k1 B) (fun x M => f_X12_line_L74 N v1 v2 v3 v4 k2 x M)
theorem l74_0 {k : Nat} (hk : 1 ≤ k) (M : HMem) : f_X12_line_L74 N v1 v2 v3 v4 k 0 M = f_X12_line_J106 N v1 v2 v3 v4 0 M := by
  obtain ⟨q, rfl⟩ : ∃ q, k = q + 1 := ⟨k - 1, by omega⟩
  rw [f_X12_line_L74, if_pos rfl]
end
theorem times_L {tb : Nat → Nat} {A B : HMem} {n p N : Nat} (cb : Nat → Int32 → HMem → Option HMem) (v : Int32) (hA : CP tb A n p) (hB : RP tb B n p) : ∃ (A1 B1 : HMem) (p1 t : Nat), f_X7_readOne N cb v A = f_X7_readOne_J52 N cb v (iI p) (iI t) A1 ∧ f_X12_readsTimes B = some B1 ∧ p ≤ p1 ∧ 1 ≤ t ∧ t ≤ 9 ∧ CP tb A1 n p1 ∧ RP tb B1 n p1 ∧ oc1 A A1 ∧ (∀ d, oBN d B B1) ∧ B1 74 41 = iI p ∧ B1 74 42 = iI t ∧ B1 74 39 = B 74 39 ∧ B1 74 40 = B 74 40 ∧ B1 98 = B 98 := by
  have hs := sgn_rg hA
  have hB2 : RP tb (hset (hset B 74 41 (iI p)) 74 42 1) n p := hB.cg (by rw [hset_nek _ _ _ (by decide), hset_nek _ _ _ (by decide)]) (by rw [hset_nej _ _ (by decide), hset_nej _ _ (by decide)]) (by rw [hset_nej _ _ (by decide), hset_nej _ _ (by decide)])
  have fr2 : ∀ d, oBN d B (hset (hset B 74 41 (iI p)) 74 42 1) := fun d => (oBN_set d _ _ (by decide)).trans (oBN_set d _ _ (by decide))
  rw [f_X7_readOne, sign_ok hA, hb1_some, hb1_some, hb1_some, hA.2.2.2.2.1, f_X12_readsTimes, hB.2.2.2.2, here_ok hB2, hb1_some (iI (sgn tb n p)), hb1_some (iI (sgn tb n p)), hb1_some, show f_X12_in (iI (sgn tb n p)) 50 57 = _ from in_eq (a := 50) (m := 57) (by omega) (by omega) (by omega) (by omega) (by omega) (by omega), show (50 : Int32) = iI 50 from rfl, show (57 : Int32) = iI 57 from rfl]
  by_cases q : 50 ≤ sgn tb n p ∧ sgn tb n p ≤ 57
  · have hp : p < n := by
      unfold sgn at q
      split at q
      · assumption
      · omega
    obtain ⟨e1, e2⟩ := pass_ok hA hp
    obtain ⟨t, ht⟩ : ∃ t : Nat, sgn tb n p - 48 = t := ⟨(sgn tb n p - 48).toNat, by omega⟩
    rw [if_neg (nlt_i (by omega) (by omega) (by omega)), if_neg (nlt_i (by omega) (by omega) (by omega)), if_pos q, if_neg i10, show iI (sgn tb n p) - 48 = iI (t : Int) from (iI_sub _ 48).trans (by rw [ht])]
    refine ⟨_, _, p + 1, t, rfl, rfl, by omega, by omega, by omega, e2, ?_, ?_, ?_, ?_, ?_, ?_, ?_, ?_⟩
    · have : RP tb (hset (hset (hset B 74 41 (iI p)) 74 42 1) 74 42 (iI t)) n p := hB2.cg (hset_nek _ _ _ (by decide)) (hset_nej _ _ (by decide)) (hset_nej _ _ (by decide))
      rw [hset_nej _ _ (show 13 ≠ 42 by decide), hset_nej _ _ (show 13 ≠ 42 by decide), hset_nej _ _ (show 13 ≠ 41 by decide), hB.2.2.2.2, iI_s]
      exact this.step hp
    · rw [e1]; exact oc1_set _ _ _
    · exact fun d => ((fr2 d).trans (oBN_set d _ _ (by decide))).trans (oBN_set d _ _ (by decide))
    · rw [hset_nej _ _ (by decide), hset_nej _ _ (by decide), hset_nej _ _ (by decide), hset_self]
    · rw [hset_nej _ _ (by decide), hset_self]
    · rw [hset_nej _ _ (by decide), hset_nej _ _ (by decide), hset_nej _ _ (by decide), hset_nej _ _ (by decide)]
    · rw [hset_nej _ _ (by decide), hset_nej _ _ (by decide), hset_nej _ _ (by decide), hset_nej _ _ (by decide)]
    · rw [hset_nek _ _ _ (by decide), hset_nek _ _ _ (by decide), hset_nek _ _ _ (by decide), hset_nek _ _ _ (by decide)]
  · have eC : ∀ X Y : Option HMem, (if iI (sgn tb n p) < iI 50 then X else if iI 57 < iI (sgn tb n p) then X else Y) = X := fun X Y => by
      by_cases x : sgn tb n p < 50
      · rw [if_pos (lt_i x (by omega) (by omega))]
      · rw [if_neg (nlt_i (by omega) (by omega) (by omega)), if_pos (lt_i (by omega) (by omega) (by omega))]
    rw [eC, if_neg q, if_pos rfl]
    refine ⟨A, _, p, 1, rfl, rfl, by omega, by omega, by omega, hA, hB2, oc1_rf _, fr2, ?_, ?_, ?_, ?_, ?_⟩
    · rw [hset_nej _ _ (by decide), hset_self]
    · rw [hset_self]; rfl
    · rw [hset_nej _ _ (by decide), hset_nej _ _ (by decide)]
    · rw [hset_nej _ _ (by decide), hset_nej _ _ (by decide)]
    · rw [hset_nek _ _ _ (by decide), hset_nek _ _ _ (by decide)]
theorem snd_ok {tb : Nat → Nat} {A : HMem} {n p : Nat} (h : CP tb A n p) : f_X10_isSound A = 1 := by rw [f_X10_isSound, if_pos h.2.2.2.2.2]
theorem snd_dead {A : HMem} (h : ¬ A 1 4 = 0) : f_X10_isSound A = 0 := by rw [f_X10_isSound, if_neg h]
theorem isAt_ok {tb : Nat → Nat} {A : HMem} {n p : Nat} {c : Int} (h : CP tb A n p) (c1 : -1 ≤ c) (c2 : c < 256) : f_X10_isAt (iI c) A = some (if sgn tb n p = c then 1 else 0) := by
  have hs := sgn_rg h
  rw [f_X10_isAt, sign_ok h, hb1_some]
  by_cases q : sgn tb n p = c
  · rw [if_pos (by rw [q]), if_pos q]
  · rw [if_neg (ne_i q (by omega) (by omega) (by omega) (by omega)), if_neg q]
def clo (d : Nat) : Int := if d = 0 then -1 else 41
/-- one item at depth d -/
def P1 (tb : Nat → Nat) (N n : Nat) (v1 v2 v3 v4 : Int32) (d : Nat) : Prop := ∀ (q k1 k2 p s0 t m : Nat) (A B : HMem), 1 + 3 * (2 - d) ≤ q → 4 - d ≤ k1 → 129 ≤ k2 + p → s0 ≤ 260 → 1 ≤ t → t ≤ 9 → CP tb A n p → RP tb B n p → SR A B m → B 74 40 = iI d → B 74 41 = iI s0 → B 74 42 = iI t → ∃ A' B', f_X7_readOne_J52 N (g_X7 N q) (iI d) (iI s0) (iI t) A = some A' ∧ ocN A A' ∧ oBN d B B' ∧ ((∃ p' m' k1' k2', p < p' ∧ CP tb A' n p' ∧ RP tb B' n p' ∧ SR A' B' m' ∧ m < m' ∧ B' 74 40 = iI d ∧ d + 1 ≤ k1' ∧ 130 ≤ k2' + p' ∧ lG N v1 v2 v3 v4 k2 k1 B = lH N v1 v2 v3 v4 k2' k1' B') ∨ (FT A' B' ∧ lG N v1 v2 v3 v4 k2 k1 B = f_X12_line_J106 N v1 v2 v3 v4 0 B'))
/-- items at depth d up to what closes them -/
def P2 (tb : Nat → Nat) (N n : Nat) (v1 v2 v3 v4 : Int32) (d : Nat) : Prop := ∀ (q k k1 k2 p i m : Nat) (A B : HMem), 2 + 3 * (2 - d) ≤ q → 4 - d ≤ k1 → 129 ≤ k2 + p → i ≤ p → 61 - i < k → CP tb A n p → RP tb B n p → SR A B m → B 74 40 = iI d → ∃ A' B', f_X7_readSteps_L13 N (g_X7 N q) (iI d) (iI (clo d)) k (iI i) A = some A' ∧ ocN A A' ∧ oBN d B B' ∧ ((∃ p' m' k1' k2', p < p' ∧ CP tb A' n p' ∧ RP tb B' n p' ∧ SR A' B' m' ∧ m < m' ∧ B' 74 40 = iI d ∧ d + 1 ≤ k1' ∧ 130 ≤ k2' + p' ∧ sgn tb n p' = clo d ∧ lS N v1 v2 v3 v4 k2 k1 B = lH N v1 v2 v3 v4 k2' k1' B') ∨ (FT A' B' ∧ lS N v1 v2 v3 v4 k2 k1 B = f_X12_line_J106 N v1 v2 v3 v4 0 B'))
theorem P2_of {tb : Nat → Nat} {N n : Nat} {v1 v2 v3 v4 : Int32} {d : Nat} (hN : 300 ≤ N) (hn : n ≤ 60) (hd : d ≤ 2) (h1 : P1 tb N n v1 v2 v3 v4 d) : P2 tb N n v1 v2 v3 v4 d := by
  intro q k
  induction k with
  | zero => intro k1 k2 p i m A B _ _ _ _ h; exfalso; omega
  | succ k ih =>
    intro k1 k2 p i m A B hq hk1 hk2 hi hk hA hB hS h40
    have hp := hA.2.2.1
    obtain ⟨q, rfl⟩ : ∃ q', q = q' + 1 := ⟨q - 1, by omega⟩
    obtain ⟨A1, B1, p1, t, e1, e2, e3, e4, e5, e6, e7, e8, e9, e10, e11, e12, e13, e14⟩ := times_L (N := N) (g_X7 N q) (iI d) hA hB
    have hS1 : SR A1 B1 m := hS.cg (e8 8 (by decide)) (e8 9 (by decide)) e12 e14
    obtain ⟨A2, B2, g1, g2, g3, g4⟩ := h1 q k1 k2 p1 p t m A1 B1 (by omega) hk1 (by omega) (by omega) e4 e5 e6 e7 hS1 (by rw [e13]; exact h40) e10 e11
    have ecb : g_X7 N (q + 1) 1 (iI d) A = some A2 := by
      show f_X7_readOne N (g_X7 N q) (iI d) A = some A2
      rw [e1, g1]
    have eS : lS N v1 v2 v3 v4 k2 k1 B = lG N v1 v2 v3 v4 k2 k1 B1 := by
      rw [lS, e2, hb1_some, lG]
    have oA : ocN A A2 := e8.N.trans g2
    have oBB : oBN d B B2 := (e9 d).trans g3
    rw [f_X7_readSteps_L13, if_neg (show ¬ (60 : Int32) < iI (i : Int) from nlt_i (a := 60) (by omega) (by omega) (by omega)), ecb, hb1_some, eS]
    rcases g4 with ⟨p', m', k1', k2', f1, f2, f3, f4, f5, f6, f7, f8, f9⟩ | ⟨f1, f2⟩
    · have hs := sgn_rg f2
      have hp' := f2.2.2.1
      rw [snd_ok f2, if_neg i10, isAt_ok (c := clo d) f2 (by unfold clo; split <;> omega) (by unfold clo; split <;> omega), hb1_some, f9]
      by_cases x : sgn tb n p' = clo d
      · rw [if_pos x, if_neg i10]
        exact ⟨A2, B2, rfl, oA, oBB, Or.inl ⟨p', m', k1', k2', by omega, f2, f3, f4, f5, f6, f7, f8, x, rfl⟩⟩
      · rw [if_neg x, if_pos rfl, iI_s]
        obtain ⟨k1'', rfl⟩ : ∃ q', k1' = q' + 1 := ⟨k1' - 1, by omega⟩
        obtain ⟨k2'', rfl⟩ : ∃ q', k2' = q' + 1 := ⟨k2' - 1, by omega⟩
        have eH : lH N v1 v2 v3 v4 (k2'' + 1) (k1'' + 1) B2 = lS N v1 v2 v3 v4 k2'' N B2 := by
          have eL : f_X12_readsStep_L196 N (k1'' + 1) B2 = some (1, B2) := by
            rw [f_X12_readsStep_L196, here_ok f3, hb1_some]
            by_cases y : sgn tb n p' = 41
            · rw [if_pos (by rw [y]; rfl), f6]
              have : d = 0 := by
                unfold clo at x
                split at x
                · assumption
                · exact absurd y x
              rw [if_pos (by rw [this]; decide)]
            · rw [if_neg (show ¬ iI (sgn tb n p') = 41 from ne_i (b := 41) y (by omega) (by omega) (by omega) (by omega))]
          rw [lH, eL, hb2_some, f_X12_line_L74, if_neg i10, f3.2.2.2.2, f3.2.2.2.1]
          by_cases y : p' < n
          · rw [if_pos (lt_i (by omega) (by omega) (by omega))]; rfl
          · have hd0 : d ≠ 0 := fun h => by
              apply x
              rw [clo, if_pos h, sgn, if_neg y]
            rw [if_neg (nlt_i (by omega) (by omega) (by omega)), f6, if_neg (show ¬ iI (d : Int) ≤ 0 from nl_i (b := 0) (by omega) (by omega) (by omega))]; rfl
        obtain ⟨A3, B3, i1, i2, i3, i4⟩ := ih N k2'' p' (i + 1) m' A2 B2 hq (by omega) (by omega) (by omega) (by omega) f2 f3 f4 f6
        rw [eH]
        refine ⟨A3, B3, i1, oA.trans i2, oBB.trans i3, ?_⟩
        rcases i4 with ⟨p3, m3, a, b, j1, j2, j3, j4, j5, j6⟩ | i4
        · exact Or.inl ⟨p3, m3, a, b, by omega, j2, j3, j4, by omega, j6⟩
        · exact Or.inr i4
    · rw [snd_dead f1.dead, if_pos rfl, f2]
      exact ⟨A2, B2, rfl, oA, oBB, Or.inr ⟨f1, rfl⟩⟩
theorem P1_of {tb : Nat → Nat} {N n : Nat} {v1 v2 v3 v4 : Int32} {d : Nat} (hN : 300 ≤ N) (hn : n ≤ 60) (hd : d ≤ 2) (h2 : d < 2 → P2 tb N n v1 v2 v3 v4 (d + 1)) : P1 tb N n v1 v2 v3 v4 d := by
  intro q k1 k2 p s0 t m A B hq hk1 hk2 hs0 t1 t9 hA hB hS h40 h41 h42
  have hp := hA.2.2.1
  have hs := sgn_rg hA
  have hm := hS.1
  obtain ⟨q, rfl⟩ : ∃ q', q = q' + 1 := ⟨q - 1, by omega⟩
  obtain ⟨k1, rfl⟩ : ∃ q', k1 = q' + 1 := ⟨k1 - 1, by omega⟩
  rw [f_X7_readOne_J52, show (40 : Int32) = iI 40 from rfl, isAt_ok (c := 40) hA (by omega) (by omega), hb1_some, hS.2.1, lG, f_X12_readsStep_L4, here_ok hB, hb1_some (iI (sgn tb n p)), hb1_some (iI (sgn tb n p))]
  by_cases x : sgn tb n p = 40
  · rw [if_pos x, if_neg i10, if_pos (show iI (sgn tb n p) = 40 by rw [x]; rfl), h40]
    have hpn : p < n := by
      unfold sgn at x
      split at x
      · assumption
      · omega
    rw [show g_X7 N (q + 1) 2 (iI d) A = f_X7_readRound N (g_X7 N q) (iI d) A from rfl, f_X7_readRound]
    by_cases d2 : d = 2
    · rw [if_neg (show ¬ iI (d : Int) < 2 from nlt_i (b := 2) (by omega) (by omega) (by omega)), hb1_some, if_pos (show iI (d : Int) = 2 by rw [d2]; rfl), fh_eq, hA.2.2.2.2.1, hB.2.2.2.2, show (5 : Int32) = iI 5 from rfl, wrong_eq, hb2_some, if_pos (by decide), hb2_some, l74_0 N v1 v2 v3 v4 (by omega)]
      obtain ⟨f1, f2, f3⟩ := FT_here (B := B) 5 p hA (by omega) (by omega) (by omega) (by omega)
      refine ⟨_, _, ?_, f2.N, f3.N d, Or.inr ⟨f1, rfl⟩⟩
      rw [f_X7_readOne_J83, snd_dead f1.dead, if_pos rfl]
    · have hd2 : d < 2 := by omega
      obtain ⟨q, rfl⟩ : ∃ q', q = q' + 1 := ⟨q - 1, by omega⟩
      obtain ⟨e1, e2⟩ := pass_ok hA hpn
      have hib2 : hib (iI (d : Int)) 2 = true := hib_t (by omega) (by omega) (by omega)
      rw [if_pos (show iI (d : Int) < 2 from lt_i (b := 2) (by omega) (by omega) (by omega)), if_neg (show ¬ iI (d : Int) = 2 from ne_i (b := 2) (by omega) (by omega) (by omega) (by omega) (by omega)), hib2, if_pos rfl, iI_natc (by omega), iI_s]
      rw [show g_X7 N (q + 1) 0 (iI ((d + 1 : Nat) : Int)) (f_X10_pass A) = f_X7_readSteps N (g_X7 N q) (iI ((d + 1 : Nat) : Int)) (f_X10_pass A) from rfl, f_X7_readSteps, if_neg (show ¬ iI ((d + 1 : Nat) : Int) = 0 from ne_i (b := 0) (by omega) (by omega) (by omega) (by omega) (by omega))]
      -- the reference pushes
      let B1 := hset B 99 d (iI s0)
      let B2 := hset B1 100 d (iI m)
      let B3 := hset B2 101 d (iI t)
      let B4 := hset B3 74 40 (iI ((d + 1 : Nat) : Int))
      let B5 := hset B4 74 13 (iI ((p + 1 : Nat) : Int))
      have c1 : ∀ j, B1 74 j = B 74 j := fun j => by show hset B 99 d _ 74 j = _; rw [hset_nek _ _ _ (by decide)]
      have c2 : ∀ j, B2 74 j = B 74 j := fun j => by show hset B1 100 d _ 74 j = _; rw [hset_nek _ _ _ (by decide)]; exact c1 j
      have c3 : ∀ j, B3 74 j = B 74 j := fun j => by show hset B2 101 d _ 74 j = _; rw [hset_nek _ _ _ (by decide)]; exact c2 j
      have eP : ∀ K : HMem → Option (Int32 × HMem), hb1 (some (hset B 99 d (B 74 41))) (fun M110 => if hib (M110 74 40) 2 then hb1 (some (hset M110 100 (Int32.toNatClampNeg (M110 74 40)) (M110 74 39))) (fun M111 => if hib (M111 74 40) 2 then hb1 (some (hset M111 101 (Int32.toNatClampNeg (M111 74 40)) (M111 74 42))) (fun M112 => hb1 (some (hset (hset M112 74 40 ((M112 74 40) + 1)) 74 13 (((hset M112 74 40 ((M112 74 40) + 1)) 74 13) + 1))) (fun M113 => K M113)) else none) else none) = K B5 := fun K => by
        rw [h41, hb1_some]
        show (if hib (B1 74 40) 2 then hb1 (some (hset B1 100 (Int32.toNatClampNeg (B1 74 40)) (B1 74 39))) (fun M111 => if hib (M111 74 40) 2 then hb1 (some (hset M111 101 (Int32.toNatClampNeg (M111 74 40)) (M111 74 42))) (fun M112 => hb1 (some (hset (hset M112 74 40 ((M112 74 40) + 1)) 74 13 (((hset M112 74 40 ((M112 74 40) + 1)) 74 13) + 1))) (fun M113 => K M113)) else none) else none) = K B5
        rw [c1, h40, hib2, if_pos rfl, iI_natc (by omega), c1, hS.2.2.1, hb1_some]
        show (if hib (B2 74 40) 2 then hb1 (some (hset B2 101 (Int32.toNatClampNeg (B2 74 40)) (B2 74 42))) (fun M112 => hb1 (some (hset (hset M112 74 40 ((M112 74 40) + 1)) 74 13 (((hset M112 74 40 ((M112 74 40) + 1)) 74 13) + 1))) (fun M113 => K M113)) else none) = K B5
        rw [c2, h40, hib2, if_pos rfl, iI_natc (by omega), c2, h42, hb1_some]
        show hb1 (some (hset (hset B3 74 40 ((B3 74 40) + 1)) 74 13 (((hset B3 74 40 ((B3 74 40) + 1)) 74 13) + 1))) (fun M113 => K M113) = K B5
        rw [c3, h40, iI_s, hb1_some, hset_nej _ _ (show 13 ≠ 40 by decide), c3, hB.2.2.2.2, iI_s]
      rw [eP]
      have f5 : (∀ k, k ≠ 74 → k ≠ 99 → k ≠ 100 → k ≠ 101 → B5 k = B k) := fun k a b c e => by
        show hset (hset (hset (hset (hset B 99 d _) 100 d _) 101 d _) 74 40 _) 74 13 _ k = _
        rw [hset_nek _ _ _ a, hset_nek _ _ _ a, hset_nek _ _ _ e, hset_nek _ _ _ c, hset_nek _ _ _ b]
      have f6 : ∀ j, j ≠ 13 → j ≠ 40 → B5 74 j = B 74 j := fun j a b => by
        show hset (hset B3 74 40 _) 74 13 _ 74 j = _
        rw [hset_nej _ _ a, hset_nej _ _ b, c3]
      have a99 : B5 99 = upd (B 99) d (iI s0) := by
        show hset (hset (hset (hset (hset B 99 d _) 100 d _) 101 d _) 74 40 _) 74 13 _ 99 = _
        rw [hset_nek _ _ _ (by decide), hset_nek _ _ _ (by decide), hset_nek _ _ _ (by decide), hset_nek _ _ _ (by decide), hset, hput_self]
      have a100 : B5 100 = upd (B 100) d (iI m) := by
        show hset (hset (hset (hset (hset B 99 d _) 100 d _) 101 d _) 74 40 _) 74 13 _ 100 = _
        rw [hset_nek _ _ _ (by decide), hset_nek _ _ _ (by decide), hset_nek _ _ _ (by decide), hset, hput_self, hset_nek _ _ _ (by decide)]
      have a101 : B5 101 = upd (B 101) d (iI t) := by
        show hset (hset (hset (hset (hset B 99 d _) 100 d _) 101 d _) 74 40 _) 74 13 _ 101 = _
        rw [hset_nek _ _ _ (by decide), hset_nek _ _ _ (by decide), hset, hput_self, hset_nek _ _ _ (by decide), hset_nek _ _ _ (by decide)]
      have hB5 : RP tb B5 n (p + 1) := by
        have : RP tb B4 n p := hB.cg (by show hset B3 74 40 _ 84 = _; rw [hset_nek _ _ _ (by decide)]; show hset (hset (hset B 99 d _) 100 d _) 101 d _ 84 = _; rw [hset_nek _ _ _ (by decide), hset_nek _ _ _ (by decide), hset_nek _ _ _ (by decide)]) (by show hset B3 74 40 _ 74 13 = _; rw [hset_nej _ _ (by decide), c3]) (by show hset B3 74 40 _ 74 14 = _; rw [hset_nej _ _ (by decide), c3])
        exact this.step hpn
      have fB5 : oBN d B B5 := ⟨fun k a _ b c e => f5 k a b c e, fun j a _ _ _ b _ _ => f6 j a b, fun i hi => ⟨by rw [a99, upd_ne _ _ (by omega)], by rw [a100, upd_ne _ _ (by omega)], by rw [a101, upd_ne _ _ (by omega)]⟩⟩
      have hS5 : SR (f_X10_pass A) B5 m := hS.cg (by rw [e1, hset_nek _ _ _ (by decide)]) (by rw [e1, hset_nek _ _ _ (by decide)]) (f6 39 (by decide) (by decide)) (f5 98 (by decide) (by decide) (by decide) (by decide))
      have h405 : B5 74 40 = iI ((d + 1 : Nat) : Int) := by
        show hset (hset B3 74 40 _) 74 13 _ 74 40 = _
        rw [hset_nej _ _ (by decide), hset_self]
      obtain ⟨A', B', g1, g2, g3, g4⟩ := h2 hd2 q N k1 k2 (p + 1) 0 m (f_X10_pass A) B5 (by omega) (by omega) (by omega) (by omega) (by omega) e2 hB5 hS5 h405
      have g1' : f_X7_readSteps_L13 N (g_X7 N q) (iI ((d + 1 : Nat) : Int)) 41 N 0 (f_X10_pass A) = some A' := by
        have : clo (d + 1) = 41 := if_neg (by omega)
        rw [this] at g1; exact g1
      have eS : hb2 (hb1 (f_X12_readsTimes B5) (fun M114 => f_X12_readsStep_L4 N k1 M114)) (fun x M => f_X12_line_L74 N v1 v2 v3 v4 k2 x M) = lS N v1 v2 v3 v4 k2 k1 B5 := rfl
      rw [g1', hb1_some, eS]
      have oA : ocN A A' := ((pass_dk A).2.N).trans g2
      have oBB : oBN d B B' := fB5.trans (g3.le (by omega))
      rcases g4 with ⟨p', m', k1', k2', i1, i2, i3, i4, i5, i6, i7, i8, i9, i10'⟩ | ⟨i1, i2⟩
      · have hp' := i2.2.2.1
        have hs41 : sgn tb n p' = 41 := i9.trans (if_neg (by omega))
        have hpn' : p' < n := by
          unfold sgn at hs41
          split at hs41
          · assumption
          · omega
        obtain ⟨j1, j2⟩ := pass_ok i2 hpn'
        rw [snd_ok i2, if_neg i10, hb1_some, f_X7_readOne_J83, snd_ok j2, if_neg i10, i10']
        obtain ⟨k1'', rfl⟩ : ∃ q', k1' = q' + 1 := ⟨k1' - 1, by omega⟩
        let B6 := hset (hset B' 74 13 (iI ((p' + 1 : Nat) : Int))) 74 40 (iI d)
        have hB6 : RP tb B6 n (p' + 1) := (i3.step hpn').cg (hset_nek _ _ _ (by decide)) (hset_nej _ _ (by decide)) (hset_nej _ _ (by decide))
        have h406 : B6 74 40 = iI d := hset_self _ _ _ _
        have k6 : ∀ k, k ≠ 74 → B6 k = B' k := fun k a => by show hset (hset B' 74 13 _) 74 40 _ k = _; rw [hset_nek _ _ _ a, hset_nek _ _ _ a]
        have k7 : ∀ j, j ≠ 13 → j ≠ 40 → B6 74 j = B' 74 j := fun j a b => by show hset (hset B' 74 13 _) 74 40 _ 74 j = _; rw [hset_nej _ _ b, hset_nej _ _ a]
        have b100 : B6 100 d = iI m := by rw [k6 100 (by decide), (g3.2.2 d (by omega)).2.1, a100, upd_self]
        have b101 : B6 101 d = iI t := by rw [k6 101 (by decide), (g3.2.2 d (by omega)).2.2, a101, upd_self]
        have b99 : B6 99 d = iI s0 := by rw [k6 99 (by decide), (g3.2.2 d (by omega)).1, a99, upd_self]
        have hS6 : SR (f_X10_pass A') B6 m' := i4.cg (by rw [j1, hset_nek _ _ _ (by decide)]) (by rw [j1, hset_nek _ _ _ (by decide)]) (k7 39 (by decide) (by decide)) (k6 98 (by decide))
        have eL : f_X12_readsStep_L196 N (k1'' + 1) B' = hb2 (f_X12_repeats N (iI m) (iI t) (iI s0) B6) (fun x103 M104 => if x103 = 0 then some (0, M104) else f_X12_readsStep_L196 N k1'' M104) := by
          rw [f_X12_readsStep_L196, here_ok i3, hb1_some, if_pos (by rw [hs41]; rfl), i6, if_neg (show ¬ iI ((d + 1 : Nat) : Int) ≤ 0 from nl_i (b := 0) (by omega) (by omega) (by omega)), hset_nej _ _ (show 40 ≠ 13 by decide), i6, i3.2.2.2.2, iI_s, show iI ((d + 1 : Nat) : Int) - 1 = iI (d : Int) from (iI_sub _ 1).trans (by congr 1; omega), hb1_some]
          show (if hib (B6 74 40) 2 = true then if hib (B6 74 40) 2 = true then if hib (B6 74 40) 2 = true then hb2 (f_X12_repeats N (B6 100 (B6 74 40).toNatClampNeg) (B6 101 (B6 74 40).toNatClampNeg) (B6 99 (B6 74 40).toNatClampNeg) B6) _ else none else none else none) = _
          rw [h406, hib2, if_pos rfl, if_pos rfl, if_pos rfl, iI_natc (by omega), b100, b101, b99]
        have oA2 : ocN A (f_X10_pass A') := oA.trans (pass_dk A').2.N
        have oB6 : oBN d B B6 := (oBB.trans (oBN_set d _ _ (by decide))).trans (oBN_set d _ _ (by decide))
        rw [lH, eL]
        rcases rep_both (N := N) (s0 := s0) hN j2 hB6 hS6 i5 t1 t9 (by omega) with ⟨r1, A7, B7, r2, r3, r4, r5, r6⟩ | ⟨r1, A7, B7, r2, r3, r4, r5, r6, r7⟩
        · rw [r2, hb1_some, r3, hb2_some, if_pos rfl, hb2_some, l74_0 N v1 v2 v3 v4 (by omega)]
          exact ⟨A7, B7, rfl, oA2.trans r5.N, oB6.trans (r6.N d), Or.inr ⟨r4, rfl⟩⟩
        · rw [r2, hb1_some, r3, hb2_some, if_neg i10]
          refine ⟨A7, B7, rfl, oA2.trans (ocN_rep r5), oB6.trans (oBN_rep r6 r7), Or.inl ⟨p' + 1, _, k1'', k2', by omega, j2.cg (r5 2 (by decide) (by decide)) (r5 1 (by decide) (by decide)), hB6.cg (r6 84 (by decide) (by decide)) (r7 13 (by decide)) (r7 14 (by decide)), r4, ?_, by rw [r7 40 (by decide)]; exact h406, by omega, by omega, rfl⟩⟩
          have : m' - m ≤ (m' - m) * t := Nat.le_mul_of_pos_right _ t1
          omega
      · rw [snd_dead i1.dead, if_pos rfl, hb1_some, f_X7_readOne_J83, snd_dead i1.dead, if_pos rfl, i2]
        exact ⟨A', B', rfl, oA, oBB, Or.inr ⟨i1, rfl⟩⟩
  · rw [if_neg x, if_pos rfl, if_neg (show ¬ iI (sgn tb n p) = 40 from ne_i (b := 40) x (by omega) (by omega) (by omega) (by omega)), f_X7_readStep, sign_ok hA, hb1_some]
    rcases way_eq hA with ⟨w1, w2⟩ | ⟨hpn, s, s4, w1, w2⟩
    · rw [w1, w2, if_pos rfl, if_pos rfl, hb1_some, fh_eq, hA.2.2.2.2.1, hB.2.2.2.2, show (1 : Int32) = iI 1 from rfl, wrong_eq, hb2_some, if_pos (by decide), hb2_some, l74_0 N v1 v2 v3 v4 (by omega)]
      obtain ⟨f1, f2, f3⟩ := FT_here (B := B) 1 p hA (by omega) (by omega) (by omega) (by omega)
      refine ⟨_, _, ?_, f2.N, f3.N d, Or.inr ⟨f1, rfl⟩⟩
      rw [f_X7_readOne_J83, snd_dead f1.dead, if_pos rfl]
    · have hm5 := Nat.mod_lt (s + 1) (show 5 > 0 by decide)
      rw [w1, w2, if_neg (n1i (by omega) (by omega)), if_neg (n1i (by omega) (by omega)), hS.2.1, hS.2.2.1, h42, h41, iI_add]
      by_cases big : m + t ≤ 96
      · have hm96 : m < 96 := by omega
        have hib3 : hib (iI (m : Int)) 96 = true := hib_t (by omega) (by omega) (by omega)
        rw [if_pos (show iI (m : Int) < 96 from lt_i (b := 96) (by omega) (by omega) (by omega)), hib3, if_pos rfl, hb1_some, hb1_some, iI_natc (by omega), hset_nek _ _ _ (show 8 ≠ 9 by decide), hS.2.1, iI_s]
        rw [if_pos (show iI ((m : Int) + (t : Int)) ≤ 96 from le_i (b := 96) (by omega) (by omega) (by omega)), hset_nej _ _ (show 39 ≠ 13 by decide), hS.2.2.1, hib3, if_pos rfl, iI_natc (by omega), hb1_some, hset_nek _ _ _ (show 74 ≠ 98 by decide), hset_nej _ _ (show 39 ≠ 13 by decide), hS.2.2.1, hset_self, iI_s, show iI ((m + 1 : Nat) : Int) - 1 = iI (m : Int) from (iI_sub _ 1).trans (by congr 1; omega), hB.2.2.2.2, iI_s]
        -- one step stands on both sides
        let A1 := hset (hset A 9 m (iI ((s + 1) % 5 : Nat))) 8 2 (iI ((m + 1 : Nat) : Int))
        let B1 := hset (hset (hset B 74 13 (iI ((p + 1 : Nat) : Int))) 98 m (iI s)) 74 39 (iI ((m + 1 : Nat) : Int))
        have hA1 : CP tb A1 n p := hA.cg (by show hset (hset A 9 m _) 8 2 _ 2 = _; rw [hset_nek _ _ _ (by decide), hset_nek _ _ _ (by decide)]) (by show hset (hset A 9 m _) 8 2 _ 1 = _; rw [hset_nek _ _ _ (by decide), hset_nek _ _ _ (by decide)])
        obtain ⟨e1, e2⟩ := pass_ok hA1 hpn
        have hB1 : RP tb B1 n (p + 1) := (hB.step hpn).cg (by show hset (hset (hset B 74 13 _) 98 m _) 74 39 _ 84 = _; rw [hset_nek _ _ _ (by decide), hset_nek _ _ _ (by decide)]) (by show hset (hset (hset B 74 13 _) 98 m _) 74 39 _ 74 13 = _; rw [hset_nej _ _ (by decide), hset_nek _ _ _ (by decide)]) (by show hset (hset (hset B 74 13 _) 98 m _) 74 39 _ 74 14 = _; rw [hset_nej _ _ (by decide), hset_nek _ _ _ (by decide)])
        have hS1 : SR (f_X10_pass A1) B1 (m + 1) := by
          rw [e1]
          refine ⟨by omega, ?_, hset_self _ _ _ _, fun j hj => ?_⟩
          · rw [hset_nek _ _ _ (by decide)]; exact hset_self _ _ _ _
          · rw [hset_nek _ _ _ (show 9 ≠ 1 by decide)]
            show ∃ s', s' ≤ 4 ∧ hset (hset A 9 m _) 8 2 _ 9 j = _ ∧ hset (hset (hset B 74 13 _) 98 m _) 74 39 _ 98 j = _
            rw [hset_nek _ _ _ (show 9 ≠ 8 by decide), hset_nek _ _ _ (show 98 ≠ 74 by decide), hset_j, hset_j, hset_nek _ _ _ (show 98 ≠ 74 by decide)]
            by_cases e : j = m
            · exact ⟨s, s4, by rw [if_pos e], by rw [if_pos e]⟩
            · rw [if_neg e, if_neg e]; exact hS.2.2.2 j (by omega)
        have oA1 : ocN A (f_X10_pass A1) := fun k a b c => by
          rw [e1, hset_nek _ _ _ a]
          show hset (hset A 9 m _) 8 2 _ k = _
          rw [hset_nek _ _ _ b, hset_nek _ _ _ c]
        have oB1 : oBN d B B1 := ⟨fun k a b _ _ _ => by show hset (hset (hset B 74 13 _) 98 m _) 74 39 _ k = _; rw [hset_nek _ _ _ a, hset_nek _ _ _ b, hset_nek _ _ _ a], fun j a _ _ b _ _ _ => by show hset (hset (hset B 74 13 _) 98 m _) 74 39 _ 74 j = _; rw [hset_nej _ _ b, hset_nek _ _ _ (by decide), hset_nej _ _ a], fun i _ => by
          have : ∀ k, k ≠ 74 → k ≠ 98 → B1 k = B k := fun k a b => by show hset (hset (hset B 74 13 _) 98 m _) 74 39 _ k = _; rw [hset_nek _ _ _ a, hset_nek _ _ _ b, hset_nek _ _ _ a]
          exact ⟨by rw [this 99 (by decide) (by decide)], by rw [this 100 (by decide) (by decide)], by rw [this 101 (by decide) (by decide)]⟩⟩
        have h401 : B1 74 40 = iI d := by show hset (hset (hset B 74 13 _) 98 m _) 74 39 _ 74 40 = _; rw [hset_nej _ _ (by decide), hset_nek _ _ _ (by decide), hset_nej _ _ (by decide)]; exact h40
        show ∃ A' B', f_X7_readOne_J83 N (g_X7 N (q + 1)) (iI s0) (iI t) (iI m) (f_X10_pass A1) = some A' ∧ ocN A A' ∧ oBN d B B' ∧ ((∃ p' m' k1' k2', p < p' ∧ CP tb A' n p' ∧ RP tb B' n p' ∧ SR A' B' m' ∧ m < m' ∧ B' 74 40 = iI d ∧ d + 1 ≤ k1' ∧ 130 ≤ k2' + p' ∧ hb2 (hb2 (f_X12_repeats N (iI m) (iI t) (iI s0) B1) (fun x104 M105 => if x104 = 0 then some (0, M105) else f_X12_readsStep_L196 N N M105)) (fun x M => f_X12_line_L74 N v1 v2 v3 v4 k2 x M) = lH N v1 v2 v3 v4 k2' k1' B') ∨ (FT A' B' ∧ hb2 (hb2 (f_X12_repeats N (iI m) (iI t) (iI s0) B1) (fun x104 M105 => if x104 = 0 then some (0, M105) else f_X12_readsStep_L196 N N M105)) (fun x M => f_X12_line_L74 N v1 v2 v3 v4 k2 x M) = f_X12_line_J106 N v1 v2 v3 v4 0 B'))
        rw [f_X7_readOne_J83, snd_ok e2, if_neg i10]
        rcases rep_both (N := N) (s0 := s0) (b := m) (t := t) hN e2 hB1 hS1 (by omega) t1 t9 (by omega) with ⟨r1, _⟩ | ⟨r1, A7, B7, r2, r3, r4, r5, r6, r7⟩
        · exfalso
          rw [show m + 1 - m = 1 by omega, Nat.one_mul] at r1
          omega
        · rw [r2, hb1_some, r3, hb2_some, if_neg i10]
          refine ⟨A7, B7, rfl, oA1.trans (ocN_rep r5), oB1.trans (oBN_rep r6 r7), Or.inl ⟨p + 1, _, N, k2, by omega, e2.cg (r5 2 (by decide) (by decide)) (r5 1 (by decide) (by decide)), hB1.cg (r6 84 (by decide) (by decide)) (r7 13 (by decide)) (r7 14 (by decide)), r4, ?_, by rw [r7 40 (by decide)]; exact h401, by omega, by omega, rfl⟩⟩
          rw [show m + 1 - m = 1 by omega, Nat.one_mul]
          omega
      · rw [if_neg (show ¬ iI ((m : Int) + (t : Int)) ≤ 96 from nl_i (b := 96) (by omega) (by omega) (by omega)), show (6 : Int32) = iI 6 from rfl, wrong_eq, hb2_some, if_pos (show (0 : Int32) &&& 1 = 0 by decide), hb2_some, l74_0 N v1 v2 v3 v4 (by omega)]
        by_cases hm96 : m < 96
        · have hib3 : hib (iI (m : Int)) 96 = true := hib_t (by omega) (by omega) (by omega)
          rw [if_pos (show iI (m : Int) < 96 from lt_i (b := 96) (by omega) (by omega) (by omega)), hib3, if_pos rfl, hb1_some, hb1_some, iI_natc (by omega), hset_nek _ _ _ (show 8 ≠ 9 by decide), hS.2.1, iI_s]
          let A1 := hset (hset A 9 m (iI ((s + 1) % 5 : Nat))) 8 2 (iI ((m + 1 : Nat) : Int))
          have hA1 : CP tb A1 n p := hA.cg (by show hset (hset A 9 m _) 8 2 _ 2 = _; rw [hset_nek _ _ _ (by decide), hset_nek _ _ _ (by decide)]) (by show hset (hset A 9 m _) 8 2 _ 1 = _; rw [hset_nek _ _ _ (by decide), hset_nek _ _ _ (by decide)])
          obtain ⟨e1, e2⟩ := pass_ok hA1 hpn
          obtain ⟨f1, f2, f3⟩ := FT_here (B := B) 6 s0 e2 (by omega) (by omega) (by omega) (by omega)
          refine ⟨_, _, ?_, ?_, f3.N d, Or.inr ⟨f1, rfl⟩⟩
          · show f_X7_readOne_J83 N (g_X7 N (q + 1)) (iI s0) (iI t) (iI m) (f_X10_pass A1) = some _
            have e82 : f_X10_pass A1 8 2 = iI ((m + 1 : Nat) : Int) := by rw [e1, hset_nek _ _ _ (by decide)]; exact hset_self _ _ _ _
            rw [f_X7_readOne_J83, snd_ok e2, if_neg i10, f_X7_repeat, e82, show iI ((m + 1 : Nat) : Int) - iI (m : Int) = iI 1 by rw [iI_sub]; congr 1; omega, iI_mul, iI_add, if_neg (show ¬ iI ((m : Int) + 1 * (t : Int)) ≤ 96 from nl_i (b := 96) (by omega) (by omega) (by omega)), hb1_some]
            rfl
          · intro k a b c
            rw [f2 k a, e1, hset_nek _ _ _ a]
            show hset (hset A 9 m _) 8 2 _ k = _
            rw [hset_nek _ _ _ b, hset_nek _ _ _ c]
        · rw [if_neg (show ¬ iI (m : Int) < 96 from nlt_i (b := 96) (by omega) (by omega) (by omega)), hb1_some]
          obtain ⟨f1, f2, f3⟩ := FT_here (B := B) 6 s0 hA (by omega) (by omega) (by omega) (by omega)
          refine ⟨_, _, ?_, f2.N, f3.N d, Or.inr ⟨f1, rfl⟩⟩
          rw [f_X7_readOne_J83, snd_dead f1.dead, if_pos rfl]
theorem P2_0 {tb : Nat → Nat} {N n : Nat} {v1 v2 v3 v4 : Int32} (hN : 300 ≤ N) (hn : n ≤ 60) : P2 tb N n v1 v2 v3 v4 0 := by
  have a2 : P2 tb N n v1 v2 v3 v4 2 := P2_of hN hn (by omega) (P1_of hN hn (by omega) (fun h => absurd h (by omega)))
  have a1 : P2 tb N n v1 v2 v3 v4 1 := P2_of hN hn (by omega) (P1_of hN hn (by omega) (fun _ => a2))
  exact P2_of hN hn (by omega) (P1_of hN hn (by omega) (fun _ => a1))

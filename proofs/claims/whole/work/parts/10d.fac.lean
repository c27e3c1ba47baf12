/-! sums: a factor -/
theorem add_sp {A : HMem} {z : Nat} (s v : Int32) (h : A 15 6 = iI (z : Int)) (hz : z < 240) : ∃ A2, f_X5_add 15 s v A = some (iI (z : Int), A2) ∧ A2 19 = upd (A 19) z s ∧ A2 20 = upd (A 20) z v ∧ A2 15 6 = iI ((z + 1 : Nat) : Int) ∧ (∀ k, k ≠ 15 → k ≠ 19 → k ≠ 20 → A2 k = A k) ∧ ∀ j, j ≠ 6 → A2 15 j = A 15 j := by
  refine ⟨_, add_ok s v h hz, ?_, ?_, hset_self _ _ _ _, fun k a b c => ?_, fun j hj => ?_⟩
  · rw [hset_nek _ _ _ (by decide), hset_nek _ _ _ (by decide), hset, hput_self]
  · rw [hset_nek _ _ _ (by decide), hset, hput_self, hset_nek _ _ _ (by decide)]
  · rw [hset_nek _ _ _ a, hset_nek _ _ _ c, hset_nek _ _ _ b]
  · rw [hset_nej _ _ hj, hset_nek _ _ _ (by decide), hset_nek _ _ _ (by decide)]
theorem notes_sp {B : HMem} {c : Nat} (o v : Nat) (h : B 74 18 = iI (c : Int)) (hc : c < 260) : ∃ B2, f_X12_notes (iI (o : Int)) (iI (v : Int)) B = some B2 ∧ B2 85 = upd (B 85) c (iI ((1048576 * o + v : Nat) : Int)) ∧ B2 74 18 = iI ((c + 1 : Nat) : Int) ∧ (∀ k, k ≠ 74 → k ≠ 85 → B2 k = B k) ∧ ∀ j, j ≠ 18 → B2 74 j = B 74 j := by
  refine ⟨_, notes_ok h hc, ?_, hset_self _ _ _ _, fun k a b => ?_, fun j hj => ?_⟩
  · rw [hset_nek _ _ _ (by decide), hset, hput_self]
  · rw [hset_nek _ _ _ a, hset_nek _ _ _ b]
  · rw [hset_nej _ _ hj, hset_nek _ _ _ (by decide)]
theorem rn_RL (N : Nat) (fr : Nat) : ∀ k M, f_X12_readsNumber_L10 N (iI fr) (k + 1) M = hb1 (f_X12_isDigit M) (fun x101 => if x101 = 0 then some (1, M) else if M 74 13 = iI fr + iI (5 : Nat) then hb2 (f_X12_wrongAt 2 (M 74 13) M) (fun x104 M105 => if x104 &&& 1 = x104 then some (x104, M105) else none) else hb1 (f_X12_here M) (fun x102 => hb1 (some (hset M 74 16 (((10 * (M 74 16)) + x102) - 48))) (fun M103 => f_X12_readsNumber_L10 N (iI fr) k (hset M103 74 13 ((M103 74 13) + 1))))) := fun _ _ => rfl
theorem numN {tb : Nat → Nat} {A B : HMem} {n p N : Nat} (hN : 10 ≤ N) (hA : CP tb A n p) (hB : RP tb B n p) (dg : 48 ≤ sgn tb n p ∧ sgn tb n p ≤ 57) : ∃ (v : Nat) (A' B' : HMem), f_X10_number N 5 A = some (iI v, A') ∧ v < 100000 ∧ oc1 A A' ∧ oB B B' ∧ ((∃ p', p < p' ∧ CP tb A' n p' ∧ RP tb B' n p' ∧ B' 74 16 = iI v ∧ f_X12_readsNumber N B = some (1, B')) ∨ (FT A' B' ∧ f_X12_readsNumber N B = some (0, B'))) := by
  have hs := sgn_rg hA
  have hn := hA.2.1
  have hpn : p < n := by
    have := dg.1
    unfold sgn at this
    split at this
    · assumption
    · omega
  obtain ⟨k, hk⟩ : ∃ k, N = k + 1 := ⟨N - 1, by omega⟩
  obtain ⟨e1, e2⟩ := pass_ok hA hpn
  have h2 : RP tb (hset B 74 16 0) n p := hB.cg (hset_nek _ _ _ (by decide)) (hset_nej _ _ (by decide)) (hset_nej _ _ (by decide))
  obtain ⟨w, hw⟩ : ∃ w : Nat, sgn tb n p - 48 = w := ⟨(sgn tb n p - 48).toNat, by omega⟩
  have ew : ((10 : Int32) * 0 + iI (sgn tb n p)) - 48 = iI (w : Int) := by
    rw [show (10 : Int32) * 0 = iI 0 from rfl, iI_add, show (48 : Int32) = iI 48 from rfl, iI_sub, ← hw]; congr 1; omega
  obtain ⟨B1, hB1⟩ : ∃ B1, B1 = hset (hset (hset B 74 16 0) 74 16 (iI (w : Int))) 74 13 (iI ((p + 1 : Nat) : Int)) := ⟨_, rfl⟩
  have hB1' : RP tb B1 n (p + 1) := by
    have : RP tb (hset (hset B 74 16 0) 74 16 (iI (w : Int))) n p := h2.cg (hset_nek _ _ _ (by decide)) (hset_nej _ _ (by decide)) (hset_nej _ _ (by decide))
    rw [hB1]; exact this.step hpn
  obtain ⟨v, A', B', g1, g2, g3, g4, g5⟩ := num_L (tb := tb) (n := n) (N := N) (fr := p) (m := 5) (RL := f_X12_readsNumber_L10 N (iI p)) (by omega) (rn_RL N p) k 1 w (f_X10_pass A) B1 e2 hB1' (by rw [hB1, hset_nej _ _ (by decide), hset_self]) (by omega) (by omega) (by omega)
  have eC : f_X10_number N 5 A = some (iI v, A') := by
    have g1' : f_X10_number_L21 N 5 k (iI (w : Int)) 1 (f_X10_pass A) = some (iI v, A') := g1
    rw [f_X10_number, sign_ok hA, hb1_some, isDig_eq hs.1 hs.2, if_pos dg, if_neg i10]
    have : f_X10_number_L21 N 5 (k + 1) 0 0 A = some (iI v, A') := by
      rw [f_X10_number_L21, if_neg (by decide), sign_ok hA, hb1_some, isDig_eq hs.1 hs.2, if_pos dg, if_neg i10, hb1_some, ew]
      exact g1'
    rw [← this, ← hk]
  have eR : f_X12_readsNumber N B = f_X12_readsNumber_L10 N (iI p) k B1 := by
    have x1 : ¬ iI (p : Int) = iI (p : Int) + 5 := by
      rw [show (5 : Int32) = iI 5 from rfl, iI_add]; exact ne_i (by omega) (by omega) (by omega) (by omega) (by omega)
    have : f_X12_readsNumber_L10 N (iI p) (k + 1) (hset B 74 16 0) = f_X12_readsNumber_L10 N (iI p) k B1 := by
      rw [f_X12_readsNumber_L10, isDigR_eq h2 hA, hb1_some, if_pos dg, if_neg i10, h2.2.2.2.2, if_neg x1, here_ok h2, hb1_some, hb1_some, hset_self B 74 16 0, ew, hset_nej (hset B 74 16 0) _ (show 13 ≠ 16 by decide), h2.2.2.2.2, iI_s, hB1]
    rw [f_X12_readsNumber, hB.2.2.2.2, ← this, ← hk]
  refine ⟨v, A', B', eC, g2, ?_, ?_, ?_⟩
  · rw [e1] at g3; exact (oc1_set _ _ _).trans g3
  · rw [hB1] at g4; exact (((oB_set _ _ (by decide)).trans (oB_set _ _ (by decide))).trans (oB_set _ _ (by decide))).trans g4
  · rw [eR]
    rcases g5 with ⟨p', q1, q2⟩ | q
    · exact Or.inl ⟨p', by omega, q2⟩
    · exact Or.inr q
def SY (tb : Nat → Nat) (n : Nat) (A B : HMem) (p d c off wn e : Nat) : Prop := CP tb A n p ∧ RP tb B n p ∧ n ≤ 240 ∧ d ≤ 6 ∧ B 74 17 = iI (d : Int) ∧ B 74 18 = iI (c : Int) ∧ A 15 6 = iI ((c + e + off : Nat) : Int) ∧ B 74 19 = iI ((wn + e : Nat) : Int) ∧ c + e + off ≤ p ∧ wn + e ≤ p
def FLx (N base k K : Nat) (B : HMem) : Option (Int32 × HMem) := hb2 (f_X12_readsFactor_L0 N k B) (fun x M => if x = 0 then some (0, M) else f_X12_readsSum_L14 N (iI (base : Int)) K M)
def PF (tb : Nat → Nat) (N n base d : Nat) : Prop := ∀ (q k K p c off wn : Nat) (A B : HMem), 1 + 3 * (6 - d) ≤ q → 7 ≤ k + d → n < K + p → SY tb n A B p d c off wn 0 → base ≤ wn → ∃ A' B', g_X6 N q 6 (iI (d : Int)) A = some A' ∧ ocD A A' ∧ oBD B B' ∧ ((∃ K' p' c', p < p' ∧ n < K' + p' ∧ c' + p ≤ c + p' ∧ SY tb n A' B' p' d c' off wn 0 ∧ KP (c + off) c wn A A' B B' ∧ SEG (A' 19) (A' 20) (B' 85) off c c' TT (13 - 2 * d) ∧ FLx N base k K B = f_X12_readsSum_L14 N (iI (base : Int)) K' B') ∨ (FT A' B' ∧ DD A' ∧ FLx N base k K B = some (0, B')))
def nterm (z : Int) : Prop := z ≠ 42 ∧ z ≠ 47 ∧ z ≠ 37
def nsum (z : Int) : Prop := nterm z ∧ z ≠ 43 ∧ z ≠ 45
/-- a sum (tag 4, lo 2) or a term (tag 5, lo 4) -/
def PSx (tb : Nat → Nat) (N n base d tag lo le lv kk : Nat) (E : Int → Prop) : Prop := ∀ (q k K p c off wn : Nat) (A B : HMem), lv + 3 * (6 - d) ≤ q → 7 ≤ k + d → n < K + p → SY tb n A B p d c off wn 0 → base ≤ wn → TN B wn lo → ∃ A' B', g_X6 N q tag (iI (d : Int)) A = some A' ∧ ocD A A' ∧ oBD B B' ∧ ((∃ (K' p' c' : Nat) (ql : List Nat), p < p' ∧ n < K' + p' ∧ c' + ql.length + p ≤ c + p' ∧ ql.length ≤ le ∧ (∀ o, o ∈ ql → lo ≤ o ∧ o ≤ 6) ∧ SY tb n A' B' p' d c' off wn ql.length ∧ PDr B' wn ql ∧ KP (c + off) c wn A A' B B' ∧ c ≤ c' ∧ SEG (A' 19) (A' 20) (VC (B' 85) c' ql) off c (c' + ql.length) TT kk ∧ E (sgn tb n p') ∧ FLx N base k K B = f_X12_readsSum_L14 N (iI (base : Int)) K' B') ∨ (FT A' B' ∧ DD A' ∧ FLx N base k K B = some (0, B')))
theorem let_all : ∀ c : Fin 257, f_X6_letterOf (iI (((c : Nat) : Int) - 1)) = -1 ∨ (∃ l : Fin 8, f_X6_letterOf (iI (((c : Nat) : Int) - 1)) = iI ((l : Nat) : Int) ∧ 97 < (c : Nat)) := by decide +kernel
theorem let_eq {z : Int} (h1 : -1 ≤ z) (h2 : z < 256) : f_X6_letterOf (iI z) = -1 ∨ (∃ l : Nat, l < 8 ∧ f_X6_letterOf (iI z) = iI (l : Int) ∧ 97 ≤ z) := by
  have h := let_all ⟨(z + 1).toNat, by omega⟩
  have e : (((⟨(z + 1).toNat, by omega⟩ : Fin 257) : Nat) : Int) - 1 = z := by show (((z + 1).toNat : Nat) : Int) - 1 = z; omega
  rw [e] at h
  rcases h with h | ⟨l, h, h3⟩
  · exact Or.inl h
  · refine Or.inr ⟨l, l.2, h, ?_⟩
    have : 97 < (z + 1).toNat := h3
    omega
theorem sgn_in {tb : Nat → Nat} {n p : Nat} (h : sgn tb n p ≠ -1) : p < n := by
  unfold sgn at h
  split at h
  · assumption
  · exact absurd rfl h
theorem sumSign_no {z : Int} (h1 : -1 ≤ z) (h2 : z < 256) (h : nsum z) : f_X12_sumSign (iI z) = -1 := by
  obtain ⟨⟨a, b, c⟩, d, e⟩ := h
  rw [f_X12_sumSign, if_neg (show ¬ iI z = 43 from ne_i (b := 43) d (by omega) (by omega) (by omega) (by omega)), if_neg (show ¬ iI z = 45 from ne_i (b := 45) e (by omega) (by omega) (by omega) (by omega)), if_neg (show ¬ iI z = 42 from ne_i (b := 42) a (by omega) (by omega) (by omega) (by omega)), if_neg (show ¬ iI z = 47 from ne_i (b := 47) b (by omega) (by omega) (by omega) (by omega)), if_neg (show ¬ iI z = 37 from ne_i (b := 37) c (by omega) (by omega) (by omega) (by omega))]
theorem wr_some {k p : Nat} {B : HMem} (h : B 74 13 = iI (p : Int)) : hb2 (f_X12_wrongAt (iI (k : Int)) (B 74 13) B) (fun x M => if x &&& 1 = x then some (x, M) else none) = some (0, hset B 74 15 (iI (-1000 * (k : Int) - (p : Int)))) := by
  rw [h, wrong_eq, hb2_some, if_pos (by decide)]
theorem PF_of {tb : Nat → Nat} {N n base d : Nat} (hN : 300 ≤ N) (hs : d < 6 → PSx tb N n base (d + 1) 4 2 2 3 (15 - 2 * (d + 1)) nsum) : PF tb N n base d := by
  intro q k K p c off wn A B hq hk hK hS hb
  obtain ⟨hA, hB, hn, hd, h17, h18, h6, h19, hc, hw⟩ := id hS
  simp only [Nat.add_zero] at h6 h19 hc hw
  obtain ⟨q, rfl⟩ : ∃ q', q = q' + 1 := ⟨q - 1, by omega⟩
  obtain ⟨k, rfl⟩ : ∃ q', k = q' + 1 := ⟨k - 1, by omega⟩
  have hz := sgn_rg hA
  have hp := hA.2.2.1
  have h13 := hB.2.2.2.2
  have hd0 : DD A := ⟨c + off, by omega, h6⟩
  have eC : g_X6 N (q + 1) 6 (iI (d : Int)) A = f_X6_readFactor N (g_X6 N q) (iI (d : Int)) A := rfl
  rw [eC, f_X6_readFactor, show f_X10_isAt 91 A = _ from isAt_ok (c := 91) hA (by omega) (by omega), hb1_some]
  by_cases z91 : sgn tb n p = 91
  · rw [if_pos z91, if_neg i10, f_X6_opens]
    have hpn : p < n := sgn_in (tb := tb) (by omega)
    have eF : FLx N base (k + 1) K B = hb2 (hb2 (f_X12_opens 14 B) (fun x M => if x = 0 then some (0, M) else f_X12_readsFactor_L0 N k M)) (fun x M => if x = 0 then some (0, M) else f_X12_readsSum_L14 N (iI (base : Int)) K M) := by
      rw [FLx, f_X12_readsFactor_L0, here_ok hB, hb1_some, z91, if_pos (by rfl)]
    by_cases d6 : d = 6
    · have x1 : ¬ iI (d : Int) < 6 := nlt_i (b := 6) (by omega) (by omega) (by omega)
      have x2 : B 74 17 = 6 := by rw [h17, d6]; rfl
      obtain ⟨f1, f2, f3⟩ := FT_here (B := B) 5 (p : Int) hA (by omega) (by omega) (by omega) (by omega)
      have eA : f_X10_failHere 5 A = f_X10_failAt (iI 5) (iI (p : Int)) A := by rw [fh_eq, hA.2.2.2.2.1]; rfl
      rw [if_neg x1, hb2_some, if_pos rfl, eA]
      refine ⟨_, _, rfl, f2.D, f3.D, Or.inr ⟨f1, ?_, ?_⟩⟩
      · exact ⟨c + off, by omega, by rw [f2 15 (by decide)]; exact h6⟩
      · rw [eF, f_X12_opens, if_pos x2, show hb2 (f_X12_wrongAt 5 (B 74 13) B) (fun x M => if x &&& 1 = x then some (x, M) else none) = _ from wr_some (k := 5) h13, hb2_some, if_pos rfl, hb2_some, if_pos rfl]
        rfl
    · have x1 : iI (d : Int) < 6 := lt_i (b := 6) (by omega) (by omega) (by omega)
      have x2 : ¬ B 74 17 = 6 := by rw [h17]; exact ne_i (b := 6) (by omega) (by omega) (by omega) (by omega) (by omega)
      obtain ⟨a1, a2⟩ := pass_ok hA hpn
      rw [if_pos x1, hb2_some, if_neg i10, iI_s]
      obtain ⟨B1, hB1⟩ : ∃ B1, B1 = hset (hset (hset (hset B 74 17 (iI ((d + 1 : Nat) : Int))) 86 wn (iI ((1048576 * 14 + 0 : Nat) : Int))) 74 19 (iI ((wn + 1 : Nat) : Int))) 74 13 (iI ((p + 1 : Nat) : Int)) := ⟨_, rfl⟩
      have oO : f_X12_opens 14 B = some (1, B1) := by
        have e0 : hset B 74 17 (iI ((d + 1 : Nat) : Int)) 74 19 = iI (wn : Int) := by rw [hset_nej _ _ (by decide)]; exact h19
        have e1 : hset (hset B 74 17 (iI ((d + 1 : Nat) : Int))) 86 wn (1048576 * 14) 74 19 = iI (wn : Int) := by rw [hset_nek _ _ _ (by decide)]; exact e0
        have e2 : hset (hset (hset B 74 17 (iI ((d + 1 : Nat) : Int))) 86 wn (1048576 * 14)) 74 19 (iI ((wn + 1 : Nat) : Int)) 74 13 = iI (p : Int) := by rw [hset_nej _ _ (by decide), hset_nek _ _ _ (by decide), hset_nej _ _ (by decide)]; exact h13
        rw [f_X12_opens, if_neg x2, h17, iI_s, e0, hib_t (n := 260) (by omega) (by omega) (by omega), if_pos rfl, hb1_some, iI_natc (k := wn) (by omega), e1, iI_s, e2, iI_s, hB1]
        rfl
      have b84 : ∀ i, i ≠ 74 → i ≠ 86 → B1 i = B i := fun i a b => by rw [hB1, hset_nek _ _ _ a, hset_nek _ _ _ a, hset_nek _ _ _ b, hset_nek _ _ _ a]
      have b74 : ∀ j, j ≠ 13 → j ≠ 17 → j ≠ 19 → B1 74 j = B 74 j := fun j a b e => by rw [hB1, hset_nej _ _ a, hset_nej _ _ e, hset_nek _ _ _ (by decide), hset_nej _ _ b]
      have b86 : B1 86 = upd (B 86) wn (iI ((1048576 * 14 + 0 : Nat) : Int)) := by rw [hB1, hset_nek _ _ _ (by decide), hset_nek _ _ _ (by decide), hset, hput_self, hset_nek _ _ _ (by decide)]
      have hB1' : RP tb B1 n (p + 1) := ⟨fun j hj => by rw [b84 84 (by decide) (by decide)]; exact hB.1 j hj, hB.2.1, by omega, by rw [b74 14 (by decide) (by decide) (by decide)]; exact hB.2.2.2.1, by rw [hB1, hset_self]⟩
      have hS1 : SY tb n (f_X10_pass A) B1 (p + 1) (d + 1) c off (wn + 1) 0 := ⟨a2, hB1', hn, by omega, by rw [hB1, hset_nej _ _ (by decide), hset_nej _ _ (by decide), hset_nek _ _ _ (by decide), hset_self], by rw [b74 18 (by decide) (by decide) (by decide)]; exact h18, by rw [a1, hset_nek _ _ _ (by decide)]; exact h6, by rw [hB1, hset_nej _ _ (by decide), hset_self], by omega, by omega⟩
      have t14 : B1 86 wn = iI ((1048576 * 14 + 0 : Nat) : Int) := by rw [b86, upd_self]
      obtain ⟨A', B', g1, g2, g3, g4⟩ := hs (by omega) q k K (p + 1) c off (wn + 1) (f_X10_pass A) B1 (by omega) (by omega) (by omega) hS1 (by omega) (Or.inr ⟨14, 0, by omega, by omega, t14, by omega⟩)
      have oA1 : ocD A (f_X10_pass A) := by rw [a1]; exact (oc1_set _ _ _).D
      have oB1 : oBD B B1 := ⟨fun i a _ b => b84 i a b, fun j a _ _ b _ e => b74 j a b e⟩
      have eF2 : FLx N base (k + 1) K B = FLx N base k K B1 := by
        rw [eF, oO, hb2_some, if_neg i10]; rfl
      rw [g1, hb1_some]
      rcases g4 with ⟨K', p', c', ql, r1, r2, r3, r4, r5, r6, r7, r8, r9, r10, r11, r12⟩ | ⟨r1, r2, r3⟩
      · obtain ⟨hA2, hB2, -, -, i17, i18, i6, i19, ic, iw⟩ := id r6
        have hz2 := sgn_rg hA2
        have hp2 := hA2.2.2.1
        have i13 := hB2.2.2.2.2
        obtain ⟨K', rfl⟩ : ∃ q', K' = q' + 1 := ⟨K' - 1, by omega⟩
        have t14' : B' 86 wn = iI ((1048576 * 14 + 0 : Nat) : Int) := by rw [r8.2.2 wn (by omega)]; exact t14
        have eO : f_X12_hasOpenSum N (iI (base : Int)) B' = some 1 := open_1 i19 (by omega) (by omega) t14' N base hb (by omega)
        obtain ⟨A3, B3, -, -, -, -, -⟩ := ex_tk (c := 93) hA2 hB2 (by omega) (by omega)
        have eS := sumSign_no hz2.1 hz2.2 r11
        by_cases z93 : sgn tb n p' = 93
        · have hp2n : p' < n := sgn_in (tb := tb) (by omega)
          obtain ⟨a3, a4⟩ := pass_ok hA2 hp2n
          have eE : f_X10_expect 93 A' = some (f_X10_pass A') := by
            rw [ex_eq, show f_X10_isAt 93 A' = _ from isAt_ok (c := 93) hA2 (by omega) (by omega), hb1_some, if_pos z93, if_neg i10]
          obtain ⟨B2, u1, u2, u3, u4, u5, u6⟩ := flush_L (N := N) (v1 := 1) (lo := 2) (Or.inr ⟨rfl, rfl⟩) ql N c' B' r5 i18 i19 r7 (Or.inr ⟨14, 0, by omega, by omega, t14', by omega⟩) (by omega) (by omega) (by omega)
          obtain ⟨B4, hB4⟩ : ∃ B4, B4 = hset (hset (hset B2 74 19 (iI (wn : Int))) 74 17 (iI (d : Int))) 74 13 (iI ((p' + 1 : Nat) : Int)) := ⟨_, rfl⟩
          have eL : f_X12_readsSum_L14 N (iI (base : Int)) (K' + 1) B' = f_X12_readsSum_L14 N (iI (base : Int)) K' B4 := by
            have e1 : hset B2 74 19 (iI (wn : Int)) 74 17 = iI ((d + 1 : Nat) : Int) := by rw [hset_nej _ _ (by decide), u6 17 (by decide) (by decide)]; exact i17
            have e2 : hset (hset B2 74 19 (iI (wn : Int))) 74 17 (iI (d : Int)) 74 13 = iI (p' : Int) := by rw [hset_nej _ _ (by decide), hset_nej _ _ (by decide), u6 13 (by decide) (by decide)]; exact i13
            rw [f_X12_readsSum_L14, here_ok hB2, hb1_some, eS, if_pos rfl, hb1_some, if_pos (by rw [z93]; rfl), eO, hb1_some, if_neg i10, f_X12_closesSums, u1, hb1_some, u3, iI_pr, e1, iI_pr, hb1_some, e2, iI_s, hB4]
          rw [eE, hb1_some]
          have k74 : ∀ j, j ≠ 13 → j ≠ 17 → j ≠ 18 → j ≠ 19 → B4 74 j = B' 74 j := fun j a b e f => by rw [hB4, hset_nej _ _ a, hset_nej _ _ b, hset_nej _ _ f, u6 j e f]
          have kk : ∀ i, i ≠ 74 → i ≠ 85 → B4 i = B' i := fun i a b => by rw [hB4, hset_nek _ _ _ a, hset_nek _ _ _ a, hset_nek _ _ _ a, u5 i a b]
          have k85 : B4 85 = VC (B' 85) c' ql := by rw [hB4, hset_nek _ _ _ (by decide), hset_nek _ _ _ (by decide), hset_nek _ _ _ (by decide), u4]
          have a19 : f_X10_pass A' 19 = A' 19 := by rw [a3, hset_nek _ _ _ (by decide)]
          have a20 : f_X10_pass A' 20 = A' 20 := by rw [a3, hset_nek _ _ _ (by decide)]
          have pA19 : f_X10_pass A 19 = A 19 := by rw [a1, hset_nek _ _ _ (by decide)]
          have pA20 : f_X10_pass A 20 = A 20 := by rw [a1, hset_nek _ _ _ (by decide)]
          refine ⟨_, B4, rfl, ?_, ?_, Or.inl ⟨K', p' + 1, c' + ql.length, by omega, by omega, by omega, ?_, ?_, ?_, ?_⟩⟩
          · refine (oA1.trans g2).trans ?_
            rw [a3]; exact (oc1_set _ _ _).D
          · refine (oB1.trans g3).trans ⟨fun i a b _ => kk i a b, fun j a _ _ b e f => k74 j a b e f⟩
          · refine ⟨a4, ⟨fun j hj => by rw [kk 84 (by decide) (by decide)]; exact hB2.1 j hj, hB.2.1, by omega, by rw [k74 14 (by decide) (by decide) (by decide) (by decide)]; exact hB2.2.2.2.1, by rw [hB4, hset_self]⟩, hn, hd, by rw [hB4, hset_nej _ _ (by decide), hset_self], ?_, ?_, ?_, by omega, by omega⟩
            · rw [hB4, hset_nej _ _ (by decide), hset_nej _ _ (by decide), hset_nej _ _ (by decide), u2]
            · rw [a3, hset_nek _ _ _ (by decide), i6]; rfl
            · rw [hB4, hset_nej _ _ (by decide), hset_nej _ _ (by decide), hset_self]; rfl
          · refine ⟨fun i hi => ?_, fun i hi => ?_, fun i hi => ?_⟩
            · rw [a19, a20, (r8.1 i hi).1, (r8.1 i hi).2, pA19, pA20]; exact ⟨rfl, rfl⟩
            · rw [k85, VC_lt _ _ _ _ (by omega), r8.2.1 i hi, b84 85 (by decide) (by decide)]
            · rw [kk 86 (by decide) (by decide), r8.2.2 i (by omega), b86, upd_ne _ _ (by omega)]
          · rw [a19, a20, k85]
            exact r10.up (by omega)
          · rw [eF2, r12, eL]
        · have eE : f_X10_expect 93 A' = some (f_X10_failAt (iI 1) (iI (p' : Int)) A') := by
            rw [ex_eq, show f_X10_isAt 93 A' = _ from isAt_ok (c := 93) hA2 (by omega) (by omega), hb1_some, if_neg z93, if_pos rfl, fh_eq, hA2.2.2.2.2.1]; rfl
          obtain ⟨f1, f2, f3⟩ := FT_here (B := B') 1 (p' : Int) hA2 (by omega) (by omega) (by omega) (by omega)
          rw [eE, hb1_some]
          refine ⟨_, _, rfl, (oA1.trans g2).trans f2.D, (oB1.trans g3).trans f3.D, Or.inr ⟨f1, ⟨c' + ql.length + off, by omega, by rw [f2 15 (by decide)]; exact i6⟩, ?_⟩⟩
          have x93 : ¬ iI (sgn tb n p') = 93 := ne_i (b := 93) z93 (by omega) (by omega) (by omega) (by omega)
          rw [eF2, r12, f_X12_readsSum_L14, here_ok hB2, hb1_some, eS, if_pos rfl, hb1_some, if_neg x93, f_X12_readsSum_J138, eO, hb1_some, if_neg i10, show hb2 (f_X12_wrongAt 1 (B' 74 13) B') (fun x M => if x &&& 1 = x then some (x, M) else none) = _ from wr_some (k := 1) i13]
          rfl
      · rw [show f_X10_expect 93 A' = _ from expect_dead (c := 93) r1.dead (by omega) (by omega), hb1_some]
        exact ⟨A', B', rfl, oA1.trans g2, oB1.trans g3, Or.inr ⟨r1, r2, by rw [eF2]; exact r3⟩⟩
  · have x91 : ¬ iI (sgn tb n p) = 91 := ne_i (b := 91) z91 (by omega) (by omega) (by omega) (by omega)
    rw [if_neg z91, if_pos rfl, sign_ok hA, hb1_some]
    have eL0 : f_X12_readsFactor_L0 N (k + 1) B = (if (if 48 ≤ sgn tb n p ∧ sgn tb n p ≤ 57 then (1 : Int32) else 0) = 0 then (if f_X6_letterOf (iI (sgn tb n p)) = -1 then hb2 (f_X12_wrongAt 1 (B 74 13) B) (fun x M => if x &&& 1 = x then some (x, M) else none) else hb1 (f_X12_notes 1 (f_X6_letterOf (iI (sgn tb n p))) B) (fun M104 => some (1, hset M104 74 13 ((M104 74 13) + 1)))) else hb2 (f_X12_readsNumber N B) (fun x107 M108 => if x107 = 0 then some (0, M108) else hb1 (f_X12_notes 0 (M108 74 16) M108) (fun M109 => some (1, M109)))) := by
      rw [f_X12_readsFactor_L0, here_ok hB, hb1_some, if_neg x91, isDigR_eq hB hA, hb1_some, hb1_some]
      rfl
    rcases let_eq hz.1 hz.2 with hl | ⟨l, l1, l2, l3⟩
    · rw [if_pos hl]
      rw [hl, if_pos rfl] at eL0
      by_cases dg : 48 ≤ sgn tb n p ∧ sgn tb n p ≤ 57
      · rw [if_pos dg, if_neg i10] at eL0
        obtain ⟨v, A1, B1, g1, g2, g3, g4, g5⟩ := numN (N := N) (by omega) hA hB dg
        rw [g1, hb2_some]
        have s6 : A1 15 6 = iI ((c + off : Nat) : Int) := by rw [g3 15 (by decide)]; exact h6
        rcases g5 with ⟨p', q1, q2, q3, q4, q5⟩ | ⟨q1, q2⟩
        · have hp2 := q2.2.2.1
          obtain ⟨A2, u1, u2, u3, u4, u5, u6⟩ := add_sp 1 (iI (v : Int)) s6 (by omega)
          have n18 : B1 74 18 = iI (c : Int) := by rw [g4.2 18 (by decide) (by decide) (by decide)]; exact h18
          obtain ⟨B2, w1, w2, w3, w4, w5⟩ := notes_sp 0 v n18 (by omega)
          rw [u1, hb2_some]
          refine ⟨A2, B2, rfl, g3.D.trans ⟨fun i _ a b e => u5 i a b e, u6⟩, g4.D.trans ⟨fun i a b _ => w4 i a b, fun j _ _ _ _ a _ => w5 j a⟩, Or.inl ⟨K, p', c + 1, q1, by omega, by omega, ⟨q2.cg (u5 2 (by decide) (by decide) (by decide)) (u5 1 (by decide) (by decide) (by decide)), q3.cg (w4 84 (by decide) (by decide)) (w5 13 (by decide)) (w5 14 (by decide)), hn, hd, ?_, w3, ?_, ?_, by omega, by omega⟩, ⟨fun i hi => ?_, fun i hi => ?_, fun i hi => ?_⟩, ?_, ?_⟩⟩
          · rw [w5 17 (by decide), g4.2 17 (by decide) (by decide) (by decide)]; exact h17
          · rw [u4]; congr 2; omega
          · rw [w5 19 (by decide), g4.2 19 (by decide) (by decide) (by decide)]; exact h19
          · rw [u2, u3, upd_ne _ _ (by omega), upd_ne _ _ (by omega), g3 19 (by decide), g3 20 (by decide)]; exact ⟨rfl, rfl⟩
          · rw [w2, upd_ne _ _ (by omega), g4.1 85 (by decide)]
          · rw [w4 86 (by decide) (by decide), g4.1 86 (by decide)]
          · exact (seg_num (v := v) (by omega) (by rw [u2, upd_self]) (by rw [u3, upd_self]) (by rw [w2, upd_self])).up (by omega)
          · rw [FLx, eL0, q5, hb2_some, if_neg i10, q4, show f_X12_notes 0 (iI (v : Int)) B1 = some B2 from w1, hb1_some, hb2_some, if_neg i10]
        · obtain ⟨r, A2, u1, u2, u3, u4⟩ := add_dd 1 (iI (v : Int)) ⟨c + off, by omega, s6⟩
          rw [u1, hb2_some]
          exact ⟨A2, B1, rfl, g3.D.trans u3, g4.D, Or.inr ⟨q1.dk (dk_of u4), u2, by rw [FLx, eL0, q2, hb2_some, if_pos rfl, hb2_some, if_pos rfl]⟩⟩
      · rw [if_neg dg, if_pos rfl] at eL0
        obtain ⟨f1, f2, f3⟩ := FT_here (B := B) 1 (p : Int) hA (by omega) (by omega) (by omega) (by omega)
        have eN : f_X10_number N 5 A = some (0, f_X10_failAt (iI 1) (iI (p : Int)) A) := by
          rw [f_X10_number, sign_ok hA, hb1_some, isDig_eq hz.1 hz.2, if_neg dg, if_pos rfl, fh_eq, hA.2.2.2.2.1]; rfl
        obtain ⟨r, A2, u1, u2, u3, u4⟩ := add_dd 1 0 (show DD (f_X10_failAt (iI 1) (iI (p : Int)) A) from ⟨c + off, by omega, by rw [f2 15 (by decide)]; exact h6⟩)
        rw [eN, hb2_some, u1, hb2_some]
        refine ⟨A2, _, rfl, f2.D.trans u3, f3.D, Or.inr ⟨f1.dk (dk_of u4), u2, ?_⟩⟩
        rw [FLx, eL0, show hb2 (f_X12_wrongAt 1 (B 74 13) B) (fun x M => if x &&& 1 = x then some (x, M) else none) = _ from wr_some (k := 1) h13, hb2_some, if_pos rfl]
        rfl
    · have nl : ¬ iI (l : Int) = -1 := by rw [qm1]; exact ne_i (by omega) (by omega) (by omega) (by omega) (by omega)
      have hpn : p < n := sgn_in (tb := tb) (by omega)
      rw [l2, if_neg nl]
      rw [l2, if_neg (show ¬ (48 ≤ sgn tb n p ∧ sgn tb n p ≤ 57) by omega), if_pos rfl, if_neg nl] at eL0
      obtain ⟨A2, u1, u2, u3, u4, u5, u6⟩ := add_sp 2 (iI (l : Int)) h6 (by omega)
      obtain ⟨B2, w1, w2, w3, w4, w5⟩ := notes_sp 1 l h18 (by omega)
      have hA2 : CP tb A2 n p := hA.cg (u5 2 (by decide) (by decide) (by decide)) (u5 1 (by decide) (by decide) (by decide))
      have hB2 : RP tb B2 n p := hB.cg (w4 84 (by decide) (by decide)) (w5 13 (by decide)) (w5 14 (by decide))
      obtain ⟨a1, a2⟩ := pass_ok hA2 hpn
      rw [u1, hb2_some]
      have e19 : f_X10_pass A2 19 = upd (A 19) (c + off) 2 := by rw [a1, hset_nek _ _ _ (by decide), u2]
      have e20 : f_X10_pass A2 20 = upd (A 20) (c + off) (iI (l : Int)) := by rw [a1, hset_nek _ _ _ (by decide), u3]
      refine ⟨_, hset B2 74 13 (iI ((p + 1 : Nat) : Int)), rfl, ?_, ?_, Or.inl ⟨K, p + 1, c + 1, by omega, by omega, by omega, ⟨a2, hB2.step hpn, hn, hd, ?_, ?_, ?_, ?_, by omega, by omega⟩, ⟨fun i hi => ?_, fun i hi => ?_, fun i hi => ?_⟩, ?_, ?_⟩⟩
      · refine ocD.trans ⟨fun i _ a b e => u5 i a b e, u6⟩ ?_
        rw [a1]; exact (oc1_set _ _ _).D
      · exact oBD.trans ⟨fun i a b _ => w4 i a b, fun j _ _ _ _ a _ => w5 j a⟩ (oBD_set _ _ (by decide))
      · rw [hset_nej _ _ (by decide), w5 17 (by decide)]; exact h17
      · rw [hset_nej _ _ (by decide)]; exact w3
      · rw [a1, hset_nek _ _ _ (by decide), u4]; congr 2; omega
      · rw [hset_nej _ _ (by decide), w5 19 (by decide)]; exact h19
      · rw [e19, e20, upd_ne _ _ (by omega), upd_ne _ _ (by omega)]; exact ⟨rfl, rfl⟩
      · rw [hset_nek _ _ _ (by decide), w2, upd_ne _ _ (by omega)]
      · rw [hset_nek _ _ _ (by decide), w4 86 (by decide) (by decide)]
      · rw [e19, e20, hset_nek _ _ _ (by decide), w2]
        exact (seg_let (v := l) l1 (upd_self _ _ _) (upd_self _ _ _) (upd_self _ _ _)).up (by omega)
      · rw [FLx, eL0, show f_X12_notes 1 (iI (l : Int)) B = some B2 from w1, hb1_some, hB2.2.2.2.2, iI_s, hb2_some, if_neg i10]

/-! a rule's condition, and the rule -/
def ocR (A A' : HMem) : Prop := ∀ k, k ≠ 1 → k ≠ 15 → k ≠ 16 → k ≠ 17 → k ≠ 18 → k ≠ 19 → k ≠ 20 → A' k = A k
def oBR (B B' : HMem) : Prop := (∀ k, k ≠ 74 → k ≠ 85 → k ≠ 86 → k ≠ 87 → k ≠ 88 → k ≠ 89 → k ≠ 90 → B' k = B k) ∧ ∀ j, j ≠ 13 → j ≠ 15 → j ≠ 16 → j ≠ 17 → j ≠ 18 → j ≠ 19 → j ≠ 20 → B' 74 j = B 74 j
theorem ocR.trans {A A' A2 : HMem} (h : ocR A A') (h2 : ocR A' A2) : ocR A A2 := fun k a b c d e f g => (h2 k a b c d e f g).trans (h k a b c d e f g)
theorem oBR.trans {A A' A2 : HMem} (h : oBR A A') (h2 : oBR A' A2) : oBR A A2 := ⟨fun k a b c d e f g => (h2.1 k a b c d e f g).trans (h.1 k a b c d e f g), fun j a b c d e f g => (h2.2 j a b c d e f g).trans (h.2 j a b c d e f g)⟩
theorem ocD.R {A A' : HMem} (h : ocD A A') : ocR A A' := fun k a b _ _ _ c d => h.1 k a b c d
theorem oBD.R {A A' : HMem} (h : oBD A A') : oBR A A' := ⟨fun k a b c _ _ _ _ => h.1 k a b c, fun j a b c d e f _ => h.2 j a b c d e f⟩
theorem endRule_ok {A : HMem} {t : Nat} (h : A 15 3 = iI (t : Int)) (ht : t ≤ 16) : ∃ A', f_X5_endRule 15 A = A' ∧ (∀ k, k ≠ 15 → A' k = A k) ∧ A' 15 6 = A 15 6 ∧ (t < 16 → A' 15 3 = iI ((t + 1 : Nat) : Int)) := by
  rw [f_X5_endRule, h]
  by_cases q : t < 16
  · have x : ¬ (16 : Int32) ≤ iI (t : Int) := nl_i (a := 16) (by omega) (by omega) (by omega)
    rw [if_neg x, iI_s]
    exact ⟨_, rfl, fun k hk => hset_nek _ _ _ hk, hset_nej _ _ (by decide), fun _ => hset_self _ _ _ _⟩
  · have x : (16 : Int32) ≤ iI (t : Int) := le_i (a := 16) (by omega) (by omega) (by omega)
    rw [if_pos x]
    exact ⟨A, rfl, fun _ _ => rfl, rfl, fun h => absurd h q⟩
theorem beginTest_ok {A : HMem} {t : Nat} (h : A 15 3 = iI (t : Int)) (ht : t < 16) : f_X5_beginTest 15 A = some (hset A 18 t (A 15 6)) := by
  have x : ¬ (16 : Int32) ≤ iI (t : Int) := nl_i (a := 16) (by omega) (by omega) (by omega)
  rw [f_X5_beginTest, h, if_neg x, hib_t (n := 16) (by omega) (by omega) (by omega), if_pos rfl, iI_natc (k := t) (by omega)]
theorem tail_dead {N t : Nat} {A : HMem} (h : ¬ A 1 4 = 0) (hd : DD A) (h3 : A 15 3 = iI (t : Int)) (ht : t ≤ 16) : ∃ A', hb1 (f_X10_expect 41 A) (fun M104 => hb2 (f_X5_add 15 0 0 M104) (fun _ M106 => some (f_X5_endRule 15 M106))) = some A' ∧ dk A A' ∧ ocR A A' := by
  rw [show f_X10_expect 41 A = some A from expect_dead (c := 41) h (by omega) (by omega), hb1_some]
  obtain ⟨r, A2, u1, u2, u3, u4⟩ := add_dd 0 0 hd
  obtain ⟨A3, v1, v2, v3, v4⟩ := endRule_ok (A := A2) (t := t) (by rw [u3.2 3 (by decide)]; exact h3) ht
  rw [u1, hb2_some, v1]
  exact ⟨A3, rfl, dk_of (by rw [v2 1 (by decide), u4]), u3.R.trans (fun k _ a _ _ _ _ _ => v2 k a)⟩
theorem j92_dead {N t : Nat} {A : HMem} (hN : 300 ≤ N) (h : ¬ A 1 4 = 0) (hd : DD A) (h3 : A 15 3 = iI (t : Int)) (ht : t < 16) : ∃ A', f_X6_readRule_J92 N A = some A' ∧ dk A A' ∧ ocR A A' := by
  obtain ⟨A1, hA1⟩ : ∃ A1, A1 = hset A 18 t (A 15 6) := ⟨_, rfl⟩
  have a1 : ∀ k, k ≠ 18 → A1 k = A k := fun k hk => by rw [hA1, hset_nek _ _ _ hk]
  have d1 : ¬ A1 1 4 = 0 := by rw [a1 1 (by decide)]; exact h
  obtain ⟨z, z1, z2⟩ := hd
  obtain ⟨A2, g1, g2, g3, g4⟩ := gd0 (N := N) (q := 53) hN 1 A1 d1 ⟨z, z1, by rw [a1 15 (by decide)]; exact z2⟩
  obtain ⟨A3, w1, w2, w3⟩ := tail_dead (N := N) (t := t) (g2.dead d1) g4 (by rw [g3.2 3 (by decide), a1 15 (by decide)]; exact h3) (by omega)
  refine ⟨A3, ?_, (dk_of (a1 1 (by decide))).trans (g2.trans w2), ocR.trans (fun k _ _ _ _ a _ _ => a1 k a) (g3.R.trans w3)⟩
  rw [f_X6_readRule_J92, beginTest_ok h3 ht, hb1_some, ← hA1, show f_X10_expect 40 A1 = some A1 from expect_dead (c := 40) d1 (by omega) (by omega), hb1_some, g1, hb1_some]
  exact w1
/-- behind a rule's worth -/
def SX (tb : Nat → Nat) (n : Nat) (A B : HMem) (p c off t : Nat) : Prop := CP tb A n p ∧ RP tb B n p ∧ n ≤ 240 ∧ B 74 18 = iI (c : Int) ∧ A 15 6 = iI ((c + off : Nat) : Int) ∧ c + off ≤ p ∧ A 15 3 = iI (t : Int) ∧ B 74 20 = iI (t : Int) ∧ t ≤ 16
def KC (z c : Nat) (A A' B B' : HMem) : Prop := (∀ q, q < z → A' 19 q = A 19 q ∧ A' 20 q = A 20 q) ∧ ∀ q, q < c → B' 85 q = B 85 q
theorem cond_ok {tb : Nat → Nat} {N n p c off t : Nat} {A B : HMem} (hN : 300 ≤ N) (hS : SX tb n A B p c off t) (ht : t < 16) : ∃ A' B', f_X6_readRule_J92 N A = some A' ∧ ocR A A' ∧ oBR B B' ∧ ((∃ p' c', p < p' ∧ c ≤ c' ∧ SX tb n A' B' p' c' (off + 1) (t + 1) ∧ KC (c + off) c A A' B B' ∧ A' 16 = A 16 ∧ A' 17 = A 17 ∧ A' 18 = upd (A 18) t (iI ((c + off : Nat) : Int)) ∧ B' 87 = B 87 ∧ B' 88 = B 88 ∧ B' 89 = upd (B 89) t (iI (c : Int)) ∧ B' 90 = upd (B 90) t (iI (c' : Int)) ∧ SEG (A' 19) (A' 20) (B' 85) off c c' BB 16 ∧ A' 19 (c' + off) = 0 ∧ f_X12_readsRule_J110 N B = some (1, B')) ∨ (FT A' B' ∧ f_X12_readsRule_J110 N B = some (0, B'))) := by
  obtain ⟨hA, hB, hn, h18, h6, hc, h3, h20, -⟩ := hS
  have hp := hA.2.2.1
  have hz := sgn_rg hA
  obtain ⟨A1, hA1⟩ : ∃ A1, A1 = hset A 18 t (A 15 6) := ⟨_, rfl⟩
  have a1 : ∀ k, k ≠ 18 → A1 k = A k := fun k hk => by rw [hA1, hset_nek _ _ _ hk]
  have a18 : A1 18 = upd (A 18) t (iI ((c + off : Nat) : Int)) := by rw [hA1, hset, hput_self, h6]
  obtain ⟨B1, hB1⟩ : ∃ B1, B1 = hset B 89 t (iI (c : Int)) := ⟨_, rfl⟩
  have b1 : ∀ k, k ≠ 89 → B1 k = B k := fun k hk => by rw [hB1, hset_nek _ _ _ hk]
  have b89 : B1 89 = upd (B 89) t (iI (c : Int)) := by rw [hB1, hset, hput_self]
  have hA1' : CP tb A1 n p := hA.cg (a1 2 (by decide)) (a1 1 (by decide))
  have hB1' : RP tb B1 n p := hB.cg (b1 84 (by decide)) (by rw [b1 74 (by decide)]) (by rw [b1 74 (by decide)])
  have oA1 : ocR A A1 := fun k _ _ _ _ a _ _ => a1 k a
  have oB1 : oBR B B1 := ⟨fun k _ _ _ _ _ a _ => b1 k a, fun j _ _ _ _ _ _ _ => by rw [b1 74 (by decide)]⟩
  have eR : f_X12_readsRule_J110 N B = hb2 (f_X12_readsCondition N B1) (fun x102 M103 => if x102 = 0 then some (0, M103) else (if hib (M103 74 20) 16 then hb1 (some (hset M103 90 (Int32.toNatClampNeg (M103 74 20)) (M103 74 18))) (fun M104 => some (1, hset M104 74 20 ((M104 74 20) + 1))) else none)) := by
    rw [f_X12_readsRule_J110, h20, hib_t (n := 16) (by omega) (by omega) (by omega), if_pos rfl, hb1_some, iI_natc (k := t) (by omega), h18, ← hB1]
  rw [f_X6_readRule_J92, beginTest_ok h3 ht, hb1_some, ← hA1]
  by_cases z40 : sgn tb n p = 40
  · have hpn : p < n := sgn_in (tb := tb) (by omega)
    obtain ⟨B0, hB0⟩ : ∃ B0, B0 = hset (hset B1 74 17 0) 74 19 0 := ⟨_, rfl⟩
    have c1 : ∀ k, k ≠ 74 → B0 k = B1 k := fun k hk => by rw [hB0, hset_nek _ _ _ hk, hset_nek _ _ _ hk]
    have c74 : ∀ j, j ≠ 17 → j ≠ 19 → B0 74 j = B1 74 j := fun j a b => by rw [hB0, hset_nej _ _ b, hset_nej _ _ a]
    have hS0 : SY tb n A1 B0 p 0 c off 0 0 := ⟨hA1', hB1'.cg (c1 84 (by decide)) (c74 13 (by decide) (by decide)) (c74 14 (by decide) (by decide)), hn, by omega, by rw [hB0, hset_nej _ _ (by decide), hset_self]; rfl, by rw [c74 18 (by decide) (by decide), b1 74 (by decide)]; exact h18, by rw [a1 15 (by decide)]; exact h6, by rw [hB0, hset_self]; rfl, by omega, by omega⟩
    obtain ⟨B2, o1, o2, o3, o4, o5⟩ := opens_sp 13 hS0 (by omega) hpn
    obtain ⟨e1, e2⟩ := pass_ok hA1' hpn
    have pA : ∀ i, i ≠ 1 → f_X10_pass A1 i = A1 i := fun i hi => by rw [e1, hset_nek _ _ _ hi]
    have eE : f_X10_expect 40 A1 = some (f_X10_pass A1) := by
      rw [ex_eq, show f_X10_isAt 40 A1 = _ from isAt_ok (c := 40) hA1' (by omega) (by omega), hb1_some, if_pos z40, if_neg i10]
    have t13 : B2 86 0 = iI ((1048576 * 13 + 0 : Nat) : Int) := by rw [o5, upd_self]
    obtain ⟨A3, B3, g1, g2, g3, g4⟩ := (QC_all (tb := tb) (n := n) hN 5 1 rfl).2 60 N (p + 1) c off 1 (f_X10_pass A1) B2 (by omega) (by omega) o2 (TO_push (wn := 0) (o := 13) (v := 0) (by omega) (by omega) t13 rfl)
    have eC : f_X12_readsCondition N B1 = f_X12_readsCondition_L40 N N B2 := by
      rw [f_X12_readsCondition, here_ok hB1', hb1_some, if_pos (by rw [z40]; rfl), ← hB0, show f_X12_opens 13 B0 = some (1, B2) from o1, hb2_some, if_neg i10]
    have o0 : oBD B1 B0 := ⟨fun k a _ _ => c1 k a, fun j _ _ _ a _ b => c74 j a b⟩
    have oA3 : ocR A A3 := oA1.trans ((oc1.D pA).trans g2).R
    have oB3 : oBR B B3 := oB1.trans ((o0.trans o3).trans g3).R
    rw [eE, hb1_some, show g_X6 N 60 0 1 (f_X10_pass A1) = some A3 from g1, hb1_some, eR, eC]
    have k3 : A3 15 3 = iI (t : Int) := by rw [g2.2 3 (by decide), pA 15 (by decide), a1 15 (by decide)]; exact h3
    rcases g4 with ⟨kk, k', p', c', pj, r1, r2, r3, r4, r5, r6, r7, r8, r9, r10, r11, r12, r13⟩ | ⟨r1, r2, r3⟩
    · obtain ⟨hA3, hB3, -, -, j17, j18, j6, j19, jc, jw⟩ := id r7
      simp only [Nat.add_zero] at j6 j19 jc jw
      have hp1 := hA3.2.2.1
      have hcc := r10.1
      obtain ⟨kk, rfl⟩ : ∃ q', kk = q' + 1 := ⟨kk - 1, by omega⟩
      by_cases z41 : sgn tb n p' = 41
      · have hpn1 : p' < n := sgn_in (tb := tb) (by omega)
        obtain ⟨f1, f2⟩ := pass_ok hA3 hpn1
        have pA3 : ∀ i, i ≠ 1 → f_X10_pass A3 i = A3 i := fun i hi => by rw [f1, hset_nek _ _ _ hi]
        obtain ⟨B4, w1, w2, w3, w4, w5⟩ := close_ok (wn := 0) (d := 0) (kk := kk) (k' := k') (N := N) hN r7 r5 (fun x hx => (r6 x hx).1) r8 (by rw [r9.2.2 0 (by omega)]; exact t13) z41
        obtain ⟨hA4, hB4, -, -, -, l18, l6, -⟩ := w2
        obtain ⟨A5, u1, u2, u3, u4, u5, u6⟩ := add_sp 0 0 (show f_X10_pass A3 15 6 = iI ((c' + off : Nat) : Int) from l6) (by omega)
        obtain ⟨A6, v1, v2, v3, v4⟩ := endRule_ok (A := A5) (t := t) (by rw [u6 3 (by decide), pA3 15 (by decide)]; exact k3) (by omega)
        have l20 : B4 74 20 = iI (t : Int) := by
          have := (oB3.trans w3.R).2
          rw [w3.2 20 (by decide) (by decide) (by decide) (by decide) (by decide) (by decide), g3.2 20 (by decide) (by decide) (by decide) (by decide) (by decide) (by decide), o3.2 20 (by decide) (by decide) (by decide) (by decide) (by decide) (by decide), c74 20 (by decide) (by decide), b1 74 (by decide)]; exact h20
        have eF : f_X10_expect 41 A3 = some (f_X10_pass A3) := by
          rw [ex_eq, show f_X10_isAt 41 A3 = _ from isAt_ok (c := 41) hA3 (by omega) (by omega), hb1_some, if_pos z41, if_neg i10]
        rw [eF, hb1_some, u1, hb2_some, v1]
        obtain ⟨B5, hB5⟩ : ∃ B5, B5 = hset (hset B4 90 t (iI (c' : Int))) 74 20 (iI ((t + 1 : Nat) : Int)) := ⟨_, rfl⟩
        have m1 : ∀ k, k ≠ 74 → k ≠ 90 → B5 k = B4 k := fun k a b => by rw [hB5, hset_nek _ _ _ a, hset_nek _ _ _ b]
        have m74 : ∀ j, j ≠ 20 → B5 74 j = B4 74 j := fun j a => by rw [hB5, hset_nej _ _ a, hset_nek _ _ _ (by decide)]
        have q19 : A6 19 = upd (A3 19) (c' + off) 0 := by rw [v2 19 (by decide), u2, pA3 19 (by decide)]
        have q20 : A6 20 = upd (A3 20) (c' + off) 0 := by rw [v2 20 (by decide), u3, pA3 20 (by decide)]
        have qi : ∀ k, k ≠ 1 → k ≠ 15 → k ≠ 19 → k ≠ 20 → A6 k = A1 k := fun k a b e f => by rw [v2 k b, u5 k b e f, pA3 k a, g2.1 k a b e f, pA k a]
        have bi : ∀ k, k ≠ 74 → k ≠ 85 → k ≠ 86 → k ≠ 90 → B5 k = B1 k := fun k a b e f => by rw [m1 k a f, w3.1 k a b e, g3.1 k a b e, o3.1 k a b e, c1 k a]
        have b85 : B5 85 = LJ (B3 85) c' pj := by rw [m1 85 (by decide) (by decide), w4]
        refine ⟨A6, B5, rfl, ?_, ?_, Or.inl ⟨p' + 1, c', by omega, hcc, ⟨hA4.cg (by rw [v2 2 (by decide), u5 2 (by decide) (by decide) (by decide)]) (by rw [v2 1 (by decide), u5 1 (by decide) (by decide) (by decide)]), hB4.cg (m1 84 (by decide) (by decide)) (m74 13 (by decide)) (m74 14 (by decide)), hn, by rw [m74 18 (by decide)]; exact l18, by rw [v3, u4]; congr 2, by omega, v4 ht, by rw [hB5, hset_self], by omega⟩, ⟨fun i hi => ?_, fun i hi => ?_⟩, by rw [qi 16 (by decide) (by decide) (by decide) (by decide), a1 16 (by decide)], by rw [qi 17 (by decide) (by decide) (by decide) (by decide), a1 17 (by decide)], by rw [qi 18 (by decide) (by decide) (by decide) (by decide), a18], by rw [bi 87 (by decide) (by decide) (by decide) (by decide), b1 87 (by decide)], by rw [bi 88 (by decide) (by decide) (by decide) (by decide), b1 88 (by decide)], by rw [bi 89 (by decide) (by decide) (by decide) (by decide), b89], ?_, ?_, by rw [q19, upd_self], ?_⟩⟩
        · refine oA3.trans (fun k a b _ _ _ e f => ?_)
          rw [v2 k b, u5 k b e f, pA3 k a]
        · refine (oB3.trans w3.R).trans ⟨fun k a _ _ _ _ _ f => m1 k a f, fun j _ _ _ _ _ _ a => m74 j a⟩
        · rw [q19, q20, upd_ne _ _ (by omega), upd_ne _ _ (by omega), (r9.1 i hi).1, (r9.1 i hi).2, pA 19 (by decide), pA 20 (by decide), a1 19 (by decide), a1 20 (by decide)]; exact ⟨rfl, rfl⟩
        · rw [b85, LJ_ne _ _ _ _ (fun x hx => by have := r6 x hx; omega), r9.2.1 i hi, o4, c1 85 (by decide), b1 85 (by decide)]
        · rw [hB5, hset_nek _ _ _ (by decide), hset, hput_self, w3.1 90 (by decide) (by decide) (by decide), g3.1 90 (by decide) (by decide) (by decide), o3.1 90 (by decide) (by decide) (by decide), c1 90 (by decide), b1 90 (by decide)]
        · exact r10.cg (fun i i1 i2 => ⟨by rw [q19, upd_ne _ _ (by omega)], by rw [q20, upd_ne _ _ (by omega)], by rw [b85]⟩)
        · rw [r13, w1, if_pos rfl, hb2_some, if_neg i10, l20, hib_t (n := 16) (by omega) (by omega) (by omega), if_pos rfl, hb1_some, iI_natc (k := t) (by omega), l18, hset_nek _ _ _ (by decide), l20, iI_s, hB5]
      · have eF : f_X10_expect 41 A3 = some (f_X10_failAt (iI 1) (iI (p' : Int)) A3) := by
          rw [ex_eq, show f_X10_isAt 41 A3 = _ from isAt_ok (c := 41) hA3 (by omega) (by omega), hb1_some, if_neg z41, if_pos rfl, fh_eq, hA3.2.2.2.2.1]; rfl
        obtain ⟨f1, f2, f3⟩ := FT_here (B := B3) 1 (p' : Int) hA3 (by omega) (by omega) (by omega) (by omega)
        obtain ⟨r, A5, u1, u2, u3, u4⟩ := add_dd 0 0 (show DD (f_X10_failAt (iI 1) (iI (p' : Int)) A3) from ⟨c' + off, by omega, by rw [f2 15 (by decide)]; exact j6⟩)
        obtain ⟨A6, v1, v2, v3, v4⟩ := endRule_ok (A := A5) (t := t) (by rw [u3.2 3 (by decide), f2 15 (by decide)]; exact k3) (by omega)
        rw [eF, hb1_some, u1, hb2_some, v1]
        refine ⟨A6, _, rfl, oA3.trans ((f2.D.R.trans u3.R).trans (fun k _ a _ _ _ _ _ => v2 k a)), oB3.trans f3.D.R, Or.inr ⟨f1.dk (dk_of (by rw [v2 1 (by decide), u4])), ?_⟩⟩
        rw [r13, not_close hA3 hB3 z41 r11 r12, hb2_some, if_pos rfl]
    · obtain ⟨A6, w1, w2, w3⟩ := tail_dead (N := N) (t := t) r1.dead r2 k3 (by omega)
      exact ⟨A6, B3, w1, oA3.trans w3, oB3, Or.inr ⟨r1.dk w2, by rw [r3, hb2_some, if_pos rfl]⟩⟩
  · have eE : f_X10_expect 40 A1 = some (f_X10_failAt (iI 1) (iI (p : Int)) A1) := by
      rw [ex_eq, show f_X10_isAt 40 A1 = _ from isAt_ok (c := 40) hA1' (by omega) (by omega), hb1_some, if_neg z40, if_pos rfl, fh_eq, hA1'.2.2.2.2.1]; rfl
    obtain ⟨f1, f2, f3⟩ := FT_here (B := B1) 1 (p : Int) hA1' (by omega) (by omega) (by omega) (by omega)
    have n40 : ¬ iI (sgn tb n p) = 40 := ne_i (b := 40) z40 (by omega) (by omega) (by omega) (by omega)
    obtain ⟨A2, g1, g2, g3, g4⟩ := gd0 (N := N) (q := 53) hN 1 _ f1.dead ⟨c + off, by omega, by rw [f2 15 (by decide), a1 15 (by decide)]; exact h6⟩
    obtain ⟨A6, w1, w2, w3⟩ := tail_dead (N := N) (t := t) (g2.dead f1.dead) g4 (by rw [g3.2 3 (by decide), f2 15 (by decide), a1 15 (by decide)]; exact h3) (by omega)
    rw [eE, hb1_some, g1, hb1_some]
    refine ⟨A6, _, w1, oA1.trans (f2.D.R.trans (g3.R.trans w3)), oB1.trans f3.D.R, Or.inr ⟨(f1.dk g2).dk w2, ?_⟩⟩
    rw [eR, f_X12_readsCondition, here_ok hB1', hb1_some, if_neg n40, show hb2 (f_X12_wrongAt 1 (B1 74 13) B1) (fun x M => if x &&& 1 = x then some (x, M) else none) = _ from wr_some (k := 1) hB1'.2.2.2.2, hb2_some, if_pos rfl]
    rfl

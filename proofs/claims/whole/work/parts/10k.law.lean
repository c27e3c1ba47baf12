/-! a rule -/
def RU (kn wo ts sg wt rl rf rh rt rc : Nat → Int32) (sz cm t : Nat) : Prop := ∃ (z : Int) (c c1 c2 o1 o2 : Nat), (z = 101 ∨ z = 114 ∨ z = 120) ∧ kn t = iI z ∧ rl t = iI z ∧ wo t = iI ((c + o1 : Nat) : Int) ∧ rf t = iI (c : Int) ∧ rh t = iI (c1 : Int) ∧ ts t = iI ((c1 + o2 : Nat) : Int) ∧ rt t = iI (c2 : Int) ∧ (z ≠ 120 → SEG sg wt rc o1 c c1 TT 15 ∧ sg (c1 + o1) = 0 ∧ c1 + o1 < sz) ∧ SEG sg wt rc o2 c1 c2 BB 16 ∧ sg (c2 + o2) = 0 ∧ c2 + o2 < sz ∧ c2 ≤ cm
def LW (A B : HMem) (sz cm t : Nat) : Prop := ∀ s, s < t → RU (A 16) (A 17) (A 18) (A 19) (A 20) (B 87) (B 88) (B 89) (B 90) (B 85) sz cm s
theorem RU.cg {kn wo ts sg wt rl rf rh rt rc kn' wo' ts' sg' wt' rl' rf' rh' rt' rc' : Nat → Int32} {sz cm sz' cm' t : Nat} (h : RU kn wo ts sg wt rl rf rh rt rc sz cm t) (e1 : kn' t = kn t) (e2 : wo' t = wo t) (e3 : ts' t = ts t) (e4 : rl' t = rl t) (e5 : rf' t = rf t) (e6 : rh' t = rh t) (e7 : rt' t = rt t) (es : ∀ q, q < sz → sg' q = sg q ∧ wt' q = wt q) (er : ∀ q, q < cm → rc' q = rc q) (hs : sz ≤ sz') (hc : cm ≤ cm') : RU kn' wo' ts' sg' wt' rl' rf' rh' rt' rc' sz' cm' t := by
  obtain ⟨z, c, c1, c2, o1, o2, h1, h2, h3, h4, h5, h6, h7, h8, h9, h10, h11, h12, h13⟩ := h
  have hle := h10.1
  refine ⟨z, c, c1, c2, o1, o2, h1, e1.trans h2, e4.trans h3, e2.trans h4, e5.trans h5, e6.trans h6, e3.trans h7, e7.trans h8, fun hk => ?_, h10.cg (fun q a b => ⟨(es _ (by omega)).1, (es _ (by omega)).2, er _ (by omega)⟩), (es _ h12).1.trans h11, by omega, by omega⟩
  obtain ⟨g1, g2, g3⟩ := h9 hk
  exact ⟨g1.cg (fun q a b => ⟨(es _ (by omega)).1, (es _ (by omega)).2, er _ (by omega)⟩), (es _ g3).1.trans g2, by omega⟩
theorem LW.same {A A' B B' : HMem} {sz cm t : Nat} (h : LW A B sz cm t) (eA : ∀ k, k ≠ 1 → A' k = A k) (eB : ∀ k, k ≠ 74 → B' k = B k) : LW A' B' sz cm t := by
  intro s hs
  have := h s hs
  rw [eA 16 (by decide), eA 17 (by decide), eA 18 (by decide), eA 19 (by decide), eA 20 (by decide), eB 87 (by decide), eB 88 (by decide), eB 89 (by decide), eB 90 (by decide), eB 85 (by decide)]
  exact this
theorem rule_ok {tb : Nat → Nat} {N n p c off t : Nat} {A B : HMem} (hN : 300 ≤ N) (hS : SX tb n A B p c off t) (hL : LW A B (c + off) c t) : ∃ A' B', f_X6_readRule N A = some A' ∧ ocR A A' ∧ oBR B B' ∧ ((∃ p' c' off', p < p' ∧ t < 16 ∧ SX tb n A' B' p' c' off' (t + 1) ∧ LW A' B' (c' + off') c' (t + 1) ∧ f_X12_readsRule N B = some (1, B')) ∨ (FT A' B' ∧ f_X12_readsRule N B = some (0, B'))) := by
  obtain ⟨hA, hB, hn, h18, h6, hc, h3, h20, ht16⟩ := id hS
  have hp := hA.2.2.1
  have hz := sgn_rg hA
  by_cases hk : sgn tb n p = 101 ∨ sgn tb n p = 114 ∨ sgn tb n p = 120
  · have hpn : p < n := sgn_in (tb := tb) (by omega)
    have eA : f_X6_readRule N A = f_X6_readRule_J35 N (iI (sgn tb n p)) A := by
      rw [f_X6_readRule, sign_ok hA, hb1_some]
      rcases hk with q | q | q
      · rw [q]; exact if_pos rfl
      · rw [q, if_neg (by decide)]; exact if_pos rfl
      · rw [q, if_neg (by decide), if_neg (by decide)]; exact if_pos rfl
    have eB : f_X12_readsRule N B = f_X12_readsRule_J33 N (iI (sgn tb n p)) B := by
      rw [f_X12_readsRule, here_ok hB, hb1_some]
      rcases hk with q | q | q
      · rw [q]; exact if_pos rfl
      · rw [q, if_neg (by decide)]; exact if_pos rfl
      · rw [q, if_neg (by decide), if_neg (by decide)]; exact if_pos rfl
    by_cases h16 : t = 16
    · have x : ¬ A 15 3 < 16 := by rw [h3]; exact nlt_i (b := 16) (by omega) (by omega) (by omega)
      obtain ⟨f1, f2, f3⟩ := FT_here (B := B) 4 (p : Int) hA (by omega) (by omega) (by omega) (by omega)
      refine ⟨_, _, ?_, f2.D.R, f3.D.R, Or.inr ⟨f1, ?_⟩⟩
      · rw [eA, f_X6_readRule_J35, if_neg x, fh_eq, hA.2.2.2.2.1]; rfl
      · rw [eB, f_X12_readsRule_J33, if_pos (by rw [h20, h16]; rfl), show hb2 (f_X12_wrongAt 4 (B 74 13) B) (fun x M => if x &&& 1 = x then some (x, M) else none) = _ from wr_some (k := 4) hB.2.2.2.2]
        rfl
    · have ht : t < 16 := by omega
      obtain ⟨e1, e2⟩ := pass_ok hA hpn
      have pA : ∀ i, i ≠ 1 → f_X10_pass A i = A i := fun i hi => by rw [e1, hset_nek _ _ _ hi]
      obtain ⟨A1, hA1⟩ : ∃ A1, A1 = hset (hset (f_X10_pass A) 16 t (iI (sgn tb n p))) 17 t (iI ((c + off : Nat) : Int)) := ⟨_, rfl⟩
      have a1 : ∀ k, k ≠ 16 → k ≠ 17 → A1 k = f_X10_pass A k := fun k a b => by rw [hA1, hset_nek _ _ _ b, hset_nek _ _ _ a]
      have a16 : A1 16 = upd (A 16) t (iI (sgn tb n p)) := by rw [hA1, hset_nek _ _ _ (by decide), hset, hput_self, pA 16 (by decide)]
      have a17 : A1 17 = upd (A 17) t (iI ((c + off : Nat) : Int)) := by rw [hA1, hset, hput_self, hset_nek _ _ _ (by decide), pA 17 (by decide)]
      have x : A 15 3 < 16 := by rw [h3]; exact lt_i (b := 16) (by omega) (by omega) (by omega)
      have x2 : ¬ (16 : Int32) ≤ iI (t : Int) := nl_i (a := 16) (by omega) (by omega) (by omega)
      have bW : f_X5_beginWorth 15 (iI (sgn tb n p)) (f_X10_pass A) = some A1 := by
        rw [f_X5_beginWorth, pA 15 (by decide), h3, if_neg x2, hib_t (n := 16) (by omega) (by omega) (by omega), if_pos rfl, hb1_some, hset_nek _ _ _ (by decide), pA 15 (by decide), h3, hib_t (n := 16) (by omega) (by omega) (by omega), if_pos rfl, iI_natc (k := t) (by omega), h6, hA1]
      have eA1 : f_X6_readRule_J35 N (iI (sgn tb n p)) A = (if iI (sgn tb n p) = 120 then f_X6_readRule_J92 N A1 else hb1 (g_X6 N 60 4 0 A1) (fun M102 => hb2 (f_X5_add 15 0 0 M102) (fun _ M104 => f_X6_readRule_J92 N M104))) := by
        rw [f_X6_readRule_J35, if_pos x, bW, hb1_some]
      obtain ⟨B1, hB1⟩ : ∃ B1, B1 = hset (hset (hset (hset (hset B 87 t (iI (sgn tb n p))) 74 13 (iI ((p + 1 : Nat) : Int))) 88 t (iI (c : Int))) 74 17 0) 74 19 0 := ⟨_, rfl⟩
      have b1 : ∀ k, k ≠ 74 → k ≠ 87 → k ≠ 88 → B1 k = B k := fun k a b d => by rw [hB1, hset_nek _ _ _ a, hset_nek _ _ _ a, hset_nek _ _ _ d, hset_nek _ _ _ a, hset_nek _ _ _ b]
      have b74 : ∀ j, j ≠ 13 → j ≠ 17 → j ≠ 19 → B1 74 j = B 74 j := fun j a b d => by rw [hB1, hset_nej _ _ d, hset_nej _ _ b, hset_nek _ _ _ (by decide), hset_nej _ _ a, hset_nek _ _ _ (by decide)]
      have b87 : B1 87 = upd (B 87) t (iI (sgn tb n p)) := by rw [hB1, hset_nek _ _ _ (by decide), hset_nek _ _ _ (by decide), hset_nek _ _ _ (by decide), hset_nek _ _ _ (by decide), hset, hput_self]
      have b88 : B1 88 = upd (B 88) t (iI (c : Int)) := by rw [hB1, hset_nek _ _ _ (by decide), hset_nek _ _ _ (by decide), hset, hput_self, hset_nek _ _ _ (by decide), hset_nek _ _ _ (by decide)]
      have b13 : B1 74 13 = iI ((p + 1 : Nat) : Int) := by rw [hB1, hset_nej _ _ (by decide), hset_nej _ _ (by decide), hset_nek _ _ _ (by decide), hset_self]
      have b17 : B1 74 17 = iI ((0 : Nat) : Int) := by rw [hB1, hset_nej _ _ (by decide), hset_self]; rfl
      have b19 : B1 74 19 = iI ((0 : Nat) : Int) := by rw [hB1, hset_self]; rfl
      have y : ¬ iI (t : Int) = 16 := ne_i (b := 16) (by omega) (by omega) (by omega) (by omega) (by omega)
      have eB1 : f_X12_readsRule_J33 N (iI (sgn tb n p)) B = (if iI (sgn tb n p) = 120 then f_X12_readsRule_J110 N B1 else hb2 (f_X12_readsSum N B1) (fun x103 M104 => if x103 = 0 then some (0, M104) else f_X12_readsRule_J110 N M104)) := by
        rw [f_X12_readsRule_J33, h20, if_neg y, hib_t (n := 16) (by omega) (by omega) (by omega), if_pos rfl, hb1_some, iI_natc (k := t) (by omega), hset_nek _ _ _ (show (74 : Nat) ≠ 87 by decide), hB.2.2.2.2, iI_s, hset_nej _ _ (show (20 : Nat) ≠ 13 by decide), hset_nek _ _ _ (show (74 : Nat) ≠ 87 by decide), h20, hib_t (n := 16) (by omega) (by omega) (by omega), if_pos rfl, iI_natc (k := t) (by omega), hset_nej _ _ (show (18 : Nat) ≠ 13 by decide), hset_nek _ _ _ (show (74 : Nat) ≠ 87 by decide), h18, hb1_some, ← hB1]
      have hA1' : CP tb A1 n (p + 1) := e2.cg (a1 2 (by decide) (by decide)) (a1 1 (by decide) (by decide))
      have hB1' : RP tb B1 n (p + 1) := (hB.step hpn).cg (by rw [b1 84 (by decide) (by decide) (by decide), hset_nek _ _ _ (by decide)]) (by rw [b13, hset_self]) (by rw [b74 14 (by decide) (by decide) (by decide), hset_nej _ _ (by decide)])
      have oA1 : ocR A A1 := fun k d _ a b _ _ _ => by rw [a1 k a b, pA k d]
      have oB1 : oBR B B1 := ⟨fun k a _ _ b d _ _ => b1 k a b d, fun j a _ _ b _ d _ => b74 j a b d⟩
      have i6 : A1 15 6 = iI ((c + off : Nat) : Int) := by rw [a1 15 (by decide) (by decide), pA 15 (by decide)]; exact h6
      have i3 : A1 15 3 = iI (t : Int) := by rw [a1 15 (by decide) (by decide), pA 15 (by decide)]; exact h3
      have i18 : B1 74 18 = iI (c : Int) := by rw [b74 18 (by decide) (by decide) (by decide)]; exact h18
      have i20 : B1 74 20 = iI (t : Int) := by rw [b74 20 (by decide) (by decide) (by decide)]; exact h20
      by_cases z120 : sgn tb n p = 120
      · have x120 : iI (sgn tb n p) = 120 := by rw [z120]; rfl
        obtain ⟨A', B', g1, g2, g3, g4⟩ := cond_ok (t := t) hN (show SX tb n A1 B1 (p + 1) c off t from ⟨hA1', hB1', hn, i18, i6, by omega, i3, i20, by omega⟩) ht
        refine ⟨A', B', by rw [eA, eA1, if_pos x120]; exact g1, oA1.trans g2, oB1.trans g3, ?_⟩
        rcases g4 with ⟨p', c', r1, r2, r3, r4, r5, r6, r7, r8, r9, r10, r11, r12, r13, r14⟩ | ⟨r1, r2⟩
        · refine Or.inl ⟨p', c', off + 1, by omega, ht, r3, fun s hs => ?_, by rw [eB, eB1, if_pos x120]; exact r14⟩
          by_cases st : s = t
          · rw [st]
            exact ⟨120, c, c, c', off, off, by omega, by rw [r5, a16, upd_self, z120], by rw [r8, b87, upd_self, z120], by rw [r6, a17, upd_self], by rw [r9, b88, upd_self], by rw [r10, upd_self], by rw [r7, upd_self], by rw [r11, upd_self], fun h => absurd rfl h, r12, r13, by omega, Nat.le_refl _⟩
          · refine (hL s (by omega)).cg (by rw [r5, a16, upd_ne _ _ st]) (by rw [r6, a17, upd_ne _ _ st]) (by rw [r7, upd_ne _ _ st, a1 18 (by decide) (by decide), pA 18 (by decide)]) (by rw [r8, b87, upd_ne _ _ st]) (by rw [r9, b88, upd_ne _ _ st]) (by rw [r10, upd_ne _ _ st, b1 89 (by decide) (by decide) (by decide)]) (by rw [r11, upd_ne _ _ st, b1 90 (by decide) (by decide) (by decide)]) (fun q hq => ?_) (fun q hq => ?_) (by omega) (by omega)
            · rw [(r4.1 q hq).1, (r4.1 q hq).2, a1 19 (by decide) (by decide), a1 20 (by decide) (by decide), pA 19 (by decide), pA 20 (by decide)]; exact ⟨rfl, rfl⟩
            · rw [r4.2 q hq, b1 85 (by decide) (by decide) (by decide)]
        · exact Or.inr ⟨r1, by rw [eB, eB1, if_pos x120]; exact r2⟩
      · have x120 : ¬ iI (sgn tb n p) = 120 := ne_i (b := 120) z120 (by omega) (by omega) (by omega) (by omega)
        obtain ⟨A2, B2, g1, g2, g3, g4⟩ := sum_top (q := 60) hN (by omega) (show SY tb n A1 B1 (p + 1) 0 c off 0 0 from ⟨hA1', hB1', hn, by omega, b17, i18, i6, b19, by omega, by omega⟩) (Or.inl rfl)
        have g1' : g_X6 N 60 4 0 A1 = some A2 := g1
        have j3 : A2 15 3 = iI (t : Int) := by rw [g2.2 3 (by decide)]; exact i3
        have j20 : B2 74 20 = iI (t : Int) := by rw [g3.2 20 (by decide) (by decide) (by decide) (by decide) (by decide) (by decide)]; exact i20
        rcases g4 with ⟨p2, c2, w1, w2, w3, w4, w5, w6⟩ | ⟨w1, w2, w3⟩
        · obtain ⟨k1, k2, -, -, -, k18, k6, -, kc, -⟩ := w3
          simp only [Nat.add_zero] at k6 kc
          have hp2 := k1.2.2.1
          have hcc := w5.1
          obtain ⟨A3, u1, u2, u3, u4, u5, u6⟩ := add_sp 0 0 k6 (by omega)
          have hS3 : SX tb n A3 B2 p2 c2 (off + 1) t := ⟨k1.cg (u5 2 (by decide) (by decide) (by decide)) (u5 1 (by decide) (by decide) (by decide)), k2, hn, k18, by rw [u4, Nat.add_assoc], by omega, by rw [u6 3 (by decide)]; exact j3, j20, by omega⟩
          obtain ⟨A', B', v1, v2, v3, v4⟩ := cond_ok (t := t) hN hS3 ht
          have q23 : ocR A2 A3 := fun k _ a _ _ _ b d => u5 k a b d
          refine ⟨A', B', ?_, oA1.trans (g2.R.trans (q23.trans v2)), oB1.trans (g3.R.trans v3), ?_⟩
          · rw [eA, eA1, if_neg x120, g1', hb1_some, u1, hb2_some]; exact v1
          have eB2 : f_X12_readsRule N B = f_X12_readsRule_J110 N B2 := by rw [eB, eB1, if_neg x120, w6, hb2_some, if_neg i10]
          rcases v4 with ⟨p', c', r1, r2, r3, r4, r5, r6, r7, r8, r9, r10, r11, r12, r13, r14⟩ | ⟨r1, r2⟩
          · have o16 : A' 16 = upd (A 16) t (iI (sgn tb n p)) := by rw [r5, u5 16 (by decide) (by decide) (by decide), g2.1 16 (by decide) (by decide) (by decide) (by decide), a16]
            have o17 : A' 17 = upd (A 17) t (iI ((c + off : Nat) : Int)) := by rw [r6, u5 17 (by decide) (by decide) (by decide), g2.1 17 (by decide) (by decide) (by decide) (by decide), a17]
            have o18 : A' 18 = upd (A 18) t (iI ((c2 + (off + 1) : Nat) : Int)) := by rw [r7, u5 18 (by decide) (by decide) (by decide), g2.1 18 (by decide) (by decide) (by decide) (by decide), a1 18 (by decide) (by decide), pA 18 (by decide)]
            have o87 : B' 87 = upd (B 87) t (iI (sgn tb n p)) := by rw [r8, g3.1 87 (by decide) (by decide) (by decide), b87]
            have o88 : B' 88 = upd (B 88) t (iI (c : Int)) := by rw [r9, g3.1 88 (by decide) (by decide) (by decide), b88]
            have o89 : B' 89 = upd (B 89) t (iI (c2 : Int)) := by rw [r10, g3.1 89 (by decide) (by decide) (by decide), b1 89 (by decide) (by decide) (by decide)]
            have o90 : B' 90 = upd (B 90) t (iI (c' : Int)) := by rw [r11, g3.1 90 (by decide) (by decide) (by decide), b1 90 (by decide) (by decide) (by decide)]
            have s19 : ∀ q, q < c2 + off → A' 19 q = A2 19 q ∧ A' 20 q = A2 20 q := fun q hq => by
              rw [(r4.1 q (by omega)).1, (r4.1 q (by omega)).2, u2, u3, upd_ne _ _ (by omega), upd_ne _ _ (by omega)]; exact ⟨rfl, rfl⟩
            have s0 : A' 19 (c2 + off) = 0 := by rw [(r4.1 (c2 + off) (by omega)).1, u2, upd_self]
            refine Or.inl ⟨p', c', off + 1 + 1, by omega, ht, r3, fun s hs => ?_, by rw [eB2]; exact r14⟩
            by_cases st : s = t
            · rw [st]
              exact ⟨sgn tb n p, c, c2, c', off, off + 1, hk, by rw [o16, upd_self], by rw [o87, upd_self], by rw [o17, upd_self], by rw [o88, upd_self], by rw [o89, upd_self], by rw [o18, upd_self], by rw [o90, upd_self], fun _ => ⟨w5.cg (fun q a b => ⟨(s19 _ (by omega)).1, (s19 _ (by omega)).2, r4.2 q b⟩), s0, by omega⟩, r12, r13, by omega, Nat.le_refl _⟩
            · refine (hL s (by omega)).cg (by rw [o16, upd_ne _ _ st]) (by rw [o17, upd_ne _ _ st]) (by rw [o18, upd_ne _ _ st]) (by rw [o87, upd_ne _ _ st]) (by rw [o88, upd_ne _ _ st]) (by rw [o89, upd_ne _ _ st]) (by rw [o90, upd_ne _ _ st]) (fun q hq => ?_) (fun q hq => ?_) (by omega) (by omega)
              · rw [(s19 q (by omega)).1, (s19 q (by omega)).2, (w4.1 q hq).1, (w4.1 q hq).2, a1 19 (by decide) (by decide), a1 20 (by decide) (by decide), pA 19 (by decide), pA 20 (by decide)]; exact ⟨rfl, rfl⟩
              · rw [r4.2 q (by omega), w4.2.1 q hq, b1 85 (by decide) (by decide) (by decide)]
          · exact Or.inr ⟨r1, by rw [eB2]; exact r2⟩
        · obtain ⟨r, A3, u1, u2, u3, u4⟩ := add_dd 0 0 w2
          obtain ⟨A6, v1, v2, v3⟩ := j92_dead (N := N) (t := t) hN (by rw [u4]; exact w1.dead) u2 (by rw [u3.2 3 (by decide)]; exact j3) ht
          refine ⟨A6, B2, ?_, oA1.trans (g2.R.trans (u3.R.trans v3)), oB1.trans g3.R, Or.inr ⟨(w1.dk (dk_of u4)).dk v2, ?_⟩⟩
          · rw [eA, eA1, if_neg x120, g1', hb1_some, u1, hb2_some]; exact v1
          · rw [eB, eB1, if_neg x120, w3, hb2_some, if_pos rfl]
  · have n1 : ¬ iI (sgn tb n p) = 101 := ne_i (b := 101) (by omega) (by omega) (by omega) (by omega) (by omega)
    have n2 : ¬ iI (sgn tb n p) = 114 := ne_i (b := 114) (by omega) (by omega) (by omega) (by omega) (by omega)
    have n3 : ¬ iI (sgn tb n p) = 120 := ne_i (b := 120) (by omega) (by omega) (by omega) (by omega) (by omega)
    obtain ⟨f1, f2, f3⟩ := FT_here (B := B) 1 (p : Int) hA (by omega) (by omega) (by omega) (by omega)
    refine ⟨_, _, ?_, f2.D.R, f3.D.R, Or.inr ⟨f1, ?_⟩⟩
    · rw [f_X6_readRule, sign_ok hA, hb1_some, if_neg n1, if_neg n2, if_neg n3, fh_eq, hA.2.2.2.2.1]; rfl
    · rw [f_X12_readsRule, here_ok hB, hb1_some, if_neg n1, if_neg n2, if_neg n3, show hb2 (f_X12_wrongAt 1 (B 74 13) B) (fun x M => if x &&& 1 = x then some (x, M) else none) = _ from wr_some (k := 1) hB.2.2.2.2]
      rfl
theorem rule_dead {A : HMem} {N : Nat} (h : ¬ A 1 4 = 0) : f_X6_readRule N A = some A := by
  rw [f_X6_readRule, sign_dead h, hb1_some, if_neg (by decide), if_neg (by decide), if_neg (by decide), fh_eq, fail_dead h]
theorem lw_dead {A : HMem} {N k : Nat} (v : Int32) (h : ¬ A 1 4 = 0) : f_X6_read_L9 N (k + 1) v A = some A := by
  rw [f_X6_read_L9]
  split
  · rfl
  · rw [rule_dead h, hb1_some, f_X10_isAt, sign_dead h, hb1_some, if_pos rfl, hb1_some, if_neg i10]

/-! conditions: tests, what & joins, what | joins -/
def QT (tb : Nat → Nat) (N n d : Nat) : Prop := ∀ (q k p c off wn : Nat) (A B : HMem), 5 + 3 * (6 - d) ≤ q → n < k + p → SY tb n A B p d c off wn 0 → TO B wn (fun o => 10 ≤ o) → ∃ A' B', g_X6 N q 2 (iI (d : Int)) A = some A' ∧ ocD A A' ∧ oBD B B' ∧ ((∃ ke kk k' p' c' : Nat, p < p' ∧ d < ke ∧ n < kk + p' ∧ n < k' + p' ∧ c' + p ≤ c + p' ∧ SY tb n A' B' p' d c' off wn 0 ∧ KP (c + off) c wn A A' B B' ∧ SEG (A' 19) (A' 20) (B' 85) off c c' BB 16 ∧ f_X12_readsCondition_L40 N k B = EX N ke kk k' B') ∨ (FT A' B' ∧ DD A' ∧ f_X12_readsCondition_L40 N k B = some (0, B')))
def QC (tb : Nat → Nat) (N n d : Nat) : Prop := ∀ (q k p c off wn : Nat) (A B : HMem), 7 + 3 * (6 - d) ≤ q → n < k + p → SY tb n A B p d c off wn 0 → TO B wn (fun o => o = 13) → ∃ A' B', g_X6 N q 0 (iI (d : Int)) A = some A' ∧ ocD A A' ∧ oBD B B' ∧ ((∃ (kk k' p' c' : Nat) (pj : List (Nat × Nat)), p < p' ∧ n < kk + p' ∧ n < k' + p' ∧ c' + p ≤ c + p' ∧ pj.length ≤ 2 ∧ (∀ x, x ∈ pj → (x.1 = 11 ∨ x.1 = 12) ∧ c ≤ x.2 ∧ x.2 < c') ∧ SY tb n A' B' p' d c' off (wn + pj.length) 0 ∧ PJ B' wn pj ∧ KP (c + off) c wn A A' B B' ∧ SEG (A' 19) (A' 20) (LJ (B' 85) c' pj) off c c' BB 16 ∧ sgn tb n p' ≠ 38 ∧ sgn tb n p' ≠ 124 ∧ f_X12_readsCondition_L40 N k B = DX N kk k' B') ∨ (FT A' B' ∧ DD A' ∧ f_X12_readsCondition_L40 N k B = some (0, B')))
theorem QT.qi {tb : Nat → Nat} {N n d : Nat} (h : QT tb N n d) : QI tb N n d 2 5 11 False (fun _ => True) := by
  intro q k p c off wn A B hq hk hS hT
  obtain ⟨A', B', g1, g2, g3, g4⟩ := h q k p c off wn A B hq hk hS (hT.mono (fun o ho => by omega))
  refine ⟨A', B', g1, g2, g3, ?_⟩
  rcases g4 with ⟨ke, kk, k', p', c', r1, r2, r3, r4, r5, r6, r7, r8, r9⟩ | g
  · refine Or.inl ⟨kk, k', p', c', [], r1, r3, r4, r5, Or.inl rfl, r6, trivial, r7, r8, trivial, ?_⟩
    have hp := r6.1.2.2.1
    have hn := r6.2.2.1
    have hw := r6.2.2.2.2.2.2.2.2.2
    rw [r9, ex_dx (hT.cg (fun i hi => r7.2.2 i hi) |>.mono (fun o ho => by omega)) r6.2.2.2.2.2.2.2.1 (by omega) (by omega)]
  · exact Or.inr g
theorem part_of {tb : Nat → Nat} {N n d : Nat} (hN : 300 ≤ N) (hT : QT tb N n d) : QI tb N n d 1 6 12 True (fun z => z ≠ 38) := by
  intro q k p c off wn A B hq hk hS hTO
  obtain ⟨q, rfl⟩ : ∃ q', q = q' + 1 := ⟨q - 1, by omega⟩
  have eC : g_X6 N (q + 1) 1 (iI (d : Int)) A = f_X6_readPart N (g_X6 N q) (iI (d : Int)) A := rfl
  obtain ⟨A1, B1, g1, g2, g3, g4⟩ := hT.qi q k p c off wn A B (by omega) hk hS (hTO.mono (fun o ho => by omega))
  rw [eC, f_X6_readPart, g1, hb1_some, part_g]
  have hn := hS.2.2.1
  rcases g4 with ⟨kk, k', p', c', pa, r1, r2, r3, r4, r5, r6, r7, r8, r9, r10, r11⟩ | ⟨r1, r2, r3⟩
  · have hpa : pa = [] := by
      rcases r5 with h | ⟨m, _, _, _, h⟩
      · exact h
      · exact h.elim
    subst hpa
    obtain ⟨A', B', m1, m2, m3, m4⟩ := chain_L (q := q) (s0 := c) (wn := wn) (off := off) (o := 11) hN (Or.inl rfl) (fun h => h.elim) hT.qi (by omega) N 0 p' c' k' kk [] [] (-1) c A1 B1 (by omega) (by omega) (Nat.le_refl _) r3 r2 r6 trivial (Or.inl rfl) (Nat.le_refl _) (fun x hx => absurd hx List.not_mem_nil) r9 rfl trivial ((hTO.cg (fun i hi => r8.2.2 i hi)).mono (fun o ho => ⟨by omega, fun h => absurd h (by decide)⟩)) trivial
    refine ⟨A', B', m1, g2.trans m2, g3.trans m3, ?_⟩
    rcases m4 with ⟨kk2, K2, p2, c2, pa2, js2, y1, y2, y3, y4, y5, y6, y7, y8, y9, y10, y11, y12, y13⟩ | ⟨y1, y2, y3⟩
    · have hpa2 : pa2 = [] := by
        rcases y5 with h | ⟨m, _, _, _, h⟩
        · exact h
        · exact h.elim
      subst hpa2
      refine Or.inl ⟨kk2, K2, p2, c2, PJof 11 js2, by omega, y2, y3, by omega, ?_, y7, y8, r8.trans y9 (by omega) (by omega) (by omega), y10, y12, by rw [r11, y13]⟩
      cases js2 with
      | nil => exact Or.inl rfl
      | cons m r => exact Or.inr ⟨m, (y6 m List.mem_cons_self).1, (y6 m List.mem_cons_self).2, rfl, trivial⟩
    · exact Or.inr ⟨y1, y2, by rw [r11, y3]⟩
  · obtain ⟨k', hk'⟩ : ∃ k', N = k' + 1 := ⟨N - 1, by omega⟩
    obtain ⟨A4, y1, y2, y3, y4⟩ := g_dead (k := k') (t := 2) (s := 38) hN (g_X6 N q) 4 (iI (d : Int)) (-1) 0 (by omega) (by omega) r1.dead r2
    rw [← hk'] at y1
    exact ⟨A4, B1, y1, g2.trans y3, g3, Or.inr ⟨r1.dk y2, y4, r3⟩⟩
theorem choice_of {tb : Nat → Nat} {N n d : Nat} (hN : 300 ≤ N) (hP : QI tb N n d 1 6 12 True (fun z => z ≠ 38)) : QC tb N n d := by
  intro q k p c off wn A B hq hk hS hTO
  obtain ⟨q, rfl⟩ : ∃ q', q = q' + 1 := ⟨q - 1, by omega⟩
  have eC : g_X6 N (q + 1) 0 (iI (d : Int)) A = f_X6_readChoice N (g_X6 N q) (iI (d : Int)) A := rfl
  obtain ⟨A1, B1, g1, g2, g3, g4⟩ := hP q k p c off wn A B (by omega) hk hS (hTO.mono (fun o ho => by omega))
  rw [eC, f_X6_readChoice, g1, hb1_some, choice_g]
  have hn := hS.2.2.1
  rcases g4 with ⟨kk, k', p', c', pa, r1, r2, r3, r4, r5, r6, r7, r8, r9, r10, r11⟩ | ⟨r1, r2, r3⟩
  · have hnil : pa ++ PJof 12 [] = pa := List.append_nil _
    obtain ⟨A', B', m1, m2, m3, m4⟩ := chain_L (q := q) (s0 := c) (wn := wn) (off := off) (o := 12) hN (Or.inr rfl) (fun _ => rfl) hP (by omega) N 0 p' c' k' kk [] pa (-1) c A1 B1 (by omega) (by omega) (Nat.le_refl _) r3 r2 (by rw [hnil]; exact r6) (by rw [hnil]; exact r7) r5 (Nat.le_refl _) (fun x hx => absurd hx List.not_mem_nil) r9 rfl trivial ((hTO.cg (fun i hi => r8.2.2 i hi)).mono (fun o ho => ⟨by omega, fun _ => by omega⟩)) r10
    refine ⟨A', B', m1, g2.trans m2, g3.trans m3, ?_⟩
    rcases m4 with ⟨kk2, K2, p2, c2, pa2, js2, y1, y2, y3, y4, y5, y6, y7, y8, y9, y10, y11, y12, y13⟩ | ⟨y1, y2, y3⟩
    · refine Or.inl ⟨kk2, K2, p2, c2, pa2 ++ PJof 12 js2, by omega, y2, y3, by omega, ?_, fun x hx => ?_, y7, y8, r8.trans y9 (by omega) (by omega) (by omega), y10, y11, y12, by rw [r11, y13]⟩
      · rw [List.length_append]
        have := pa_len y5
        have := pj_len 12 js2
        omega
      · rcases List.mem_append.mp hx with h | h
        · have := pa_mem y5 x h
          exact ⟨Or.inl this.1, this.2⟩
        · have := pj_mem x h
          exact ⟨Or.inr this.1, y6 _ this.2⟩
    · exact Or.inr ⟨y1, y2, by rw [r11, y3]⟩
  · obtain ⟨k', hk'⟩ : ∃ k', N = k' + 1 := ⟨N - 1, by omega⟩
    obtain ⟨A4, y1, y2, y3, y4⟩ := g_dead (k := k') (t := 1) (s := 124) hN (g_X6 N q) 5 (iI (d : Int)) (-1) 0 (by omega) (by omega) r1.dead r2
    rw [← hk'] at y1
    exact ⟨A4, B1, y1, g2.trans y3, g3, Or.inr ⟨r1.dk y2, y4, r3⟩⟩
/-- the reference closes a bracket -/
theorem close_ok {tb : Nat → Nat} {N n p d c off wn kk k' : Nat} {pj : List (Nat × Nat)} {A B : HMem} (hN : 300 ≤ N) (hS : SY tb n A B p (d + 1) c off (wn + 1 + pj.length) 0) (hl : pj.length ≤ 2) (hx : ∀ x, x ∈ pj → (x.1 = 11 ∨ x.1 = 12)) (hP : PJ B (wn + 1) pj) (ht : B 86 wn = iI ((1048576 * 13 + 0 : Nat) : Int)) (hz : sgn tb n p = 41) : ∃ B4, DX N (kk + 1) k' B = (if wn = 0 then some (1, B4) else EX N N kk k' B4) ∧ SY tb n (f_X10_pass A) B4 (p + 1) d c off wn 0 ∧ oBD B B4 ∧ B4 85 = LJ (B 85) c pj ∧ B4 86 = B 86 := by
  obtain ⟨hA, hB, hn, hd, h17, h18, h6, h19, hc, hw⟩ := hS
  simp only [Nat.add_zero] at h6 h19 hc hw
  have hpn : p < n := sgn_in (tb := tb) (by omega)
  obtain ⟨a1, a2⟩ := pass_ok hA hpn
  obtain ⟨B1, u1, u2, u3, u4, u5⟩ := lands_L (N := N) (wn := wn + 1) (c := c) (v1 := 1) (Or.inr rfl) (by omega) (by omega) pj N B (fun x h => by rcases hx x h with e | e; exact Or.inl e; exact Or.inr ⟨e, rfl⟩) h18 h19 hP (TO_push (o := 13) (v := 0) (by omega) (by omega) ht ⟨by omega, fun _ => by omega⟩) (by omega) (by omega)
  obtain ⟨B4, hB4⟩ : ∃ B4, B4 = hset (hset (hset B1 74 19 (iI (wn : Int))) 74 17 (iI (d : Int))) 74 13 (iI ((p + 1 : Nat) : Int)) := ⟨_, rfl⟩
  have k74 : ∀ j, j ≠ 13 → j ≠ 17 → j ≠ 19 → B4 74 j = B 74 j := fun j a b f => by rw [hB4, hset_nej _ _ a, hset_nej _ _ b, hset_nej _ _ f, u5 j f]
  have kk2 : ∀ i, i ≠ 74 → i ≠ 85 → B4 i = B i := fun i a b => by rw [hB4, hset_nek _ _ _ a, hset_nek _ _ _ a, hset_nek _ _ _ a, u4 i a b]
  have k19 : B4 74 19 = iI (wn : Int) := by rw [hB4, hset_nej _ _ (by decide), hset_nej _ _ (by decide), hset_self]
  refine ⟨B4, ?_, ⟨a2, ⟨fun j hj => by rw [kk2 84 (by decide) (by decide)]; exact hB.1 j hj, hB.2.1, by omega, by rw [k74 14 (by decide) (by decide) (by decide)]; exact hB.2.2.2.1, by rw [hB4, hset_self]⟩, hn, by omega, by rw [hB4, hset_nej _ _ (by decide), hset_self], by rw [k74 18 (by decide) (by decide) (by decide)]; exact h18, by rw [a1, hset_nek _ _ _ (by decide)]; exact h6, k19, by omega, by omega⟩, ⟨fun i a b _ => kk2 i a b, fun j a _ _ b _ f => k74 j a b f⟩, by rw [hB4, hset_nek _ _ _ (by decide), hset_nek _ _ _ (by decide), hset_nek _ _ _ (by decide), u3], kk2 86 (by decide) (by decide)⟩
  have e1 : hset B1 74 19 (iI (wn : Int)) 74 17 = iI ((d + 1 : Nat) : Int) := by rw [hset_nej _ _ (by decide), u5 17 (by decide)]; exact h17
  have e2 : hset (hset B1 74 19 (iI (wn : Int))) 74 17 (iI (d : Int)) 74 13 = iI (p : Int) := by rw [hset_nej _ _ (by decide), hset_nej _ _ (by decide), u5 13 (by decide)]; exact hB.2.2.2.2
  rw [DX, f_X12_readsCondition_L92, here_ok hB, hb1_some, if_pos (by rw [hz]; rfl), f_X12_lands, u1, hb1_some, u2, iI_pr, e1, iI_pr, hb1_some, e2, iI_s, ← hB4, k19]
  by_cases w0 : wn = 0
  · rw [if_pos (by rw [w0]; rfl), if_pos w0]
  · have x : ¬ iI (wn : Int) = 0 := ne_i (b := 0) (by omega) (by omega) (by omega) (by omega) (by omega)
    rw [if_neg x, if_neg w0]
    rfl
theorem not_close {tb : Nat → Nat} {N n p k' kk : Nat} {A B : HMem} (hA : CP tb A n p) (hB : RP tb B n p) (h1 : sgn tb n p ≠ 41) (h2 : sgn tb n p ≠ 38) (h3 : sgn tb n p ≠ 124) : DX N (kk + 1) k' B = some (0, hset B 74 15 (iI (-1000 * 1 - (p : Int)))) := by
  have hz := sgn_rg hA
  rw [DX, f_X12_readsCondition_L92, here_ok hB, hb1_some, if_neg (show ¬ iI (sgn tb n p) = 41 from ne_i (b := 41) h1 (by omega) (by omega) (by omega) (by omega)), hb1_some, if_neg (show ¬ iI (sgn tb n p) = 38 from ne_i (b := 38) h2 (by omega) (by omega) (by omega) (by omega)), hb1_some, if_neg (show ¬ iI (sgn tb n p) = 124 from ne_i (b := 124) h3 (by omega) (by omega) (by omega) (by omega)), show hb2 (f_X12_wrongAt 1 (B 74 13) B) (fun x M => if x &&& 1 = x then some (x, M) else none) = _ from wr_some (k := 1) hB.2.2.2.2]
  rfl
theorem test_of {tb : Nat → Nat} {N n d : Nat} (hN : 300 ≤ N) (hTs : d < 6 → QT tb N n (d + 1)) (hC : d < 6 → QC tb N n (d + 1)) : QT tb N n d := by
  intro q k p c off wn A B hq hk hS hTO
  obtain ⟨hA, hB, hn, hd, h17, h18, h6, h19, hc, hw⟩ := id hS
  simp only [Nat.add_zero] at h6 h19 hc hw
  have hp := hA.2.2.1
  have hz := sgn_rg hA
  have h13 := hB.2.2.2.2
  obtain ⟨q, rfl⟩ : ∃ q', q = q' + 1 := ⟨q - 1, by omega⟩
  obtain ⟨k, rfl⟩ : ∃ q', k = q' + 1 := ⟨k - 1, by omega⟩
  have eC : g_X6 N (q + 1) 2 (iI (d : Int)) A = f_X6_readTest N (g_X6 N q) (iI (d : Int)) A := rfl
  rw [eC, f_X6_readTest, show f_X10_isAt 33 A = _ from isAt_ok (c := 33) hA (by omega) (by omega), hb1_some, show f_X10_isAt 40 A = _ from isAt_ok (c := 40) hA (by omega) (by omega), hb1_some]
  by_cases z33 : sgn tb n p = 33
  · rw [if_pos z33, if_neg i10, f_X6_opens]
    have hpn : p < n := sgn_in (tb := tb) (by omega)
    have eF : f_X12_readsCondition_L40 N (k + 1) B = hb2 (f_X12_opens 10 B) (fun x M => if x = 0 then some (0, M) else f_X12_readsCondition_L40 N k M) := by
      rw [f_X12_readsCondition_L40, here_ok hB, hb1_some, z33, if_pos (by rfl), f_X12_readsCondition_J58, here_ok hB, hb1_some, z33, if_pos (by rfl)]
    by_cases d6 : d = 6
    · have x1 : ¬ iI (d : Int) < 6 := nlt_i (b := 6) (by omega) (by omega) (by omega)
      obtain ⟨f1, f2, f3⟩ := FT_here (B := B) 5 (p : Int) hA (by omega) (by omega) (by omega) (by omega)
      have eA : f_X10_failHere 5 A = f_X10_failAt (iI 5) (iI (p : Int)) A := by rw [fh_eq, hA.2.2.2.2.1]; rfl
      rw [if_neg x1, hb2_some, if_pos rfl, eA]
      refine ⟨_, _, rfl, f2.D, f3.D, Or.inr ⟨f1, ⟨c + off, by omega, by rw [f2 15 (by decide)]; exact h6⟩, ?_⟩⟩
      rw [eF, opens_6 10 (by rw [h17, d6]) h13, hb2_some, if_pos rfl]
    · have x1 : iI (d : Int) < 6 := lt_i (b := 6) (by omega) (by omega) (by omega)
      obtain ⟨a1, a2⟩ := pass_ok hA hpn
      have pA : ∀ i, i ≠ 1 → f_X10_pass A i = A i := fun i hi => by rw [a1, hset_nek _ _ _ hi]
      obtain ⟨B1, o1, o2, o3, o4, o5⟩ := opens_sp 10 hS (by omega) hpn
      rw [if_pos x1, hb2_some, if_neg i10, iI_s]
      have t10 : B1 86 wn = iI ((1048576 * 10 + 0 : Nat) : Int) := by rw [o5, upd_self]
      obtain ⟨A1, B2, g1, g2, g3, g4⟩ := hTs (by omega) q k (p + 1) c off (wn + 1) (f_X10_pass A) B1 (by omega) (by omega) o2 (TO_push (o := 10) (v := 0) (by omega) (by omega) t10 (Nat.le_refl _))
      rw [g1, hb1_some]
      have eF2 : f_X12_readsCondition_L40 N (k + 1) B = f_X12_readsCondition_L40 N k B1 := by rw [eF, show f_X12_opens 10 B = some (1, B1) from o1, hb2_some, if_neg i10]
      have oA : ocD A A1 := (oc1.D pA).trans g2
      have oBB : oBD B B2 := o3.trans g3
      rcases g4 with ⟨ke, kk, k', p', c', r1, r2, r3, r4, r5, r6, r7, r8, r9⟩ | ⟨r1, r2, r3⟩
      · obtain ⟨hA1, hB2, -, -, j17, j18, j6, j19, jc, jw⟩ := id r6
        simp only [Nat.add_zero] at j6 j19 jc jw
        have hp1 := hA1.2.2.1
        have hcc := r8.1
        obtain ⟨A4, u1, u2, u3, u4, u5, u6⟩ := add_sp 3 0 j6 (by omega)
        rw [u1, hb2_some]
        obtain ⟨ke, rfl⟩ : ∃ q', ke = q' + 1 := ⟨ke - 1, by omega⟩
        obtain ⟨B3, v1, v2, v3, v4, v5⟩ := notes_sp 10 0 j18 (by omega)
        have t10' : B2 86 wn = iI ((1048576 * 10 + 0 : Nat) : Int) := by rw [r7.2.2 wn (by omega)]; exact t10
        have wt := waitTop_ok (o := 10) (v := 0) j19 (by omega) (by omega) (by omega) t10'
        obtain ⟨B4, hB4⟩ : ∃ B4, B4 = hset (hset B3 74 19 (iI (wn : Int))) 74 17 (iI (d : Int)) := ⟨_, rfl⟩
        have k74 : ∀ j, j ≠ 17 → j ≠ 18 → j ≠ 19 → B4 74 j = B2 74 j := fun j a b f => by rw [hB4, hset_nej _ _ a, hset_nej _ _ f, v5 j b]
        have kk2 : ∀ i, i ≠ 74 → i ≠ 85 → B4 i = B2 i := fun i a b => by rw [hB4, hset_nek _ _ _ a, hset_nek _ _ _ a, v4 i a b]
        have k85 : B4 85 = upd (B2 85) c' (iI ((1048576 * 10 + 0 : Nat) : Int)) := by rw [hB4, hset_nek _ _ _ (by decide), hset_nek _ _ _ (by decide), v2]
        have eE : EX N (ke + 1) kk k' B2 = EX N ke kk k' B4 := by
          have e1 : B3 74 19 = iI ((wn + 1 : Nat) : Int) := by rw [v5 19 (by decide)]; exact j19
          have e2 : hset B3 74 19 (iI (wn : Int)) 74 17 = iI ((d + 1 : Nat) : Int) := by rw [hset_nej _ _ (by decide), v5 17 (by decide)]; exact j17
          rw [EX, f_X12_endsPiece_L0, wt, hb1_some, if_pos (by rfl), show f_X12_notes 10 0 B2 = some B3 from v1, hb1_some, e1, iI_pr, e2, iI_pr, ← hB4]
          rfl
        refine ⟨A4, B4, rfl, oA.trans ⟨fun i _ a b e => u5 i a b e, u6⟩, oBB.trans ⟨fun i a b _ => kk2 i a b, fun j _ _ _ a b e => k74 j a b e⟩, Or.inl ⟨ke, kk, k', p', c' + 1, by omega, by omega, r3, r4, by omega, ⟨hA1.cg (u5 2 (by decide) (by decide) (by decide)) (u5 1 (by decide) (by decide) (by decide)), hB2.cg (kk2 84 (by decide) (by decide)) (k74 13 (by decide) (by decide) (by decide)) (k74 14 (by decide) (by decide) (by decide)), hn, hd, by rw [hB4, hset_self], by rw [hB4, hset_nej _ _ (by decide), hset_nej _ _ (by decide)]; exact v3, by rw [u4]; congr 2; omega, by rw [hB4, hset_nej _ _ (by decide), hset_self]; rfl, by omega, by omega⟩, ⟨fun i hi => ?_, fun i hi => ?_, fun i hi => ?_⟩, ?_, ?_⟩⟩
        · rw [u2, u3, upd_ne _ _ (by omega), upd_ne _ _ (by omega), (r7.1 i hi).1, (r7.1 i hi).2, pA 19 (by decide), pA 20 (by decide)]; exact ⟨rfl, rfl⟩
        · rw [k85, upd_ne _ _ (by omega), r7.2.1 i hi, o4]
        · rw [kk2 86 (by decide) (by decide), r7.2.2 i (by omega), o5, upd_ne _ _ (by omega)]
        · have s1 : SEG (A4 19) (A4 20) (B4 85) off c c' BB 16 := r8.cg (fun i i1 i2 => ⟨by rw [u2, upd_ne _ _ (by omega)], by rw [u3, upd_ne _ _ (by omega)], by rw [k85, upd_ne _ _ (by omega)]⟩)
          exact seg_not s1 (by rw [u2, upd_self]) (by rw [k85, upd_self]) (by omega)
        · rw [eF2, r9, eE]
      · obtain ⟨r, A4, u1, u2, u3, u4⟩ := add_dd 3 0 r2
        rw [u1, hb2_some]
        exact ⟨A4, B2, rfl, oA.trans u3, oBB, Or.inr ⟨r1.dk (dk_of u4), u2, by rw [eF2, r3]⟩⟩
  · rw [if_neg z33, if_pos rfl]
    have n33 : ¬ iI (sgn tb n p) = 33 := ne_i (b := 33) z33 (by omega) (by omega) (by omega) (by omega)
    by_cases z40 : sgn tb n p = 40
    · rw [if_pos z40, if_neg i10, f_X6_opens]
      have hpn : p < n := sgn_in (tb := tb) (by omega)
      have eF : f_X12_readsCondition_L40 N (k + 1) B = hb2 (f_X12_opens 13 B) (fun x M => if x = 0 then some (0, M) else f_X12_readsCondition_L40 N k M) := by
        rw [f_X12_readsCondition_L40, here_ok hB, hb1_some, if_neg n33, hb1_some, if_pos (by rw [z40]; rfl), f_X12_readsCondition_J58, here_ok hB, hb1_some, if_neg n33]
      by_cases d6 : d = 6
      · have x1 : ¬ iI (d : Int) < 6 := nlt_i (b := 6) (by omega) (by omega) (by omega)
        obtain ⟨f1, f2, f3⟩ := FT_here (B := B) 5 (p : Int) hA (by omega) (by omega) (by omega) (by omega)
        have eA : f_X10_failHere 5 A = f_X10_failAt (iI 5) (iI (p : Int)) A := by rw [fh_eq, hA.2.2.2.2.1]; rfl
        rw [if_neg x1, hb2_some, if_pos rfl, eA]
        refine ⟨_, _, rfl, f2.D, f3.D, Or.inr ⟨f1, ⟨c + off, by omega, by rw [f2 15 (by decide)]; exact h6⟩, ?_⟩⟩
        rw [eF, opens_6 13 (by rw [h17, d6]) h13, hb2_some, if_pos rfl]
      · have x1 : iI (d : Int) < 6 := lt_i (b := 6) (by omega) (by omega) (by omega)
        obtain ⟨a1, a2⟩ := pass_ok hA hpn
        have pA : ∀ i, i ≠ 1 → f_X10_pass A i = A i := fun i hi => by rw [a1, hset_nek _ _ _ hi]
        obtain ⟨B1, o1, o2, o3, o4, o5⟩ := opens_sp 13 hS (by omega) hpn
        rw [if_pos x1, hb2_some, if_neg i10, iI_s]
        have t13 : B1 86 wn = iI ((1048576 * 13 + 0 : Nat) : Int) := by rw [o5, upd_self]
        obtain ⟨A1, B2, g1, g2, g3, g4⟩ := hC (by omega) q k (p + 1) c off (wn + 1) (f_X10_pass A) B1 (by omega) (by omega) o2 (TO_push (o := 13) (v := 0) (by omega) (by omega) t13 rfl)
        rw [g1, hb1_some]
        have eF2 : f_X12_readsCondition_L40 N (k + 1) B = f_X12_readsCondition_L40 N k B1 := by rw [eF, show f_X12_opens 13 B = some (1, B1) from o1, hb2_some, if_neg i10]
        have oA : ocD A A1 := (oc1.D pA).trans g2
        have oBB : oBD B B2 := o3.trans g3
        rcases g4 with ⟨kk, k', p', c', pj, r1, r2, r3, r4, r5, r6, r7, r8, r9, r10, r11, r12, r13⟩ | ⟨r1, r2, r3⟩
        · obtain ⟨hA1, hB2, -, -, j17, j18, j6, j19, jc, jw⟩ := id r7
          simp only [Nat.add_zero] at j6 j19 jc jw
          have hp1 := hA1.2.2.1
          have hcc := r10.1
          obtain ⟨kk, rfl⟩ : ∃ q', kk = q' + 1 := ⟨kk - 1, by omega⟩
          by_cases z41 : sgn tb n p' = 41
          · have hpn1 : p' < n := sgn_in (tb := tb) (by omega)
            obtain ⟨b1, b2⟩ := pass_ok hA1 hpn1
            have pA1 : ∀ i, i ≠ 1 → f_X10_pass A1 i = A1 i := fun i hi => by rw [b1, hset_nek _ _ _ hi]
            have eE : f_X10_expect 41 A1 = some (f_X10_pass A1) := by
              rw [ex_eq, show f_X10_isAt 41 A1 = _ from isAt_ok (c := 41) hA1 (by omega) (by omega), hb1_some, if_pos z41, if_neg i10]
            obtain ⟨B4, w1, w2, w3, w4, w5⟩ := close_ok (kk := kk) (k' := k') (N := N) hN r7 r5 (fun x hx => (r6 x hx).1) r8 (by rw [r9.2.2 wn (by omega)]; exact t13) z41
            rw [eE, hb1_some]
            refine ⟨_, B4, rfl, oA.trans (oc1.D pA1), oBB.trans w3, Or.inl ⟨N, kk, k', p' + 1, c', by omega, by omega, by omega, by omega, by omega, w2, ⟨fun i hi => ?_, fun i hi => ?_, fun i hi => ?_⟩, ?_, ?_⟩⟩
            · rw [pA1 19 (by decide), pA1 20 (by decide), (r9.1 i hi).1, (r9.1 i hi).2, pA 19 (by decide), pA 20 (by decide)]; exact ⟨rfl, rfl⟩
            · rw [w4, LJ_ne _ _ _ _ (fun x hx => by have := r6 x hx; omega), r9.2.1 i hi, o4]
            · rw [w5, r9.2.2 i (by omega), o5, upd_ne _ _ (by omega)]
            · rw [pA1 19 (by decide), pA1 20 (by decide), w4]; exact r10
            · rw [eF2, r13, w1, if_neg (by have := hTO.1; omega)]
          · have eE : f_X10_expect 41 A1 = some (f_X10_failAt (iI 1) (iI (p' : Int)) A1) := by
              rw [ex_eq, show f_X10_isAt 41 A1 = _ from isAt_ok (c := 41) hA1 (by omega) (by omega), hb1_some, if_neg z41, if_pos rfl, fh_eq, hA1.2.2.2.2.1]; rfl
            obtain ⟨f1, f2, f3⟩ := FT_here (B := B2) 1 (p' : Int) hA1 (by omega) (by omega) (by omega) (by omega)
            rw [eE, hb1_some]
            exact ⟨_, _, rfl, oA.trans f2.D, oBB.trans f3.D, Or.inr ⟨f1, ⟨c' + off, by omega, by rw [f2 15 (by decide)]; exact j6⟩, by rw [eF2, r13, not_close hA1 hB2 z41 r11 r12]⟩⟩
        · rw [show f_X10_expect 41 A1 = _ from expect_dead (c := 41) r1.dead (by omega) (by omega), hb1_some]
          exact ⟨A1, B2, rfl, oA, oBB, Or.inr ⟨r1, r2, by rw [eF2, r3]⟩⟩
    · rw [if_neg z40, if_pos rfl]
      obtain ⟨A1, B1, g1, g2, g3, g4⟩ := cmp_ok (q := q) (k := k) hN (by omega) hS hTO.tn z33 z40
      rw [g1, hb1_some]
      refine ⟨A1, B1, rfl, g2, g3, ?_⟩
      rcases g4 with ⟨p', c', r1, r2, r3, r4, r5, r6⟩ | g
      · have := r3.1.2.2.1
        exact Or.inl ⟨N, N, k, p', c', r1, by omega, by omega, by omega, r2, r3, r4, r5, r6⟩
      · exact Or.inr g
theorem QC_all {tb : Nat → Nat} {N n : Nat} (hN : 300 ≤ N) : ∀ (e d : Nat), d + e = 6 → QT tb N n d ∧ QC tb N n d
  | 0, d, h => by
    have t := test_of (tb := tb) (n := n) (d := d) hN (fun h2 => absurd h2 (by omega)) (fun h2 => absurd h2 (by omega))
    exact ⟨t, choice_of hN (part_of hN t)⟩
  | e + 1, d, h => by
    have ih := QC_all (tb := tb) (n := n) hN e (d + 1) (by omega)
    have t := test_of (tb := tb) (n := n) (d := d) hN (fun _ => ih.1) (fun _ => ih.2)
    exact ⟨t, choice_of hN (part_of hN t)⟩

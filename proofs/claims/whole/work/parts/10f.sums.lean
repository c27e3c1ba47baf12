/-! sums -/
theorem opS_of2 {z : Int} (h : z = 43 ∨ z = 45) : ∃ o, 2 ≤ o ∧ o < 4 ∧ z = opS o := by
  rcases h with h | h
  · exact ⟨2, by omega, by omega, h⟩
  · exact ⟨3, by omega, by omega, h⟩
theorem sum_L {tb : Nat → Nat} {N n base d q c0 off wn : Nat} (hN : 300 ≤ N) (hF : PSx tb N n base d 5 4 1 2 (14 - 2 * d) nterm) (hq : 2 + 3 * (6 - d) ≤ q) (hb : base ≤ wn) : ∀ (k v p c K : Nat) (ql : List Nat) (A B : HMem), n < k + p → v < p → n < K + p → ql.length ≤ 2 → (∀ o, o ∈ ql → 2 ≤ o ∧ o ≤ 6) → SY tb n A B p d c off wn ql.length → PDr B wn ql → TN B wn 2 → c0 ≤ c → SEG (A 19) (A 20) (VC (B 85) c ql) off c0 (c + ql.length) TT (15 - 2 * d) → nterm (sgn tb n p) → ∃ A' B', f_X6_readSum_L7 N (g_X6 N q) (iI (d : Int)) k (iI (v : Int)) A = some A' ∧ ocD A A' ∧ oBD B B' ∧ ((∃ (K' p' c' : Nat) (ql' : List Nat), p ≤ p' ∧ n < K' + p' ∧ c' + ql'.length + p ≤ c + ql.length + p' ∧ ql'.length ≤ 2 ∧ (∀ o, o ∈ ql' → 2 ≤ o ∧ o ≤ 6) ∧ SY tb n A' B' p' d c' off wn ql'.length ∧ PDr B' wn ql' ∧ KP (c0 + off) c0 wn A A' B B' ∧ c0 ≤ c' ∧ SEG (A' 19) (A' 20) (VC (B' 85) c' ql') off c0 (c' + ql'.length) TT (15 - 2 * d) ∧ nsum (sgn tb n p') ∧ f_X12_readsSum_L14 N (iI (base : Int)) K B = f_X12_readsSum_L14 N (iI (base : Int)) K' B') ∨ (FT A' B' ∧ DD A' ∧ f_X12_readsSum_L14 N (iI (base : Int)) K B = some (0, B'))) := by
  intro k
  induction k with
  | zero => intro v p c K ql A B h1 h2 h3 h4 h5 h6; have := h6.1.2.2.1; omega
  | succ k ih =>
    intro v p c K ql A B hk hv hK hl hql hS hP hT hc0 hSeg hnt
    obtain ⟨hA, hB, hn, hd, h17, h18, h6, h19, hc, hw⟩ := id hS
    have hp := hA.2.2.1
    have x1 : ¬ (240 : Int32) ≤ iI (v : Int) := nl_i (a := 240) (by omega) (by omega) (by omega)
    have eC : f_X6_readSum_L7 N (g_X6 N q) (iI (d : Int)) (k + 1) (iI (v : Int)) A = if sgn tb n p = 43 ∨ sgn tb n p = 45 then o_J38 N (g_X6 N q) (f_X6_readSum_L7 N (g_X6 N q) (iI (d : Int)) k) (iI (d : Int)) (iI (v : Int)) A else some A := by
      rw [rS_eq, if_neg x1, show f_X10_isAt 43 A = _ from isAt_ok (c := 43) hA (by omega) (by omega), show f_X10_isAt 45 A = _ from isAt_ok (c := 45) hA (by omega) (by omega), hb1_some, hb1_some]
      by_cases a : sgn tb n p = 43
      · rw [if_pos a, if_neg i10, if_pos (Or.inl a)]
      · rw [if_neg a, if_pos rfl]
        by_cases b : sgn tb n p = 45
        · rw [if_pos b, if_neg i10, if_pos (Or.inr b)]
        · rw [if_neg b, if_pos rfl, if_neg (by omega)]
    rw [eC]
    by_cases hz : sgn tb n p = 43 ∨ sgn tb n p = 45
    · obtain ⟨o, o1, o2, o3⟩ := opS_of2 hz
      have rg := opS_rg (o := o) (by omega) (by omega)
      have hpn : p < n := sgn_in (tb := tb) (by omega)
      rw [if_pos hz, o_J38, sign_ok hA, hb1_some]
      obtain ⟨K, rfl⟩ : ∃ K', K = K' + 1 := ⟨K - 1, by omega⟩
      obtain ⟨B2, t1, t2, t3, t4, t5⟩ := take_op (base := base) (K := K) (N := N) (v1 := 1) (lo := 2) hN (Or.inr ⟨rfl, rfl, o2⟩) (by omega) (by omega) hS (by omega) hql hP hT o3
      obtain ⟨a1, a2⟩ := pass_ok hA hpn
      have pA : ∀ i, i ≠ 1 → f_X10_pass A i = A i := fun i hi => by rw [a1, hset_nek _ _ _ hi]
      have oA : ocD A (f_X10_pass A) := oc1.D pA
      obtain ⟨A1, B3, g1, g2, g3, g4⟩ := hF q N K (p + 1) (c + ql.length) off (wn + 1) (f_X10_pass A) B2 hq (by omega) (by omega) t2 (by omega) (Or.inr ⟨o, 0, by omega, by omega, by rw [t5, Nat.add_sub_cancel, upd_self], by omega⟩)
      rw [g1, hb1_some]
      rcases g4 with ⟨K', p', c', q1, r1, r2, r3, e1, e2, r4, e3, r5, e4, r6, e5, r7⟩ | ⟨r1, r2, r3⟩
      · obtain ⟨hA1, hB3, -, -, j17, j18, j6, j19, jc, jw⟩ := id r4
        have hp' := hA1.2.2.1
        obtain ⟨A2, u1, u2, u3, u4, u5, u6⟩ := add_sp (iI (sgn tb n p)) 0 j6 (by omega)
        rw [u1, hb2_some, iI_s]
        have b86 : B3 86 wn = iI ((1048576 * o + 0 : Nat) : Int) := by rw [r5.2.2 wn (by omega), t5, upd_self]
        have KPa : KP (c0 + off) c0 wn A A2 B B3 := by
          refine ⟨fun i hi => ?_, fun i hi => ?_, fun i hi => ?_⟩
          · rw [u2, u3, upd_ne _ _ (by have := r6.1; omega), upd_ne _ _ (by have := r6.1; omega), (r5.1 i (by omega)).1, (r5.1 i (by omega)).2, pA 19 (by decide), pA 20 (by decide)]; exact ⟨rfl, rfl⟩
          · rw [r5.2.1 i (by omega), t4, VC_lt _ _ _ _ (by omega)]
          · rw [r5.2.2 i (by omega), t5, upd_ne _ _ (by omega)]
        have hcc := r6.1
        have e85 : VC (B3 85) c' (q1 ++ [o]) = upd (VC (B3 85) c' q1) (c' + q1.length) (iI ((1048576 * o + 0 : Nat) : Int)) := VC_app q1 _ _ _
        have el : (q1 ++ [o]).length = q1.length + 1 := by rw [List.length_append, List.length_singleton]
        have sg2 : SEG (A2 19) (A2 20) (VC (B3 85) c' (q1 ++ [o])) off c0 (c' + (q1 ++ [o]).length) TT (15 - 2 * d) := by
          have s1 : SEG (A2 19) (A2 20) (VC (B3 85) c' (q1 ++ [o])) off c0 (c + ql.length) TT (15 - 2 * d) := by
            refine hSeg.cg (fun i i1 i2 => ⟨?_, ?_, ?_⟩)
            · rw [u2, upd_ne _ _ (by omega), (r5.1 _ (by omega)).1, pA 19 (by decide)]
            · rw [u3, upd_ne _ _ (by omega), (r5.1 _ (by omega)).2, pA 20 (by decide)]
            · rw [e85, upd_ne _ _ (by omega), VC_lt _ _ _ _ (by omega), r5.2.1 i (by omega), t4]
          have s2 : SEG (A2 19) (A2 20) (VC (B3 85) c' (q1 ++ [o])) off (c + ql.length) (c' + q1.length) TT (14 - 2 * d) := by
            refine r6.cg (fun i i1 i2 => ⟨?_, ?_, ?_⟩)
            · rw [u2, upd_ne _ _ (by omega)]
            · rw [u3, upd_ne _ _ (by omega)]
            · rw [e85, upd_ne _ _ (by omega)]
          rw [el, ← Nat.add_assoc]
          exact seg_bin (o := o) (j := c' + q1.length) s1 s2 (by omega) (by omega) (by rw [u2, upd_self, o3]) (by rw [e85, upd_self]) (by omega) (by omega) (by omega) (fun _ _ => trivial)
        have hS2 : SY tb n A2 B3 p' d c' off wn (q1 ++ [o]).length := by
          rw [el]
          exact ⟨hA1.cg (u5 2 (by decide) (by decide) (by decide)) (u5 1 (by decide) (by decide) (by decide)), hB3, hn, hd, j17, j18, by rw [u4]; congr 2; omega, by rw [j19]; congr 2; omega, by omega, by omega⟩
        obtain ⟨A', B', m1, m2, m3, m4⟩ := ih (v + 1) p' c' K' (q1 ++ [o]) A2 B3 (by omega) (by omega) r2 (by omega) (fun o' h' => by
          rcases List.mem_append.mp h' with h | h
          · have := e2 o' h; omega
          · rw [List.mem_singleton.mp h]; omega) hS2 (PDr_app b86 e3) (hT.cg (fun i hi => KPa.2.2 i hi)) (by omega) sg2 e5
        refine ⟨A', B', m1, (oA.trans g2).trans (ocD.trans ⟨fun i _ a b e => u5 i a b e, u6⟩ m2), (t3.trans g3).trans m3, ?_⟩
        have eL : f_X12_readsSum_L14 N (iI (base : Int)) (K + 1) B = f_X12_readsSum_L14 N (iI (base : Int)) K' B3 := by rw [t1, r7]
        rw [eL]
        rcases m4 with ⟨K2, p2, c2, ql2, w1, w2, w3, w4, w5, w6, w7, w8, w9, w10, w11, w12⟩ | w
        · refine Or.inl ⟨K2, p2, c2, ql2, by omega, w2, ?_, w4, w5, w6, w7, KPa.trans w8 (by omega) (by omega) (by omega), w9, w10, w11, w12⟩
          rw [el] at w3
          omega
        · exact Or.inr w
      · obtain ⟨r, A2, u1, u2, u3, u4⟩ := add_dd (iI (sgn tb n p)) 0 r2
        have dd : ¬ A2 1 4 = 0 := by rw [u4]; exact r1.dead
        obtain ⟨k, rfl⟩ : ∃ k', k = k' + 1 := ⟨k - 1, by omega⟩
        rw [u1, hb2_some, sum_dead _ _ _ dd]
        exact ⟨A2, B3, rfl, (oA.trans g2).trans u3, t3.trans g3, Or.inr ⟨r1.dk (dk_of u4), u2, by rw [t1, r3]⟩⟩
    · rw [if_neg hz]
      exact ⟨A, B, rfl, ocD_rf _, oBD_rf _, Or.inl ⟨K, p, c, ql, by omega, hK, by omega, hl, hql, hS, hP, KP_of rfl rfl rfl rfl, hc0, hSeg, ⟨hnt, by omega, by omega⟩, rfl⟩⟩
theorem PS_of {tb : Nat → Nat} {N n base d : Nat} (hN : 300 ≤ N) (hF : PSx tb N n base d 5 4 1 2 (14 - 2 * d) nterm) : PSx tb N n base d 4 2 2 3 (15 - 2 * d) nsum := by
  intro q k K p c off wn A B hq hk hK hS hb hT
  obtain ⟨q, rfl⟩ : ∃ q', q = q' + 1 := ⟨q - 1, by omega⟩
  have eC : g_X6 N (q + 1) 4 (iI (d : Int)) A = f_X6_readSum N (g_X6 N q) (iI (d : Int)) A := rfl
  obtain ⟨A1, B1, g1, g2, g3, g4⟩ := hF q k K p c off wn A B (by omega) hk hK hS hb hT.mono
  rw [eC, f_X6_readSum, g1, hb1_some]
  have hn := hS.2.2.1
  have hp := hS.1.2.2.1
  rcases g4 with ⟨K', p', c', q1, r1, r2, r3, e1, e2, r4, e3, r5, e4, r6, e5, r7⟩ | ⟨r1, r2, r3⟩
  · have hcc := r6.1
    obtain ⟨A', B', m1, m2, m3, m4⟩ := sum_L (q := q) (c0 := c) (off := off) (wn := wn) hN hF (by omega) hb N 0 p' c' K' q1 A1 B1 (by omega) (by omega) r2 (by omega) (fun o h => by have := e2 o h; omega) r4 e3 (hT.cg (fun i hi => r5.2.2 i hi)) e4 (r6.up (by omega)) e5
    refine ⟨A', B', m1, g2.trans m2, g3.trans m3, ?_⟩
    rcases m4 with ⟨K2, p2, c2, ql2, w1, w2, w3, w4, w5, w6, w7, w8, w9, w10, w11, w12⟩ | ⟨w1, w2, w3⟩
    · exact Or.inl ⟨K2, p2, c2, ql2, by omega, w2, by omega, w4, w5, w6, w7, r5.trans w8 (by omega) (by omega) (by omega), w9, w10, w11, by rw [r7, w12]⟩
    · exact Or.inr ⟨w1, w2, by rw [r7, w3]⟩
  · obtain ⟨k', hk'⟩ : ∃ k', N = k' + 1 := ⟨N - 1, by omega⟩
    have : f_X6_readSum_L7 N (g_X6 N q) (iI (d : Int)) N 0 A1 = some A1 := by
      conv => lhs; arg 4; rw [hk']
      exact sum_dead _ _ _ r1.dead
    exact ⟨A1, B1, this, g2, g3, Or.inr ⟨r1, r2, r3⟩⟩
theorem PS_all {tb : Nat → Nat} {N n base : Nat} (hN : 300 ≤ N) : ∀ (e d : Nat), d + e = 6 → PSx tb N n base d 4 2 2 3 (15 - 2 * d) nsum
  | 0, d, h => PS_of hN (PT_of hN (PF_of hN (fun h2 => absurd h2 (by omega))))
  | e + 1, d, h => PS_of hN (PT_of hN (PF_of hN (fun _ => PS_all hN e (d + 1) (by omega))))
/-- a whole sum, with nothing left to wait -/
theorem sum_top {tb : Nat → Nat} {N n q p d c off wn : Nat} {A B : HMem} (hN : 300 ≤ N) (hq : 3 + 3 * (6 - d) ≤ q) (hS : SY tb n A B p d c off wn 0) (hT : TN B wn 2) : ∃ A' B', g_X6 N q 4 (iI (d : Int)) A = some A' ∧ ocD A A' ∧ oBD B B' ∧ ((∃ p' c' : Nat, p < p' ∧ c' + p ≤ c + p' ∧ SY tb n A' B' p' d c' off wn 0 ∧ KP (c + off) c wn A A' B B' ∧ SEG (A' 19) (A' 20) (B' 85) off c c' TT 15 ∧ f_X12_readsSum N B = some (1, B')) ∨ (FT A' B' ∧ DD A' ∧ f_X12_readsSum N B = some (0, B'))) := by
  have hd := hS.2.2.2.1
  have hn := hS.2.2.1
  have hp0 := hS.1.2.2.1
  obtain ⟨A', B', g1, g2, g3, g4⟩ := PS_all (tb := tb) (n := n) (base := wn) hN (6 - d) d (by omega) q N N p c off wn A B hq (by omega) (by omega) hS (Nat.le_refl _) hT
  have eR : f_X12_readsSum N B = FLx N wn N N B := by
    have h19 : B 74 19 = iI (wn : Int) := hS.2.2.2.2.2.2.2.1
    rw [f_X12_readsSum, f_X12_readsFactor, h19]; rfl
  rcases g4 with ⟨K', p', c', ql, r1, r2, r3, r4, r5, r6, r7, r8, r9, r10, r11, r12⟩ | ⟨r1, r2, r3⟩
  · obtain ⟨hA2, hB2, -, -, i17, i18, i6, i19, ic, iw⟩ := id r6
    have hz2 := sgn_rg hA2
    have hp2 := hA2.2.2.1
    obtain ⟨K', rfl⟩ : ∃ q', K' = q' + 1 := ⟨K' - 1, by omega⟩
    have eO : f_X12_hasOpenSum N (iI (wn : Int)) B' = some 0 := open_0 i19 (by omega) N wn (by omega) (by omega) (r7.all (fun o h => (r5 o h).2))
    have eS := sumSign_no hz2.1 hz2.2 r11
    obtain ⟨B2, u1, u2, u3, u4, u5, u6⟩ := flush_L (N := N) (v1 := 1) (lo := 2) (Or.inr ⟨rfl, rfl⟩) ql N c' B' r5 i18 i19 r7 (hT.cg (fun i hi => r8.2.2 i hi)) (by omega) (by omega) (by omega)
    have eJ : f_X12_readsSum_J138 N (iI (wn : Int)) B' = some (1, B2) := by
      rw [f_X12_readsSum_J138, eO, hb1_some, if_pos rfl, f_X12_closesSums, u1, hb1_some]
    have eL : f_X12_readsSum_L14 N (iI (wn : Int)) (K' + 1) B' = some (1, B2) := by
      rw [f_X12_readsSum_L14, here_ok hB2, hb1_some, eS, if_pos rfl, hb1_some, eO, hb1_some, if_pos rfl, eJ, ite_self]
    refine ⟨A', B2, g1, g2, g3.trans ⟨fun i a b _ => u5 i a b, fun j _ _ _ _ a b => u6 j a b⟩, Or.inl ⟨p', c' + ql.length, r1, r3, ⟨hA2, hB2.cg (u5 84 (by decide) (by decide)) (u6 13 (by decide) (by decide)) (u6 14 (by decide) (by decide)), hn, hd, by rw [u6 17 (by decide) (by decide)]; exact i17, u2, i6, u3, ic, by omega⟩, ⟨r8.1, fun i hi => ?_, fun i hi => ?_⟩, ?_, ?_⟩⟩
    · rw [u4, VC_lt _ _ _ _ (by omega)]; exact r8.2.1 i hi
    · rw [u5 86 (by decide) (by decide)]; exact r8.2.2 i hi
    · rw [u4]; exact r10.up (by omega)
    · rw [eR, r12, eL]
  · exact ⟨A', B', g1, g2, g3, Or.inr ⟨r1, r2, by rw [eR, r3]⟩⟩

/-! sums: terms, and sums of them -/
theorem VC_app : ∀ (l : List Nat) (rc : Nat → Int32) (c o : Nat), VC rc c (l ++ [o]) = upd (VC rc c l) (c + l.length) (iI ((1048576 * o + 0 : Nat) : Int))
  | [], _, _, _ => rfl
  | m :: r, rc, c, o => by
    rw [List.cons_append, VC, VC_app r _ (c + 1) o, VC, List.length_cons, show c + 1 + r.length = c + (r.length + 1) by omega]
theorem PDr_app {B : HMem} {wn o : Nat} (h0 : B 86 wn = iI ((1048576 * o + 0 : Nat) : Int)) : ∀ {l : List Nat}, PDr B (wn + 1) l → PDr B wn (l ++ [o])
  | [], _ => ⟨h0, trivial⟩
  | m :: r, h => by
    refine ⟨?_, PDr_app h0 h.2⟩
    have := h.1
    show B 86 (wn + (r ++ [o]).length) = _
    rw [List.length_append, List.length_singleton, show wn + (r.length + 1) = wn + 1 + r.length by omega]
    exact this
theorem termSign_ok {tb : Nat → Nat} {A : HMem} {n p : Nat} (h : CP tb A n p) : o_ts A = some (if sgn tb n p = 42 ∨ sgn tb n p = 47 ∨ sgn tb n p = 37 then 1 else 0) := by
  rw [o_ts, show f_X10_isAt 42 A = _ from isAt_ok (c := 42) h (by omega) (by omega), show f_X10_isAt 47 A = _ from isAt_ok (c := 47) h (by omega) (by omega), show f_X10_isAt 37 A = _ from isAt_ok (c := 37) h (by omega) (by omega), hb1_some, hb1_some, hb1_some]
  by_cases a : sgn tb n p = 42
  · rw [if_pos a, if_neg i10, if_pos (Or.inl a)]
  · rw [if_neg a, if_pos rfl]
    by_cases b : sgn tb n p = 47
    · rw [if_pos b, if_neg i10, if_pos (Or.inr (Or.inl b))]
    · rw [if_neg b, if_pos rfl]
      by_cases c : sgn tb n p = 37
      · rw [if_pos c, if_neg i10, if_pos (Or.inr (Or.inr c))]
      · rw [if_neg c, if_pos rfl, if_neg (by omega)]
theorem sumSign_op {o : Nat} (h1 : 2 ≤ o) (h2 : o ≤ 6) : f_X12_sumSign (iI (opS o)) = iI (o : Int) := by
  rcases (show o = 2 ∨ o = 3 ∨ o = 4 ∨ o = 5 ∨ o = 6 by omega) with rfl | rfl | rfl | rfl | rfl <;> decide
theorem opS_rg {o : Nat} (h1 : 2 ≤ o) (h2 : o ≤ 6) : 37 ≤ opS o ∧ opS o ≤ 47 := by
  rcases (show o = 2 ∨ o = 3 ∨ o = 4 ∨ o = 5 ∨ o = 6 by omega) with rfl | rfl | rfl | rfl | rfl <;> decide
theorem term_dead {N k : Nat} (cb : Nat → Int32 → HMem → Option HMem) (a v : Int32) {A : HMem} (h : ¬ A 1 4 = 0) : f_X6_readTerm_L7 N cb a (k + 1) v A = some A := by
  rw [rT_eq, o_ts, show f_X10_isAt 42 A = some 0 from isAt_dead (c := 42) h (by omega) (by omega), hb1_some, if_pos rfl, show f_X10_isAt 47 A = some 0 from isAt_dead (c := 47) h (by omega) (by omega), hb1_some, if_pos rfl, show f_X10_isAt 37 A = some 0 from isAt_dead (c := 37) h (by omega) (by omega), hb1_some, if_pos rfl, hb1_some, if_pos rfl, ite_self]
theorem sum_dead {N k : Nat} (cb : Nat → Int32 → HMem → Option HMem) (a v : Int32) {A : HMem} (h : ¬ A 1 4 = 0) : f_X6_readSum_L7 N cb a (k + 1) v A = some A := by
  rw [rS_eq, show f_X10_isAt 43 A = some 0 from isAt_dead (c := 43) h (by omega) (by omega), hb1_some, if_pos rfl, show f_X10_isAt 45 A = some 0 from isAt_dead (c := 45) h (by omega) (by omega), hb1_some, if_pos rfl, ite_self]
/-- the reference takes an operation: what waits is written, it waits -/
theorem take_op {tb : Nat → Nat} {N n base K p d c off wn lo o : Nat} {v1 : Int32} {ql : List Nat} {A B : HMem} (hN : 300 ≤ N) (hv : (v1 = 0 ∧ lo = 4 ∧ 4 ≤ o) ∨ (v1 = 1 ∧ lo = 2 ∧ o < 4)) (o1 : 2 ≤ o) (o2 : o ≤ 6) (hS : SY tb n A B p d c off wn ql.length) (hl : ql.length ≤ 2) (hq : ∀ o, o ∈ ql → lo ≤ o ∧ o ≤ 6) (hP : PDr B wn ql) (hT : TN B wn lo) (hz : sgn tb n p = opS o) : ∃ B2, f_X12_readsSum_L14 N (iI (base : Int)) (K + 1) B = FLx N base N K B2 ∧ SY tb n (f_X10_pass A) B2 (p + 1) d (c + ql.length) off (wn + 1) 0 ∧ oBD B B2 ∧ B2 85 = VC (B 85) c ql ∧ B2 86 = upd (B 86) wn (iI ((1048576 * o + 0 : Nat) : Int)) := by
  obtain ⟨hA, hB, hn, hd, h17, h18, h6, h19, hc, hw⟩ := hS
  have rg := opS_rg o1 o2
  have hpn : p < n := sgn_in (tb := tb) (by omega)
  obtain ⟨a1, a2⟩ := pass_ok hA hpn
  obtain ⟨B1, u1, u2, u3, u4, u5, u6⟩ := flush_L (N := N) (v1 := v1) (lo := lo) (by rcases hv with ⟨a, b, _⟩ | ⟨a, b, _⟩; exact Or.inl ⟨a, b⟩; exact Or.inr ⟨a, b⟩) ql N c B hq h18 h19 hP hT (by omega) (by omega) (by omega)
  obtain ⟨B2, hB2⟩ : ∃ B2, B2 = hset (hset (hset B1 86 wn (iI ((1048576 * o + 0 : Nat) : Int))) 74 19 (iI ((wn + 1 : Nat) : Int))) 74 13 (iI ((p + 1 : Nat) : Int)) := ⟨_, rfl⟩
  have eu : (1048576 : Int32) * iI (o : Int) = iI ((1048576 * o + 0 : Nat) : Int) := by
    rw [show (1048576 : Int32) = iI 1048576 from rfl, iI_mul]; congr 1
  have i13 : B1 74 13 = iI (p : Int) := by rw [u6 13 (by decide) (by decide)]; exact hB.2.2.2.2
  have eJ : f_X12_readsSum_J38 N (f_X12_readsSum_L14 N (iI (base : Int)) K) (iI (base : Int)) (iI (o : Int)) v1 B = FLx N base N K B2 := by
    have e1 : hset B1 86 wn (iI ((1048576 * o + 0 : Nat) : Int)) 74 19 = iI (wn : Int) := by rw [hset_nek _ _ _ (by decide)]; exact u3
    have e2 : hset (hset B1 86 wn (iI ((1048576 * o + 0 : Nat) : Int))) 74 19 (iI ((wn + 1 : Nat) : Int)) 74 13 = iI (p : Int) := by rw [hset_nej _ _ (by decide), hset_nek _ _ _ (by decide)]; exact i13
    rw [f_X12_readsSum_J38, f_X12_closesSums, u1, hb1_some, u3, hib_t (n := 260) (by omega) (by omega) (by omega), if_pos rfl, hb1_some, iI_natc (k := wn) (by omega), eu, e1, iI_s, e2, iI_s, hb1_some, ← hB2]
    rfl
  have no : ¬ iI (o : Int) = -1 := by rw [qm1]; exact ne_i (by omega) (by omega) (by omega) (by omega) (by omega)
  have k74 : ∀ j, j ≠ 13 → j ≠ 18 → j ≠ 19 → B2 74 j = B 74 j := fun j a b e => by rw [hB2, hset_nej _ _ a, hset_nej _ _ e, hset_nek _ _ _ (by decide), u6 j b e]
  have kk : ∀ i, i ≠ 74 → i ≠ 85 → i ≠ 86 → B2 i = B i := fun i a b e => by rw [hB2, hset_nek _ _ _ a, hset_nek _ _ _ a, hset_nek _ _ _ e, u5 i a b]
  refine ⟨B2, ?_, ⟨a2, ⟨fun j hj => by rw [kk 84 (by decide) (by decide) (by decide)]; exact hB.1 j hj, hB.2.1, by omega, by rw [k74 14 (by decide) (by decide) (by decide)]; exact hB.2.2.2.1, by rw [hB2, hset_self]⟩, hn, hd, by rw [k74 17 (by decide) (by decide) (by decide)]; exact h17, ?_, by rw [a1, hset_nek _ _ _ (by decide)]; exact h6, by rw [hB2, hset_nej _ _ (by decide), hset_self], by omega, by omega⟩, ⟨kk, fun j a _ _ _ b e => k74 j a b e⟩, ?_, ?_⟩
  · rw [f_X12_readsSum_L14, here_ok hB, hb1_some, hz, sumSign_op o1 o2, if_neg no]
    rcases hv with ⟨rfl, _, b⟩ | ⟨rfl, _, b⟩
    · have x : (4 : Int32) ≤ iI (o : Int) := le_i (a := 4) (by omega) (by omega) (by omega)
      rw [if_pos x]; exact eJ
    · have x : ¬ (4 : Int32) ≤ iI (o : Int) := nl_i (a := 4) (by omega) (by omega) (by omega)
      rw [if_neg x]; exact eJ
  · rw [hB2, hset_nej _ _ (by decide), hset_nej _ _ (by decide), hset_nek _ _ _ (by decide), u2]
  · rw [hB2, hset_nek _ _ _ (by decide), hset_nek _ _ _ (by decide), hset_nek _ _ _ (by decide), u4]
  · rw [hB2, hset_nek _ _ _ (by decide), hset_nek _ _ _ (by decide), hset, hput_self, u5 86 (by decide) (by decide)]
theorem TN.mono {B : HMem} {wn : Nat} (h : TN B wn 2) : TN B wn 4 := by
  rcases h with h | ⟨o, v, h1, h2, h3, h4⟩
  · exact Or.inl h
  · exact Or.inr ⟨o, v, h1, h2, h3, by omega⟩
theorem opS_of {z : Int} (h : ¬ nterm z) : ∃ o, 4 ≤ o ∧ o ≤ 6 ∧ z = opS o := by
  unfold nterm at h
  by_cases a : z = 42
  · exact ⟨4, by omega, by omega, a⟩
  · by_cases b : z = 47
    · exact ⟨5, by omega, by omega, b⟩
    · by_cases c : z = 37
      · exact ⟨6, by omega, by omega, c⟩
      · exact absurd ⟨a, b, c⟩ h
theorem term_L {tb : Nat → Nat} {N n base d q c0 off wn : Nat} (hN : 300 ≤ N) (hF : PF tb N n base d) (hq : 1 + 3 * (6 - d) ≤ q) (hb : base ≤ wn) : ∀ (k v p c K : Nat) (ql : List Nat) (A B : HMem), n < k + p → v < p → n < K + p → ql.length ≤ 1 → (∀ o, o ∈ ql → 4 ≤ o ∧ o ≤ 6) → SY tb n A B p d c off wn ql.length → PDr B wn ql → TN B wn 4 → c0 ≤ c → SEG (A 19) (A 20) (VC (B 85) c ql) off c0 (c + ql.length) TT (14 - 2 * d) → ∃ A' B', f_X6_readTerm_L7 N (g_X6 N q) (iI (d : Int)) k (iI (v : Int)) A = some A' ∧ ocD A A' ∧ oBD B B' ∧ ((∃ (K' p' c' : Nat) (ql' : List Nat), p ≤ p' ∧ n < K' + p' ∧ c' + ql'.length + p ≤ c + ql.length + p' ∧ ql'.length ≤ 1 ∧ (∀ o, o ∈ ql' → 4 ≤ o ∧ o ≤ 6) ∧ SY tb n A' B' p' d c' off wn ql'.length ∧ PDr B' wn ql' ∧ KP (c0 + off) c0 wn A A' B B' ∧ c0 ≤ c' ∧ SEG (A' 19) (A' 20) (VC (B' 85) c' ql') off c0 (c' + ql'.length) TT (14 - 2 * d) ∧ nterm (sgn tb n p') ∧ f_X12_readsSum_L14 N (iI (base : Int)) K B = f_X12_readsSum_L14 N (iI (base : Int)) K' B') ∨ (FT A' B' ∧ DD A' ∧ f_X12_readsSum_L14 N (iI (base : Int)) K B = some (0, B'))) := by
  intro k
  induction k with
  | zero => intro v p c K ql A B h1 h2 h3 h4 h5 h6; have := h6.1.2.2.1; omega
  | succ k ih =>
    intro v p c K ql A B hk hv hK hl hql hS hP hT hc0 hSeg
    obtain ⟨hA, hB, hn, hd, h17, h18, h6, h19, hc, hw⟩ := id hS
    have hp := hA.2.2.1
    have x1 : ¬ (240 : Int32) ≤ iI (v : Int) := nl_i (a := 240) (by omega) (by omega) (by omega)
    rw [rT_eq, if_neg x1, termSign_ok hA, hb1_some]
    by_cases hz : nterm (sgn tb n p)
    · have y : ¬ (sgn tb n p = 42 ∨ sgn tb n p = 47 ∨ sgn tb n p = 37) := by have := hz.1; have := hz.2.1; have := hz.2.2; omega
      rw [if_neg y, if_pos rfl]
      exact ⟨A, B, rfl, ocD_rf _, oBD_rf _, Or.inl ⟨K, p, c, ql, by omega, hK, by omega, hl, hql, hS, hP, KP_of rfl rfl rfl rfl, hc0, hSeg, hz, rfl⟩⟩
    · obtain ⟨o, o1, o2, o3⟩ := opS_of hz
      have rg := opS_rg (o := o) (by omega) o2
      have hpn : p < n := sgn_in (tb := tb) (by omega)
      have y : sgn tb n p = 42 ∨ sgn tb n p = 47 ∨ sgn tb n p = 37 := by
        rcases (show o = 4 ∨ o = 5 ∨ o = 6 by omega) with rfl | rfl | rfl
        · exact Or.inl o3
        · exact Or.inr (Or.inl o3)
        · exact Or.inr (Or.inr o3)
      rw [if_pos y, if_neg i10, sign_ok hA, hb1_some]
      obtain ⟨K, rfl⟩ : ∃ K', K = K' + 1 := ⟨K - 1, by omega⟩
      obtain ⟨B2, t1, t2, t3, t4, t5⟩ := take_op (base := base) (K := K) (N := N) (v1 := 0) (lo := 4) hN (Or.inl ⟨rfl, rfl, o1⟩) (by omega) o2 hS (by omega) hql hP hT o3
      obtain ⟨a1, a2⟩ := pass_ok hA hpn
      have pA : ∀ i, i ≠ 1 → f_X10_pass A i = A i := fun i hi => by rw [a1, hset_nek _ _ _ hi]
      have oA : ocD A (f_X10_pass A) := oc1.D pA
      obtain ⟨A1, B3, g1, g2, g3, g4⟩ := hF q N K (p + 1) (c + ql.length) off (wn + 1) (f_X10_pass A) B2 hq (by omega) (by omega) t2 (by omega)
      rw [g1, hb1_some]
      rcases g4 with ⟨K', p', c', r1, r2, r3, r4, r5, r6, r7⟩ | ⟨r1, r2, r3⟩
      · obtain ⟨hA1, hB3, -, -, j17, j18, j6, j19, jc, jw⟩ := id r4
        have hp' := hA1.2.2.1
        simp only [Nat.add_zero] at j6 j19 jc jw
        obtain ⟨A2, u1, u2, u3, u4, u5, u6⟩ := add_sp (iI (sgn tb n p)) 0 j6 (by omega)
        rw [u1, hb2_some, iI_s]
        have b86 : B3 86 wn = iI ((1048576 * o + 0 : Nat) : Int) := by rw [r5.2.2 wn (by omega), t5, upd_self]
        have KPa : KP (c0 + off) c0 wn A A2 B B3 := by
          refine ⟨fun i hi => ?_, fun i hi => ?_, fun i hi => ?_⟩
          · rw [u2, u3, upd_ne _ _ (by have := r6.1; omega), upd_ne _ _ (by have := r6.1; omega), (r5.1 i (by omega)).1, (r5.1 i (by omega)).2, pA 19 (by decide), pA 20 (by decide)]; exact ⟨rfl, rfl⟩
          · rw [r5.2.1 i (by omega), t4, VC_lt _ _ _ _ (by omega)]
          · rw [r5.2.2 i (by omega), t5, upd_ne _ _ (by omega)]
        have hcc := r6.1
        have sg2 : SEG (A2 19) (A2 20) (VC (B3 85) c' [o]) off c0 (c' + 1) TT (14 - 2 * d) := by
          have e85 : VC (B3 85) c' [o] = upd (B3 85) c' (iI ((1048576 * o + 0 : Nat) : Int)) := rfl
          have s1 : SEG (A2 19) (A2 20) (VC (B3 85) c' [o]) off c0 (c + ql.length) TT (14 - 2 * d) := by
            refine hSeg.cg (fun i i1 i2 => ⟨?_, ?_, ?_⟩)
            · rw [u2, upd_ne _ _ (by omega), (r5.1 _ (by omega)).1, pA 19 (by decide)]
            · rw [u3, upd_ne _ _ (by omega), (r5.1 _ (by omega)).2, pA 20 (by decide)]
            · rw [e85, upd_ne _ _ (by omega), r5.2.1 i (by omega), t4]
          have s2 : SEG (A2 19) (A2 20) (VC (B3 85) c' [o]) off (c + ql.length) c' TT (13 - 2 * d) := by
            refine r6.cg (fun i i1 i2 => ⟨?_, ?_, ?_⟩)
            · rw [u2, upd_ne _ _ (by omega)]
            · rw [u3, upd_ne _ _ (by omega)]
            · rw [e85, upd_ne _ _ (by omega)]
          exact seg_bin (o := o) s1 s2 (by omega) (by omega) (by rw [u2, upd_self, o3]) (by rw [e85, upd_self]) (by omega) (by omega) (by omega) (fun _ _ => trivial)
        have hS2 : SY tb n A2 B3 p' d c' off wn 1 := ⟨hA1.cg (u5 2 (by decide) (by decide) (by decide)) (u5 1 (by decide) (by decide) (by decide)), hB3, hn, hd, j17, j18, by rw [u4]; congr 2; omega, j19, by omega, by omega⟩
        obtain ⟨A', B', m1, m2, m3, m4⟩ := ih (v + 1) p' c' K' [o] A2 B3 (by omega) (by omega) r2 (by simp) (fun o' h' => by rw [List.mem_singleton.mp h']; exact ⟨o1, o2⟩) hS2 ⟨b86, trivial⟩ (hT.cg (fun i hi => KPa.2.2 i hi)) (by omega) sg2
        refine ⟨A', B', m1, (oA.trans g2).trans (ocD.trans ⟨fun i _ a b e => u5 i a b e, u6⟩ m2), (t3.trans g3).trans m3, ?_⟩
        have eL : f_X12_readsSum_L14 N (iI (base : Int)) (K + 1) B = f_X12_readsSum_L14 N (iI (base : Int)) K' B3 := by rw [t1, r7]
        rw [eL]
        rcases m4 with ⟨K2, p2, c2, ql2, w1, w2, w3, w4, w5, w6, w7, w8, w9, w10, w11, w12⟩ | w
        · refine Or.inl ⟨K2, p2, c2, ql2, by omega, w2, ?_, w4, w5, w6, w7, KPa.trans w8 (by omega) (by omega) (by omega), w9, w10, w11, w12⟩
          simp only [List.length_singleton] at w3
          omega
        · exact Or.inr w
      · obtain ⟨r, A2, u1, u2, u3, u4⟩ := add_dd (iI (sgn tb n p)) 0 r2
        have dd : ¬ A2 1 4 = 0 := by rw [u4]; exact r1.dead
        obtain ⟨k, rfl⟩ : ∃ k', k = k' + 1 := ⟨k - 1, by omega⟩
        rw [u1, hb2_some, term_dead _ _ _ dd]
        exact ⟨A2, B3, rfl, (oA.trans g2).trans u3, t3.trans g3, Or.inr ⟨r1.dk (dk_of u4), u2, by rw [t1, r3]⟩⟩
theorem PT_of {tb : Nat → Nat} {N n base d : Nat} (hN : 300 ≤ N) (hF : PF tb N n base d) : PSx tb N n base d 5 4 1 2 (14 - 2 * d) nterm := by
  intro q k K p c off wn A B hq hk hK hS hb hT
  obtain ⟨q, rfl⟩ : ∃ q', q = q' + 1 := ⟨q - 1, by omega⟩
  have eC : g_X6 N (q + 1) 5 (iI (d : Int)) A = f_X6_readTerm N (g_X6 N q) (iI (d : Int)) A := rfl
  obtain ⟨A1, B1, g1, g2, g3, g4⟩ := hF q k K p c off wn A B (by omega) hk hK hS hb
  rw [eC, f_X6_readTerm, g1, hb1_some]
  have hn := hS.2.2.1
  have hp := hS.1.2.2.1
  rcases g4 with ⟨K', p', c', r1, r2, r3, r4, r5, r6, r7⟩ | ⟨r1, r2, r3⟩
  · have hcc := r6.1
    obtain ⟨A', B', m1, m2, m3, m4⟩ := term_L (q := q) (c0 := c) (off := off) (wn := wn) hN hF (by omega) hb N 0 p' c' K' [] A1 B1 (by omega) (by omega) r2 (by simp) (fun o h => absurd h List.not_mem_nil) r4 trivial (hT.cg (fun i hi => r5.2.2 i hi)) hcc (r6.up (by omega))
    refine ⟨A', B', m1, g2.trans m2, g3.trans m3, ?_⟩
    rcases m4 with ⟨K2, p2, c2, ql2, w1, w2, w3, w4, w5, w6, w7, w8, w9, w10, w11, w12⟩ | ⟨w1, w2, w3⟩
    · simp only [List.length_nil, Nat.add_zero] at w3
      exact Or.inl ⟨K2, p2, c2, ql2, by omega, w2, by omega, w4, w5, w6, w7, r5.trans w8 (by omega) (by omega) (by omega), w9, w10, w11, by rw [r7, w12]⟩
    · exact Or.inr ⟨w1, w2, by rw [r7, w3]⟩
  · obtain ⟨k', hk'⟩ : ∃ k', N = k' + 1 := ⟨N - 1, by omega⟩
    have : f_X6_readTerm_L7 N (g_X6 N q) (iI (d : Int)) N 0 A1 = some A1 := by
      conv => lhs; arg 4; rw [hk']
      exact term_dead _ _ _ r1.dead
    exact ⟨A1, B1, this, g2, g3, Or.inr ⟨r1, r2, r3⟩⟩

/-! conditions: pieces joined by & or by | -/
def PJof (o : Nat) : List Nat → List (Nat × Nat)
  | [] => []
  | m :: _ => [(o, m)]
def RFT (rc : Nat → Int32) (o : Nat) : List Nat → Prop
  | [] => True
  | m :: r => RFN rc o r m
theorem RFN.cg {rc rc' : Nat → Int32} {o : Nat} : ∀ {js : List Nat} {nx : Nat}, RFN rc o js nx → (∀ m, m ∈ js → rc' m = rc m) → RFN rc' o js nx
  | [], _, _, _ => trivial
  | m :: r, nx, h, e => ⟨by rw [e m List.mem_cons_self]; exact h.1, RFN.cg h.2 (fun x hx => e x (List.mem_cons_of_mem _ hx))⟩
theorem LJ_app : ∀ (l1 l2 : List (Nat × Nat)) (rc : Nat → Int32) (T : Nat), LJ rc T (l1 ++ l2) = LJ (LJ rc T l1) T l2
  | [], _, _, _ => rfl
  | x :: r, l2, rc, T => by rw [List.cons_append, LJ, LJ_app r l2, LJ]
def paOK (Z : Prop) (pa : List (Nat × Nat)) (lo hi : Nat) : Prop := pa = [] ∨ ∃ m, lo ≤ m ∧ m < hi ∧ pa = [(11, m)] ∧ Z
/-- a piece: tag 2 a test, tag 1 what & joins -/
def QI (tb : Nat → Nat) (N n d tag lv top : Nat) (Z : Prop) (E : Int → Prop) : Prop := ∀ (q k p c off wn : Nat) (A B : HMem), lv + 3 * (6 - d) ≤ q → n < k + p → SY tb n A B p d c off wn 0 → TO B wn (fun o => top ≤ o) → ∃ A' B', g_X6 N q tag (iI (d : Int)) A = some A' ∧ ocD A A' ∧ oBD B B' ∧ ((∃ (kk k' p' c' : Nat) (pa : List (Nat × Nat)), p < p' ∧ n < kk + p' ∧ n < k' + p' ∧ c' + p ≤ c + p' ∧ paOK Z pa c c' ∧ SY tb n A' B' p' d c' off (wn + pa.length) 0 ∧ PJ B' wn pa ∧ KP (c + off) c wn A A' B B' ∧ SEG (A' 19) (A' 20) (LJ (B' 85) c' pa) off c c' BB 16 ∧ E (sgn tb n p') ∧ f_X12_readsCondition_L40 N k B = DX N kk k' B') ∨ (FT A' B' ∧ DD A' ∧ f_X12_readsCondition_L40 N k B = some (0, B')))
def gL9 (n : Nat) (s a : Int32) (t : Nat) (cb : Nat → Int32 → HMem → Option HMem) (v1 : Int32) : Nat → Int32 → Int32 → HMem → Option HMem
  | 0, _, _, _ => none
  | k + 1, v2, v3, M =>
    if 240 ≤ v3 then hb1 (f_X5_settle n 15 v2 M) (fun M101 => some M101)
    else hb1 (f_X10_isAt s M) (fun x102 =>
      if x102 = 0 then hb1 (f_X5_settle n 15 v2 M) (fun M103 => some M103)
      else hb2 (f_X5_add 15 a v2 (f_X10_pass M)) (fun x104 M105 => hb1 (cb t v1 M105) (fun M106 => gL9 n s a t cb v1 k x104 (v3 + 1) M106)))
theorem part_g {n : Nat} (cb : Nat → Int32 → HMem → Option HMem) (v1 : Int32) : ∀ k, f_X6_readPart_L9 n cb v1 k = gL9 n 38 4 2 cb v1 k
  | 0 => rfl
  | k + 1 => by funext v2 v3 M; rw [f_X6_readPart_L9, gL9, part_g cb v1 k]
theorem choice_g {n : Nat} (cb : Nat → Int32 → HMem → Option HMem) (v1 : Int32) : ∀ k, f_X6_readChoice_L9 n cb v1 k = gL9 n 124 5 1 cb v1 k
  | 0 => rfl
  | k + 1 => by funext v2 v3 M; rw [f_X6_readChoice_L9, gL9, choice_g cb v1 k]
theorem g_dead {N k t : Nat} {s : Int} (hN : 300 ≤ N) (cb : Nat → Int32 → HMem → Option HMem) (b a j v : Int32) {A : HMem} (s0 : 0 ≤ s) (s1 : s < 256) (h : ¬ A 1 4 = 0) (hd : DD A) : ∃ A', gL9 N (iI s) b t cb a (k + 1) j v A = some A' ∧ dk A A' ∧ ocD A A' ∧ DD A' := by
  obtain ⟨A', g1, g2⟩ := settle_dd (N := N) hN j A
  obtain ⟨o1, o2, o3⟩ := ocD_20 g2
  refine ⟨A', ?_, o2, o1, o3 hd⟩
  rw [gL9, isAt_dead h s0 (by omega), hb1_some, if_pos rfl, g1, hb1_some, ite_self]
def sO (o : Nat) : Int := if o = 11 then 38 else 124
theorem jumps_sp {B : HMem} {c wn p o : Nat} (h18 : B 74 18 = iI (c : Int)) (h19 : B 74 19 = iI (wn : Int)) (h13 : B 74 13 = iI (p : Int)) (hc : c < 260) (hw : wn < 260) : ∃ B2, f_X12_jumps (iI (o : Int)) B = some B2 ∧ B2 85 = upd (B 85) c (iI ((1048576 * o + 0 : Nat) : Int)) ∧ B2 86 = upd (B 86) wn (iI ((1048576 * o + c : Nat) : Int)) ∧ B2 74 18 = iI ((c + 1 : Nat) : Int) ∧ B2 74 19 = iI ((wn + 1 : Nat) : Int) ∧ B2 74 13 = iI ((p + 1 : Nat) : Int) ∧ (∀ i, i ≠ 74 → i ≠ 85 → i ≠ 86 → B2 i = B i) ∧ ∀ j, j ≠ 13 → j ≠ 18 → j ≠ 19 → B2 74 j = B 74 j := by
  have eu : (1048576 : Int32) * iI (o : Int) + iI (c : Int) = iI ((1048576 * o + c : Nat) : Int) := by
    rw [show (1048576 : Int32) = iI 1048576 from rfl, iI_mul, iI_add]; congr 1
  obtain ⟨B1, hB1⟩ : ∃ B1, B1 = hset (hset B 86 wn (iI ((1048576 * o + c : Nat) : Int))) 74 19 (iI ((wn + 1 : Nat) : Int)) := ⟨_, rfl⟩
  have e19 : hset B 86 wn (iI ((1048576 * o + c : Nat) : Int)) 74 19 = iI (wn : Int) := by rw [hset_nek _ _ _ (by decide)]; exact h19
  have e18 : B1 74 18 = iI (c : Int) := by rw [hB1, hset_nej _ _ (by decide), hset_nek _ _ _ (by decide)]; exact h18
  obtain ⟨B3, v1, v2, v3, v4, v5⟩ := notes_sp o 0 e18 hc
  have e13 : B3 74 13 = iI (p : Int) := by rw [v5 13 (by decide), hB1, hset_nej _ _ (by decide), hset_nek _ _ _ (by decide)]; exact h13
  refine ⟨hset B3 74 13 (iI ((p + 1 : Nat) : Int)), ?_, ?_, ?_, ?_, ?_, hset_self _ _ _ _, fun i a b e => ?_, fun j a b e => ?_⟩
  · rw [f_X12_jumps, h19, hib_t (n := 260) (by omega) (by omega) (by omega), if_pos rfl, h18, eu, hb1_some, iI_natc (k := wn) (by omega), e19, iI_s, ← hB1, show f_X12_notes (iI (o : Int)) 0 B1 = some B3 from v1, hb1_some, e13, iI_s]
  · rw [hset_nek _ _ _ (by decide), v2, hB1, hset_nek _ _ _ (by decide), hset_nek _ _ _ (by decide)]
  · rw [hset_nek _ _ _ (by decide), v4 86 (by decide) (by decide), hB1, hset_nek _ _ _ (by decide), hset, hput_self]
  · rw [hset_nej _ _ (by decide)]; exact v3
  · rw [hset_nej _ _ (by decide), v5 19 (by decide), hB1, hset_self]
  · rw [hset_nek _ _ _ a, v4 i a b, hB1, hset_nek _ _ _ a, hset_nek _ _ _ e]
  · rw [hset_nej _ _ a, v5 j b, hB1, hset_nej _ _ e, hset_nek _ _ _ (by decide)]
theorem pj_len (o : Nat) (js : List Nat) : (PJof o js).length ≤ 1 := by
  cases js with
  | nil => exact Nat.zero_le _
  | cons m r => exact Nat.le_refl _
theorem pa_len {Z : Prop} {pa : List (Nat × Nat)} {lo hi : Nat} (h : paOK Z pa lo hi) : pa.length ≤ 1 := by
  rcases h with rfl | ⟨m, _, _, rfl, _⟩
  · exact Nat.zero_le _
  · exact Nat.le_refl _
theorem pa_mem {Z : Prop} {pa : List (Nat × Nat)} {lo hi : Nat} (h : paOK Z pa lo hi) : ∀ x, x ∈ pa → x.1 = 11 ∧ lo ≤ x.2 ∧ x.2 < hi := by
  intro x hx
  rcases h with rfl | ⟨m, m1, m2, rfl, _⟩
  · exact absurd hx List.not_mem_nil
  · rw [List.mem_singleton.mp hx]; exact ⟨rfl, m1, m2⟩
theorem pj_mem {o : Nat} {js : List Nat} : ∀ x, x ∈ PJof o js → x.1 = o ∧ x.2 ∈ js := by
  intro x hx
  cases js with
  | nil => exact absurd hx List.not_mem_nil
  | cons m r => rw [List.mem_singleton.mp hx]; exact ⟨rfl, List.mem_cons_self⟩
theorem sO_rg {o : Nat} (ho : o = 11 ∨ o = 12) : 38 ≤ sO o ∧ sO o ≤ 124 := by
  rcases ho with rfl | rfl <;> decide
theorem chain_L {tb : Nat → Nat} {N n d q s0 off wn tag lv o : Nat} {Z : Prop} {E : Int → Prop} (hN : 300 ≤ N) (ho : o = 11 ∨ o = 12) (hZ : Z → o = 12) (hQ : QI tb N n d tag lv o Z E) (hq : lv + 3 * (6 - d) ≤ q) : ∀ (k v p c K kk : Nat) (js : List Nat) (pa : List (Nat × Nat)) (j : Int32) (lo : Nat) (A B : HMem), n < k + p → v < p → js.length ≤ v → n < K + p → n < kk + p → SY tb n A B p d c off (wn + (pa ++ PJof o js).length) 0 → PJ B wn (pa ++ PJof o js) → paOK Z pa lo c → s0 ≤ lo → (∀ x, x ∈ js → x < lo) → PRE (A 19) (A 20) (LJ (B 85) c pa) off s0 js c → CHC (A 19) (A 20) off (iI ((o - 7 : Nat) : Int)) js j → RFT (B 85) o js → TO B wn (fun x => x ≠ 11 ∧ (o = 12 → x ≠ 12)) → E (sgn tb n p) → ∃ A' B', gL9 N (iI (sO o)) (iI ((o - 7 : Nat) : Int)) tag (g_X6 N q) (iI (d : Int)) k j (iI (v : Int)) A = some A' ∧ ocD A A' ∧ oBD B B' ∧ ((∃ (kk' K' p' c' : Nat) (pa' : List (Nat × Nat)) (js' : List Nat), p ≤ p' ∧ n < kk' + p' ∧ n < K' + p' ∧ c' + p ≤ c + p' ∧ paOK Z pa' s0 c' ∧ (∀ x, x ∈ js' → s0 ≤ x ∧ x < c') ∧ SY tb n A' B' p' d c' off (wn + (pa' ++ PJof o js').length) 0 ∧ PJ B' wn (pa' ++ PJof o js') ∧ KP (s0 + off) s0 wn A A' B B' ∧ SEG (A' 19) (A' 20) (LJ (B' 85) c' (pa' ++ PJof o js')) off s0 c' BB 16 ∧ E (sgn tb n p') ∧ sgn tb n p' ≠ sO o ∧ DX N kk K B = DX N kk' K' B') ∨ (FT A' B' ∧ DD A' ∧ DX N kk K B = some (0, B'))) := by
  intro k
  induction k with
  | zero => intro v p c K kk js pa j lo A B h1 h2 h3 h4 h5 h6; have := h6.1.2.2.1; omega
  | succ k ih =>
    intro v p c K kk js pa j lo A B hk hv hjv hK hkk hS hPJ hpa hlo hjs hPRE hCHC hRFT hT hE
    obtain ⟨hA, hB, hn, hd, h17, h18, h6, h19, hc, hw⟩ := id hS
    simp only [Nat.add_zero] at h6 h19 hc hw
    have hp := hA.2.2.1
    have hz := sgn_rg hA
    have rg := sO_rg ho
    have hpl := pre_le hPRE
    have l1 := pa_len hpa
    have l2 := pj_len o js
    have lA : (pa ++ PJof o js).length = pa.length + (PJof o js).length := List.length_append
    have x1 : ¬ (240 : Int32) ≤ iI (v : Int) := nl_i (a := 240) (by omega) (by omega) (by omega)
    have pjm : ∀ x, x ∈ pa ++ PJof o js → s0 ≤ x.2 ∧ x.2 < c := fun x hx => by
      rcases List.mem_append.mp hx with h | h
      · have := pa_mem hpa x h; omega
      · exact hpl.2 _ (pj_mem x h).2
    rw [gL9, if_neg x1, isAt_ok hA (by omega) (by omega), hb1_some]
    by_cases hs : sgn tb n p = sO o
    · have hpn : p < n := sgn_in (tb := tb) (by omega)
      rw [if_pos hs, if_neg i10]
      obtain ⟨kk, rfl⟩ : ∃ q', kk = q' + 1 := ⟨kk - 1, by omega⟩
      -- the reference lands what waits
      obtain ⟨vl, hvl, hvl2⟩ : ∃ vl : Int32, (vl = 0 ∨ vl = 1) ∧ (vl = 1 ↔ o = 12) := by
        rcases ho with rfl | rfl
        · exact ⟨0, Or.inl rfl, by decide⟩
        · exact ⟨1, Or.inr rfl, by decide⟩
      obtain ⟨B1, u1, u2, u3, u4, u5⟩ := lands_L (N := N) (wn := wn) (c := c) (v1 := vl) hvl (by omega) (by omega) (pa ++ PJof o js) N B (fun x hx => by
        rcases List.mem_append.mp hx with h | h
        · exact Or.inl (pa_mem hpa x h).1
        · have := (pj_mem x h).1
          rcases ho with rfl | rfl
          · exact Or.inl this
          · exact Or.inr ⟨this, hvl2.mpr rfl⟩) h18 h19 hPJ (hT.mono (fun x hx => ⟨hx.1, fun e => hx.2 (hvl2.mp e)⟩)) (by omega) (by omega)
      have hB1 : RP tb B1 n p := hB.cg (u4 84 (by decide) (by decide)) (u5 13 (by decide)) (u5 14 (by decide))
      obtain ⟨B2, w1, w2, w3, w4, w5, w6, w7, w8⟩ := jumps_sp (o := o) (show B1 74 18 = iI (c : Int) by rw [u5 18 (by decide)]; exact h18) u2 hB1.2.2.2.2 (by omega) (by omega)
      have eD : DX N (kk + 1) K B = f_X12_readsCondition_L40 N K B2 := by
        have jj : f_X12_readsCondition_J195 N (f_X12_readsCondition_L40 N K) vl B = f_X12_readsCondition_L40 N K B2 := by
          rw [f_X12_readsCondition_J195, f_X12_lands, u1, hb1_some, here_ok hB1, hb1_some, hs]
          rcases ho with rfl | rfl
          · rw [if_pos (by decide), show f_X12_jumps 11 B1 = some B2 from w1, hb1_some]
          · rw [if_neg (by decide), show f_X12_jumps 12 B1 = some B2 from w1, hb1_some]
        rw [DX, f_X12_readsCondition_L92, here_ok hB, hb1_some, hb1_some, hb1_some, hb1_some, hs]
        rcases ho with rfl | rfl
        · have : vl = 0 := by rcases hvl with h | h; exact h; exact absurd (hvl2.mp h) (by decide)
          subst this
          rw [if_neg (by decide), if_pos (by decide), if_neg (by decide)]; exact jj
        · have : vl = 1 := hvl2.mpr rfl
          subst this
          rw [if_neg (by decide), if_neg (by decide), if_pos (by decide), if_pos (by decide)]; exact jj
      -- the class adds its jump
      obtain ⟨a1, a2⟩ := pass_ok hA hpn
      have pA : ∀ i, i ≠ 1 → f_X10_pass A i = A i := fun i hi => by rw [a1, hset_nek _ _ _ hi]
      obtain ⟨A2, t1, t2, t3, t4, t5, t6⟩ := add_sp (iI ((o - 7 : Nat) : Int)) j (show f_X10_pass A 15 6 = iI ((c + off : Nat) : Int) by rw [pA 15 (by decide)]; exact h6) (by omega)
      rw [pA 19 (by decide)] at t2
      rw [pA 20 (by decide)] at t3
      rw [t1, hb2_some]
      have hS2 : SY tb n A2 B2 (p + 1) d (c + 1) off (wn + 1) 0 := ⟨a2.cg (t5 2 (by decide) (by decide) (by decide)) (t5 1 (by decide) (by decide) (by decide)), ⟨fun i hi => by rw [w7 84 (by decide) (by decide) (by decide)]; exact hB1.1 i hi, hB.2.1, by omega, by rw [w8 14 (by decide) (by decide) (by decide)]; exact hB1.2.2.2.1, w6⟩, hn, hd, by rw [w8 17 (by decide) (by decide) (by decide), u5 17 (by decide)]; exact h17, w4, by rw [t4]; congr 2; omega, w5, by omega, by omega⟩
      have e86 : B2 86 wn = iI ((1048576 * o + c : Nat) : Int) := by rw [w3, upd_self]
      obtain ⟨A3, B3, g1, g2, g3, g4⟩ := hQ q K (p + 1) (c + 1) off (wn + 1) A2 B2 hq (by omega) hS2 (TO_push (o := o) (v := c) (by omega) (by omega) e86 (Nat.le_refl _))
      rw [g1, hb1_some, iI_s]
      have oA : ocD A A3 := ((oc1.D pA).trans ⟨fun i _ a b e => t5 i a b e, t6⟩).trans g2
      have oBB : oBD B B3 := (oBD.trans ⟨fun i a b _ => u4 i a b, fun i _ _ _ _ _ a => u5 i a⟩ ⟨w7, fun i a _ _ _ b e => w8 i a b e⟩).trans g3
      rcases g4 with ⟨kk', K', p', c', pa', r1, r2, r3, r4, r5, r6, r7, r8, r9, r10, r11⟩ | ⟨r1, r2, r3⟩
      · have hcc := r9.1
        have hp3 := r6.1.2.2.1
        have pam' := pa_mem r5
        have rc3 : ∀ i, i < c → B3 85 i = LJ (B 85) c (pa ++ PJof o js) i := fun i hi => by rw [r8.2.1 i (by omega), w2, upd_ne _ _ (by omega), u3]
        have rcc : B3 85 c = iI ((1048576 * o + 0 : Nat) : Int) := by rw [r8.2.1 c (by omega), w2, upd_self]
        have LJ3 : ∀ i, i ≤ c → LJ (B3 85) c' pa' i = B3 85 i := fun i hi => LJ_ne _ _ _ _ (fun x hx => by have := pam' x hx; omega)
        have c19 : ∀ i, i < c + off → A3 19 i = A 19 i ∧ A3 20 i = A 20 i := fun i hi => by
          rw [(r8.1 i (by omega)).1, (r8.1 i (by omega)).2, t2, t3, upd_ne _ _ (by omega), upd_ne _ _ (by omega)]; exact ⟨rfl, rfl⟩
        have b86 : ∀ i, i < wn → B3 86 i = B 86 i := fun i hi => by rw [r8.2.2 i (by omega), w3, upd_ne _ _ (by omega), u4 86 (by decide) (by decide)]
        have jsn : ∀ x, x ∈ js → ∀ y, y ∈ pa → y.2 ≠ x := fun x hx y hy => by have := pa_mem hpa y hy; have := hjs x hx; omega
        have PRE3 : PRE (A3 19) (A3 20) (LJ (B3 85) c' pa') off s0 (c :: js) c' := by
          refine ⟨r9, hPRE.cg (fun i i1 i2 i3 => ⟨(c19 _ (by omega)).1, (c19 _ (by omega)).2, ?_⟩)⟩
          rw [LJ3 i (by omega), rc3 i i2, LJ_app, LJ_ne _ _ _ _ (fun x hx e => i3 (by rw [← e]; exact (pj_mem x hx).2))]
        have CHC3 : CHC (A3 19) (A3 20) off (iI ((o - 7 : Nat) : Int)) (c :: js) (iI ((c + off : Nat) : Int)) := by
          refine ⟨rfl, ?_, ?_⟩
          · rw [(r8.1 _ (by omega)).1, t2, upd_self]
          · rw [(r8.1 _ (by omega)).2, t3, upd_self]
            exact hCHC.cg (fun m hm => c19 _ (by have := (hpl.2 m hm).2; omega))
        have RFT3 : RFT (B3 85) o (c :: js) := by
          show RFN (B3 85) o js c
          cases js with
          | nil => trivial
          | cons m r =>
            have hm := hpl.2 m List.mem_cons_self
            have eL : LJ (B 85) c (pa ++ PJof o (m :: r)) = upd (LJ (B 85) c pa) m (iI ((1048576 * o + c : Nat) : Int)) := by rw [LJ_app]; rfl
            refine ⟨by rw [rc3 m hm.2, eL, upd_self], RFN.cg hRFT (fun x hx => ?_)⟩
            have hx2 := (pre_le hPRE.2).2 x hx
            rw [rc3 x (by omega), eL, upd_ne _ _ (by omega), LJ_ne _ _ _ _ (jsn x (List.mem_cons_of_mem _ hx))]
        have PJ3 : PJ B3 wn (pa' ++ PJof o (c :: js)) := by
          have base : PJ B3 wn [(o, c)] := ⟨by rw [show wn + ([] : List (Nat × Nat)).length = wn from rfl, r8.2.2 wn (by omega)]; exact e86, rcc, by show c < 240; omega, fun y hy => absurd hy List.not_mem_nil, trivial⟩
          rcases r5 with rfl | ⟨m, m1, m2, rfl, _⟩
          · exact base
          · obtain ⟨y1, y2, y3, -, -⟩ := r7
            exact ⟨y1, y2, y3, fun y hy => by rw [List.mem_singleton.mp hy]; show c ≠ m; omega, base⟩
        have lB : (pa' ++ PJof o (c :: js)).length = pa'.length + 1 := List.length_append
        have hS3 : SY tb n A3 B3 p' d c' off (wn + (pa' ++ PJof o (c :: js)).length) 0 := by
          rw [lB, show wn + (pa'.length + 1) = wn + 1 + pa'.length by omega]; exact r6
        have KPa : KP (s0 + off) s0 wn A A3 B B3 := by
          refine ⟨fun i hi => c19 i (by omega), fun i hi => ?_, b86⟩
          rw [rc3 i (by omega), LJ_ne _ _ _ _ (fun x hx => by have := pjm x hx; omega)]
        obtain ⟨A', B', m1, m2, m3, m4⟩ := ih (v + 1) p' c' K' kk' (c :: js) pa' (iI ((c + off : Nat) : Int)) (c + 1) A3 B3 (by omega) (by omega) (by simp only [List.length_cons]; omega) r3 r2 hS3 PJ3 r5 (by omega) (fun x hx => by
          rcases List.mem_cons.mp hx with e | e
          · omega
          · have := (hpl.2 x e).2; omega) PRE3 CHC3 RFT3 (hT.cg b86) r10
        refine ⟨A', B', m1, oA.trans m2, oBB.trans m3, ?_⟩
        have eL : DX N (kk + 1) K B = DX N kk' K' B3 := by rw [eD, r11]
        rw [eL]
        rcases m4 with ⟨kk2, K2, p2, c2, pa2, js2, y1, y2, y3, y4, y5, y6, y7, y8, y9, y10, y11, y12, y13⟩ | y
        · exact Or.inl ⟨kk2, K2, p2, c2, pa2, js2, by omega, y2, y3, by omega, y5, y6, y7, y8, KPa.trans y9 (by omega) (by omega) (by omega), y10, y11, y12, y13⟩
        · exact Or.inr y
      · obtain ⟨k, rfl⟩ : ∃ k', k = k' + 1 := ⟨k - 1, by omega⟩
        obtain ⟨A4, y1, y2, y3, y4⟩ := g_dead (k := k) (t := tag) (s := sO o) hN (g_X6 N q) (iI ((o - 7 : Nat) : Int)) (iI (d : Int)) (iI ((c + off : Nat) : Int)) (iI ((v + 1 : Nat) : Int)) (by omega) (by omega) r1.dead r2
        exact ⟨A4, B3, y1, oA.trans y3, oBB, Or.inr ⟨r1.dk y2, y4, by rw [eD, r3]⟩⟩
    · rw [if_neg hs, if_pos rfl]
      obtain ⟨A', g1, g2, g3, g4⟩ := settle_ok (N := N) (off := off) (sz := c + off) js N 0 j A hCHC (pre_dsc hPRE) (fun m hm => by have := (hpl.2 m hm).2; omega) h6 (by omega) (by omega)
      rw [show f_X5_settle N 15 j A = some A' from g1, hb1_some]
      have jsn : ∀ x, x ∈ js → ∀ y, y ∈ pa → y.2 ≠ x := fun x hx y hy => by have := pa_mem hpa y hy; have := hjs x hx; omega
      have q20 : ∀ i, (∀ m, m ∈ js → i ≠ m) → A' 20 (i + off) = A 20 (i + off) := fun i hi => g4 _ (fun m hm => by have := hi m hm; omega)
      refine ⟨A', B, rfl, (ocD_20 g2).1, oBD_rf _, Or.inl ⟨kk, K, p, c, pa, js, by omega, hkk, hK, by omega, ?_, fun x hx => hpl.2 x hx, ⟨hA.cg (g2 2 (by decide)) (g2 1 (by decide)), hB, hn, hd, h17, h18, by rw [g2 15 (by decide)]; exact h6, h19, by omega, by omega⟩, hPJ, ⟨fun i hi => ?_, fun _ _ => rfl, fun _ _ => rfl⟩, ?_, hE, hs, rfl⟩⟩
      · rcases hpa with h | ⟨m, m1, m2, m3, m4⟩
        · exact Or.inl h
        · exact Or.inr ⟨m, by omega, m2, m3, m4⟩
      · rw [g2 19 (by decide), g4 i (fun m hm => by have := (hpl.2 m hm).1; omega)]; exact ⟨rfl, rfl⟩
      · refine seg_chain (js := js) ho (hPRE.cg (fun i i1 i2 i3 => ⟨by rw [g2 19 (by decide)], q20 i (fun m hm e => i3 (by rw [e]; exact hm)), ?_⟩)) (fun m hm => ⟨by rw [g2 19 (by decide)]; exact hCHC.sg m hm, g3 m hm⟩) ?_
        · rw [LJ_app, LJ_ne _ _ _ _ (fun x hx e => i3 (by rw [← e]; exact (pj_mem x hx).2))]
        · cases js with
          | nil => trivial
          | cons m r =>
            have eL : LJ (B 85) c (pa ++ PJof o (m :: r)) = upd (LJ (B 85) c pa) m (iI ((1048576 * o + c : Nat) : Int)) := by rw [LJ_app]; rfl
            rw [eL]
            refine ⟨upd_self _ _ _, RFN.cg hRFT (fun x hx => ?_)⟩
            have hx2 := (pre_le hPRE.2).2 x hx
            rw [upd_ne _ _ (by omega), LJ_ne _ _ _ _ (jsn x (List.mem_cons_of_mem _ hx))]

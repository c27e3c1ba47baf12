/-! THE HUNT: all creatures, side by side -/
theorem BC.j {x : Nat → Int32} {j : Nat} {κ κ1 κ2 c cr : Int} (h : BC x j κ2 (if κ1 < κ2 then c else if κ < κ1 then c else cr)) (h1 : κ ≤ κ1) (h2 : κ1 ≤ κ2) : BC x j κ2 (if κ < κ2 then c else cr) := by
  by_cases a : κ1 < κ2
  · rw [if_pos a] at h
    rw [if_pos (by omega)]; exact h
  · rw [if_neg a] at h
    obtain rfl : κ2 = κ1 := by omega
    exact h
section
variable {B0 : HMem} {N h c P : Nat} {T C f fr ln : Int} {n5 n7 : Int32} {nh : Nat → Int32} {W : Nat → Int}
theorem sides_L (hN : 300 ≤ N) (hX : XB B0 N h P T C f n5 n7 nh) (hL : LN B0 c fr ln) (hW : WRp B0 N h c C f T fr ln n5 n7 nh W) (r98 : Int32 → HMem → Option HMem) : ∀ (k w : Nat) (B : HMem) (κ cr : Int), w ≤ 4 → 4 - w < k → FB B0 B → BC (B 74) 46 κ cr → ∃ B' κ', f_X12_turnOf_L129 N r98 (iI h) (iI P) (iI c) k (iI w) B = r98 (iI ((c + 1 : Nat) : Int)) B' ∧ FB B0 B' ∧ TOP (kyf C f T fr P (kd B0) (pl B0 c) W) (fun j => (j : Int) ≤ ln ∧ (w : Int) < wy P (pl B0 c j)) κ κ' ∧ BC (B' 74) 46 κ' (if κ < κ' then (c : Int) else cr) := by
  have hP := hX.2.1
  intro k
  induction k with
  | zero => intro w _ _ _ _ h; exfalso; omega
  | succ k ih =>
    intro w B κ cr hw hk hF hB
    by_cases e : w = 4
    · subst e
      refine ⟨B, κ, ?_, hF, TOP.nil hB.nn (fun j hj => absurd hj ?_), by rw [if_neg (by omega)]; exact hB⟩
      · rw [f_X12_turnOf_L129, if_pos (by decide), iI_s]
      · intro ⟨_, b⟩
        have := wy_rg P (pl B0 c j)
        omega
    · have x : ¬ (4 : Int32) ≤ iI (w : Int) := nl_i (a := 4) (by omega) (by omega) (by omega)
      obtain ⟨n1, -, n3⟩ := nbrs (p := P) (w := w) hP (by omega)
      rw [f_X12_turnOf_L129, if_neg x, n1, iI_s]
      by_cases z : nbr P w = P
      · rw [if_pos (by rw [z])]
        obtain ⟨B', κ', g1, g2, g3, g4⟩ := ih (w + 1) B κ cr (by omega) (by omega) hF hB
        refine ⟨B', κ', g1, g2, ⟨g3.1, fun j hj => ?_, ?_⟩, g4⟩
        · obtain ⟨hj1, hj2⟩ := hj
          have hp := hL.pb hj1
          refine g3.2.1 j ⟨hj1, ?_⟩
          have : ¬ wy P (pl B0 c j) = (w : Int) + 1 := fun q => ((wy_s hP hp (by omega)).mp q).2 z
          omega
        · rcases g3.2.2 with q | ⟨j, ⟨q1, q2⟩, q3⟩
          · exact Or.inl q
          · exact Or.inr ⟨j, ⟨q1, by omega⟩, q3⟩
      · have nz : ¬ iI (nbr P w : Int) = iI (P : Int) := ne_i (by omega) (by omega) (by omega) (by omega) (by omega)
        obtain ⟨B1, κ1, u1, u2, u3, u4⟩ := asks_L (q := nbr P w) (s := (w : Int) + 1) hN hX hL hW n3 (by omega) (by omega) (fun p hp => by rw [wy_s hP hp (by omega)]; exact ⟨fun a => ⟨a, z⟩, fun a => a.1⟩) N 0 B κ cr (by have := hL.rg; omega) (by have := hL.rg; omega) hF hB
        obtain ⟨B', κ', g1, g2, g3, g4⟩ := ih (w + 1) B1 κ1 _ (by omega) (by omega) u2 u4
        rw [if_neg nz, show f_X12_asksScents N (iI h) (iI c) (iI (nbr P w : Int)) (iI ((w + 1 : Nat) : Int)) B = some B1 from u1, hb1_some]
        refine ⟨B', κ', g1, g2, u3.join g3 (fun j => ?_), g4.j u3.1 g3.1⟩
        show (j : Int) ≤ ln ∧ (w : Int) < wy P (pl B0 c j) ↔ (0 ≤ j ∧ (j : Int) ≤ ln ∧ wy P (pl B0 c j) = (w : Int) + 1) ∨ ((j : Int) ≤ ln ∧ ((w + 1 : Nat) : Int) < wy P (pl B0 c j))
        omega
theorem line_R (hN : 300 ≤ N) (hX : XB B0 N h P T C f n5 n7 nh) (hL : LN B0 c fr ln) (hW : WRp B0 N h c C f T fr ln n5 n7 nh W) (r98 : Int32 → HMem → Option HMem) {B : HMem} {κ cr : Int} (hF : FB B0 B) (hB : BC (B 74) 46 κ cr) : ∃ B' κ', hb1 (f_X12_asksScents N (iI h) (iI c) (iI P) 0 B) (fun M103 => f_X12_turnOf_L129 N r98 (iI h) (iI P) (iI c) N 0 M103) = r98 (iI ((c + 1 : Nat) : Int)) B' ∧ FB B0 B' ∧ TOP (kyf C f T fr P (kd B0) (pl B0 c) W) (fun j => (j : Int) ≤ ln) κ κ' ∧ BC (B' 74) 46 κ' (if κ < κ' then (c : Int) else cr) := by
  have hP := hX.2.1
  have r := hL.rg
  obtain ⟨B1, κ1, u1, u2, u3, u4⟩ := asks_L (q := P) (s := 0) hN hX hL hW hP (by omega) (by omega) (fun p hp => wy_0.symm) N 0 B κ cr (by omega) (by omega) hF hB
  obtain ⟨B', κ', g1, g2, g3, g4⟩ := sides_L hN hX hL hW r98 N 0 B1 κ1 _ (by omega) (by omega) u2 u4
  rw [show f_X12_asksScents N (iI h) (iI c) (iI P) 0 B = some B1 from u1, hb1_some]
  have h0 := hB.nn
  have j1 : TOP (kyf C f T fr P (kd B0) (pl B0 c) W) (fun j => (j : Int) ≤ ln ∧ 0 ≤ wy P (pl B0 c j)) κ κ' := u3.join g3 (fun j => by
    show (j : Int) ≤ ln ∧ 0 ≤ wy P (pl B0 c j) ↔ (0 ≤ j ∧ (j : Int) ≤ ln ∧ wy P (pl B0 c j) = 0) ∨ ((j : Int) ≤ ln ∧ ((0 : Nat) : Int) < wy P (pl B0 c j))
    omega)
  refine ⟨B', κ', g1, g2, ⟨j1.1, fun j hj => ?_, ?_⟩, g4.j u3.1 g3.1⟩
  · by_cases z : 0 ≤ wy P (pl B0 c j)
    · exact j1.2.1 j ⟨hj, z⟩
    · rw [kyf, if_neg (fun a => z a.2.2.2)]
      have := j1.1
      omega
  · rcases j1.2.2 with q | ⟨j, ⟨q1, q2⟩, q3⟩
    · exact Or.inl q
    · exact Or.inr ⟨j, q1, q3⟩
end
/-- where the best scent comes from -/
def PV (A0 : HMem) (P : Nat) (T κ cr : Int) : Prop := κ = 0 ∨ ∃ (c : Nat) (fr ln w : Int) (i : Nat), cr = (c : Int) ∧ LN A0 c fr ln ∧ A0 (50 + 3 * c) 2 = 1 ∧ (i : Int) ≤ ln ∧ 1 ≤ w ∧ w ≤ 9999 ∧ 0 ≤ wy P (pl A0 c i) ∧ fr + (i : Int) < T ∧ κ = KY w (fr + (i : Int)) (wy P (pl A0 c i))
theorem PV.step {A0 : HMem} {P c : Nat} {C f T fr ln κ κ' cr : Int} {W : Nat → Int} (h : PV A0 P T κ cr) (h0 : 0 ≤ κ) (hL : LN A0 c fr ln) (hl : A0 (50 + 3 * c) 2 = 1) (hW : ∀ i : Nat, (i : Int) ≤ ln → 0 ≤ W i ∧ W i ≤ 9999) (hT : TOP (kyf C f T fr P (kd A0) (pl A0 c) W) (fun i => (i : Int) ≤ ln) κ κ') : PV A0 P T κ' (if κ < κ' then (c : Int) else cr) := by
  by_cases a : κ < κ'
  · rw [if_pos a]
    rcases hT.2.2 with q | ⟨i, q1, q2⟩
    · omega
    · have q1' : (i : Int) ≤ ln := q1
      obtain ⟨W0, W1⟩ := hW i q1'
      rw [kyf] at q2
      by_cases z : fr + (i : Int) < T ∧ 0 < st C f (fr + (i : Int)) ∧ kd A0 (pl A0 c i) ≠ 1 ∧ 0 ≤ wy P (pl A0 c i)
      · rw [if_pos z] at q2
        have W2 : W i ≠ 0 := fun e => by rw [KY, if_pos e] at q2; omega
        exact Or.inr ⟨c, fr, ln, W i, i, rfl, hL, hl, q1', by omega, W1, z.2.2.2, z.1, q2⟩
      · rw [if_neg z] at q2; omega
  · rw [if_neg a]
    have : κ' = κ := by have := hT.1; omega
    rw [this]; exact h
def sta (M A : HMem) : Prop := ∀ k j, 2 ≤ grp k j → grp k j ≤ 5 → A k j = M k j
theorem sta.trans {M A A' : HMem} (h : sta M A) (e : ∀ k j, 2 ≤ grp k j → grp k j ≤ 5 → A' k j = A k j) : sta M A' := fun k j a b => (e k j a b).trans (h k j a b)
theorem sta_pl {M A : HMem} (h : sta M A) {c : Nat} (hc : c < 8) : pl A c = pl M c := by
  funext k
  have g : grp (52 + 3 * c) k = 3 := grp3 k (by omega)
  simp only [pl, h (52 + 3 * c) k (by omega) (by omega)]
theorem sta_kd {M A : HMem} (h : sta M A) : kd A = kd M := by
  funext k
  have g : grp 6 k = 4 := rfl
  simp only [kd, h 6 k (by omega) (by omega)]
theorem W_ex {M A0 B0 : HMem} {N h c : Nat} {C f T fr ln : Int} {n5 n7 : Int32} {nh : Nat → Int32} (hN : 300 ≤ N) (hW : ILaw M) (sA : sta M A0) (sB : sta M B0) (hL : LN M c fr ln) : ∃ W : Nat → Int, WCp A0 N h c C f T fr ln n5 n7 nh W ∧ WRp B0 N h c C f T fr ln n5 n7 nh W := by
  obtain ⟨t, sz, cm, h1, h2, h3, h4, h5, h6, h7⟩ := hW
  have ex : ∀ i : Nat, ∃ w : Int, 0 ≤ w ∧ w ≤ 9999 ∧ (∀ A, LA M t sz A → (∀ q, q < 8 → A 29 q = fcs h c C f T fr n5 (nh (pl M c i)) n7 i q) → ∃ A', f_X5_worth N 23 (iI 101) (iI 9999) A = some (iI w, A') ∧ ∀ q, q ≠ 30 → A' q = A q) ∧ (∀ B, LB M t B → (∀ q, q < 8 → B 97 q = fcs h c C f T fr n5 (nh (pl M c i)) n7 i q) → ∃ B', f_X12_byLaw N (iI 101) (iI 9999) B = some (iI w, B') ∧ ∀ q, q ≠ 96 → B' q = B q) := fun i =>
    worth_V (z := 101) (hi := 9999) hN (Or.inl rfl) (by omega) (by omega) h1 h2 h7 h4 h6 h5 _
  have c8 := hL.c8
  have ef : ∀ {X : HMem}, sta M X → ∀ k, (∀ j, grp k j = 5) → X k = M k := fun hX k hk => funext (fun j => hX k j (by rw [hk]; omega) (by rw [hk]; omega))
  refine ⟨fun i => Classical.choose (ex i), fun i hi => ?_, fun i hi => ?_⟩
  · obtain ⟨a1, a2, a3, a4⟩ := Classical.choose_spec (ex i)
    refine ⟨a1, a2, fun A hF hq => a3 A ?_ (fun q hq' => by rw [hq q hq', sta_pl sA c8])⟩
    refine LA.fr (A := A0) ⟨?_, ?_, ef sA 24 (fun _ => rfl), ef sA 25 (fun _ => rfl), ef sA 26 (fun _ => rfl), ef sA 27 (fun _ => rfl), ef sA 28 (fun _ => rfl)⟩ (fun q _ _ => hF q (by omega))
    · rw [sA 23 3 (by decide) (by decide)]; exact h4
    · rw [sA 23 6 (by decide) (by decide)]; exact h6
  · obtain ⟨a1, a2, a3, a4⟩ := Classical.choose_spec (ex i)
    refine ⟨a1, a2, fun B hF hq => a4 B ?_ (fun q hq' => by rw [hq q hq', sta_pl sB c8])⟩
    refine LB.fr (B := B0) ⟨?_, ef sB 91 (fun _ => rfl), ef sB 92 (fun _ => rfl), ef sB 93 (fun _ => rfl), ef sB 94 (fun _ => rfl), ef sB 95 (fun _ => rfl)⟩ (hF.2 21 (by omega)) (fun q _ _ => hF.1 q (by omega) (by omega) (by omega))
    rw [sB 74 21 (by decide) (by decide)]; exact h5
theorem cre_J {M A0 B0 : HMem} {N o h P : Nat} {T C f : Int} {n5 n7 : Int32} {nh : Nat → Int32} (hN : 300 ≤ N) (hW : ILaw M) (hLs : ILines M) (sA : sta M A0) (sB : sta M B0) (hXA : XA A0 N o h P T C f nh) (hXB : XB B0 N h P T C f n5 n7 nh) : ∀ (n c k k' : Nat) (A B : HMem) (κ cr : Int), c + n = 8 → n < k → n < k' → FW A0 A → AF A h n5 n7 → FB B0 B → BC (A 31) 2 κ cr → BC (B 74) 46 κ cr → PV M P T κ cr → ∃ (A' B' : HMem) (κ' cr' : Int) (q q' : Nat), f_X2_follow_L7 N o (iI h) k (iI c) A = f_X2_follow_L7 N o (iI h) (q + 1) 8 A' ∧ f_X12_turnOf_L98 N (iI h) (iI P) k' (iI c) B = f_X12_turnOf_L98 N (iI h) (iI P) (q' + 1) 8 B' ∧ FW A0 A' ∧ FB B0 B' ∧ BC (A' 31) 2 κ' cr' ∧ BC (B' 74) 46 κ' cr' ∧ PV M P T κ' cr' := by
  intro n
  induction n with
  | zero =>
    intro c k k' A B κ cr hc hk hk' hF hf hFB hB hB' hV
    obtain ⟨q, rfl⟩ : ∃ q, k = q + 1 := ⟨k - 1, by omega⟩
    obtain ⟨q', rfl⟩ : ∃ q, k' = q + 1 := ⟨k' - 1, by omega⟩
    obtain rfl : c = 8 := by omega
    exact ⟨A, B, κ, cr, q, q', rfl, rfl, hF, hFB, hB, hB', hV⟩
  | succ n ih =>
    intro c k k' A B κ cr hc hk hk' hF hf hFB hB hB' hV
    obtain ⟨k, rfl⟩ : ∃ q, k = q + 1 := ⟨k - 1, by omega⟩
    obtain ⟨k', rfl⟩ : ∃ q, k' = q + 1 := ⟨k' - 1, by omega⟩
    have c8 : c < 8 := by omega
    have x : ¬ (8 : Int32) ≤ iI (c : Int) := nl_i (a := 8) (by omega) (by omega) (by omega)
    have g2 : grp (50 + 3 * c) 2 = 3 := grp3 2 (by omega)
    have a2 : A0 (50 + 3 * c) 2 = M (50 + 3 * c) 2 := sA _ _ (by omega) (by omega)
    have g78 : grp 78 c = 3 := rfl
    have b78 : B0 78 c = M 78 c := sB 78 c (by omega) (by omega)
    rw [f_X2_follow_L7, if_neg x, f_X12_turnOf_L98, if_neg x]
    rcases hLs c c8 with ⟨l1, l2⟩ | ⟨l1, fr, ln, hL⟩
    · have e1 : f_X2_weigh N o (iI h) (iI c) A = some A := by
        rw [f_X2_weigh, laid_0 c8 (by rw [hF _ (by omega), a2]; exact l1), hb1_some]
      rw [e1, hb1_some, iI_s, hasLine_0 c8 (by rw [hFB.1 78 (by decide) (by decide) (by decide), b78]; exact l2), hb1_some, if_pos rfl]
      exact ih (c + 1) k k' A B κ cr (by omega) (by omega) (by omega) hF hf hFB hB hB' hV
    · obtain ⟨W, wA, wB⟩ := W_ex (h := h) (C := C) (f := f) (T := T) (n5 := n5) (n7 := n7) (nh := nh) hN hW sA sB hL
      have hLA : LN A0 c fr ln := hL.congr (fun k j e => sA k j (by omega) (by omega))
      have hLB : LN B0 c fr ln := hL.congr (fun k j e => sB k j (by omega) (by omega))
      obtain ⟨A1, κ1, u1, u2, u3, u4, u5⟩ := weigh_eq hN hXA hLA (by rw [a2]; exact l1) wA hF hf hB
      obtain ⟨B1, κ2, v1, v2, v3, v4⟩ := line_R hN hXB hLB wB (f_X12_turnOf_L98 N (iI h) (iI P) k') hFB hB'
      rw [sta_kd sA, sta_pl sA c8] at u4
      rw [sta_kd sB, sta_pl sB c8] at v3
      obtain rfl := u4.uniq v3
      rw [u1, hb1_some, iI_s, hasLine_1 c8 (show B 78 c = iI ln by rw [hFB.1 78 (by decide) (by decide) (by decide), b78]; exact hL.cf.2.2.1) hL.rg.1 hL.rg.2.1, hb1_some, if_neg i10, v1]
      exact ih (c + 1) k k' A1 B1 κ1 _ (by omega) (by omega) (by omega) u2 u3 v2 u5 v4 (hV.step hB.nn hL l1 (fun i hi => ⟨(wA i hi).1, (wA i hi).2.1⟩) u4)

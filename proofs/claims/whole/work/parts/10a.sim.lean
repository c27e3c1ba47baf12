/-! THE LAW'S CODES: class and reference come to the same -/
theorem iI_dU {a : Nat} (ha : a < 2147483648) : iI (a : Int) / 1048576 = iI ((a / 1048576 : Nat) : Int) := by
  have h := pk_div (a := a) (d := 1048576) ha (by decide) (by decide)
  rw [nI_iI, nI_iI, nI_iI] at h
  exact h
/-- a code's op and number -/
theorem cd_op {o v : Nat} (ho : o ≤ 20) (hv : v < 1048576) : iI ((1048576 * o + v : Nat) : Int) / 1048576 = iI (o : Int) ∧ iI ((1048576 * o + v : Nat) : Int) - iI ((1048576 * o + v : Nat) : Int) / 1048576 * 1048576 = iI (v : Int) := by
  have e : iI ((1048576 * o + v : Nat) : Int) / 1048576 = iI (o : Int) := by
    rw [iI_dU (by omega), show (1048576 * o + v) / 1048576 = o by omega]
  refine ⟨e, ?_⟩
  rw [e, show (1048576 : Int32) = iI 1048576 from rfl, iI_mul, iI_sub]
  congr 1
  omega
theorem iI_pr (g : Nat) : iI ((g + 1 : Nat) : Int) - 1 = iI (g : Int) := by
  rw [q1, iI_sub]
  congr 1
  omega
theorem iI_pm (g : Nat) : iI ((g + 1 : Nat) : Int) + (-1) = iI (g : Int) := by
  rw [qm1, iI_add]
  congr 1
  omega
/-- a step of the class -/
theorem run_at {sg wt : Nat → Int32} {A : HMem} {sz i ct k h N : Nat} (a1 : A 27 = sg) (a2 : A 28 = wt) (a3 : A 23 6 = iI sz) (hsz : sz ≤ 240) (hat : i < sz) (hct : ct ≤ i) : f_X5_run_L7 N 23 (k + 1) (iI h) (iI i) (iI ct) A = (if sg i = 0 then (if iI h ≤ 0 then some (0, A) else some (A 30 0, A)) else if sg i = 1 then f_X5_run_J73 N (f_X5_run_L7 N 23 k) 23 (iI h) (iI i + 1) (iI ct) (sg i) (wt i) A else if sg i = 2 then f_X5_run_J73 N (f_X5_run_L7 N 23 k) 23 (iI h) (iI i + 1) (iI ct) (sg i) (wt i) A else if iI h < 1 then some (0, A) else if iI h ≤ 32 then (if hib (iI h - 1) 32 then if sg i = 3 then (if hib (iI h - 1) 32 then f_X5_run_L7 N 23 k (iI h) (iI i + 1) (iI ct + 1) (hset A 30 (Int32.toNatClampNeg (iI h - 1)) (1 - A 30 (Int32.toNatClampNeg (iI h - 1)))) else none) else if sg i = 4 then (if A 30 (Int32.toNatClampNeg (iI h - 1)) = 0 then f_X5_run_L7 N 23 k (iI h) (wt i) (iI ct + 1) A else f_X5_run_J165 N (f_X5_run_L7 N 23 k) 23 (iI h) (iI i + 1) (iI ct) (sg i) (wt i) (A 30 (Int32.toNatClampNeg (iI h - 1))) A) else f_X5_run_J165 N (f_X5_run_L7 N 23 k) 23 (iI h) (iI i + 1) (iI ct) (sg i) (wt i) (A 30 (Int32.toNatClampNeg (iI h - 1))) A else none) else some (0, A)) := by
  subst a1 a2
  have x1 : ¬ (240 : Int32) ≤ iI (ct : Int) := nl_i (a := 240) (by omega) (by omega) (by omega)
  have x2 : ¬ iI (i : Int) < 0 := nlt_i (b := 0) (by omega) (by omega) (by omega)
  have x3 : ¬ iI (sz : Int) ≤ iI (i : Int) := nl_i (by omega) (by omega) (by omega)
  have x4 : ¬ (240 : Int32) ≤ iI (i : Int) := nl_i (a := 240) (by omega) (by omega) (by omega)
  rw [f_X5_run_L7, if_neg x1, if_neg x2, a3, if_neg x3, if_neg x4, hib_t (n := 240) (by omega) (by omega) (by omega), if_pos rfl, if_pos rfl, iI_natc (k := i) (by omega)]
/-- a step of the reference -/
theorem com_at {B : HMem} {to i k h o v N : Nat} (hc : B 91 i = iI ((1048576 * o + v : Nat) : Int)) (ho : o ≤ 20) (hv : v < 1048576) (hi : i < to) (hto : to ≤ 240) : f_X12_comesTo_L16 N (iI to) 0 (k + 1) (iI h) (iI i) B = (if iI (o : Int) = 0 then f_X12_comesTo_J63 N (f_X12_comesTo_L16 N (iI to) 0 k) (iI to) (iI h) 0 (iI i + 1) (iI o) (iI v) B else if iI (o : Int) = 1 then f_X12_comesTo_J63 N (f_X12_comesTo_L16 N (iI to) 0 k) (iI to) (iI h) 0 (iI i + 1) (iI o) (iI v) B else if iI (o : Int) = 10 then (if hib (iI h - 1) 260 then if hib (iI h - 1) 260 then f_X12_comesTo_L16 N (iI to) 0 k (iI h) (iI i + 1) (hset B 96 (Int32.toNatClampNeg (iI h - 1)) (1 - B 96 (Int32.toNatClampNeg (iI h - 1)))) else none else none) else if iI (o : Int) = 11 then f_X12_comesTo_J135 N (f_X12_comesTo_L16 N (iI to) 0 k) (iI to) (iI h) 0 (iI i + 1) (iI o) (iI v) B else if iI (o : Int) = 12 then f_X12_comesTo_J135 N (f_X12_comesTo_L16 N (iI to) 0 k) (iI to) (iI h) 0 (iI i + 1) (iI o) (iI v) B else if iI (o : Int) = 5 then (if hib (iI h - 1) 260 then if B 96 (Int32.toNatClampNeg (iI h - 1)) = 0 then some (0, B) else f_X12_comesTo_J203 N (f_X12_comesTo_L16 N (iI to) 0 k) (iI to) (iI h - 1) 0 (iI i + 1) (iI o) B else none) else if iI (o : Int) = 6 then (if hib (iI h - 1) 260 then if B 96 (Int32.toNatClampNeg (iI h - 1)) = 0 then some (0, B) else f_X12_comesTo_J203 N (f_X12_comesTo_L16 N (iI to) 0 k) (iI to) (iI h - 1) 0 (iI i + 1) (iI o) B else none) else f_X12_comesTo_J203 N (f_X12_comesTo_L16 N (iI to) 0 k) (iI to) (iI h - 1) 0 (iI i + 1) (iI o) B) := by
  have x1 : ¬ iI (to : Int) ≤ iI (i : Int) := nl_i (by omega) (by omega) (by omega)
  rw [f_X12_comesTo_L16, if_neg x1, hib_t (n := 260) (by omega) (by omega) (by omega), if_pos rfl, if_pos rfl, iI_natc (k := i) (by omega), hc, (cd_op ho hv).2, (cd_op ho hv).1, hb1_some]
def ENV (sg fc gc : Nat → Int32) (sz off to : Nat) (P : Int32 → Prop) : Prop := (∀ j, j < 8 → fc j = gc j) ∧ sz ≤ 240 ∧ to + off < sz ∧ sg (to + off) = 0 ∧ P 0
def SIM (sg wt rc fc gc : Nat → Int32) (sz off to N : Nat) (P : Int32 → Prop) (i i' h : Nat) (S : Nat → Int32) : Prop := ∀ (A B : HMem) (k k' ct : Nat), A 27 = sg → A 28 = wt → A 23 6 = iI sz → A 29 = fc → B 91 = rc → B 97 = gc → (∀ j, j < h → A 30 j = S j ∧ B 96 j = S j) → to < k + i → to < k' + i' → ct ≤ i + off → ∃ r A' B', f_X5_run_L7 N 23 k (iI h) (iI ((i + off : Nat) : Int)) (iI ct) A = some (r, A') ∧ f_X12_comesTo_L16 N (iI to) 0 k' (iI h) (iI i') B = some (r, B') ∧ (∀ q, q ≠ 30 → A' q = A q) ∧ (∀ q, q ≠ 96 → B' q = B q) ∧ P r
section
variable {sg wt rc fc gc : Nat → Int32} {sz off to N : Nat} {P : Int32 → Prop}
theorem sim_end (hE : ENV sg fc gc sz off to P) {g : Nat} {S : Nat → Int32} (hg : g < 32) (hP : P (S 0)) : SIM sg wt rc fc gc sz off to N P to to (g + 1) S := by
  intro A B k k' ct a1 a2 a3 a4 b1 b2 hs hk hk' hct
  obtain ⟨e1, e2, e3, e4, e5⟩ := hE
  obtain ⟨k, rfl⟩ : ∃ q, k = q + 1 := ⟨k - 1, by omega⟩
  obtain ⟨k', rfl⟩ : ∃ q, k' = q + 1 := ⟨k' - 1, by omega⟩
  have x1 : ¬ iI ((g + 1 : Nat) : Int) ≤ 0 := nl_i (b := 0) (by omega) (by omega) (by omega)
  refine ⟨S 0, A, B, ?_, ?_, fun _ _ => rfl, fun _ _ => rfl, hP⟩
  · rw [run_at a1 a2 a3 e2 e3 hct, e4, if_pos rfl, if_neg x1, (hs 0 (by omega)).1]
  · rw [f_X12_comesTo_L16, if_pos (le_i (by omega) (by omega) (by omega)), (hs 0 (by omega)).2]
theorem sim_push {i h o v : Nat} {S : Nat → Int32} {w : Int32} (hE : ENV sg fc gc sz off to P) (hi : i < to) (hh : h < 32) (hv : v < 1048576) (hr : rc i = iI ((1048576 * o + v : Nat) : Int)) (hw : wt (i + off) = iI (v : Int)) (hc : (o = 0 ∧ sg (i + off) = 1 ∧ w = iI (v : Int)) ∨ (o = 1 ∧ sg (i + off) = 2 ∧ v < 8 ∧ w = fc v)) (hS : SIM sg wt rc fc gc sz off to N P (i + 1) (i + 1) (h + 1) (upd S h w)) : SIM sg wt rc fc gc sz off to N P i i h S := by
  intro A B k k' ct a1 a2 a3 a4 b1 b2 hs hk hk' hct
  obtain ⟨e1, e2, e3, e4, e5⟩ := hE
  obtain ⟨k, rfl⟩ : ∃ q, k = q + 1 := ⟨k - 1, by omega⟩
  obtain ⟨k', rfl⟩ : ∃ q, k' = q + 1 := ⟨k' - 1, by omega⟩
  have y1 : iI (h : Int) < 32 := lt_i (b := 32) (by omega) (by omega) (by omega)
  have go := hS (hset A 30 h w) (hset B 96 h w) k k' (ct + 1) (by rw [hset_nek _ _ _ (by decide)]; exact a1) (by rw [hset_nek _ _ _ (by decide)]; exact a2) (by rw [hset_nek _ _ _ (by decide)]; exact a3) (by rw [hset_nek _ _ _ (by decide)]; exact a4) (by rw [hset_nek _ _ _ (by decide)]; exact b1) (by rw [hset_nek _ _ _ (by decide)]; exact b2) (fun j hj => by
    by_cases q : j = h
    · subst q; rw [hset_self, hset_self, upd_self]; exact ⟨rfl, rfl⟩
    · rw [hset_nej _ _ q, hset_nej _ _ q, upd_ne _ _ q]; exact hs j (by omega)) (by omega) (by omega) (by omega)
  obtain ⟨r, A', B', g1, g2, g3, g4, g5⟩ := go
  rw [show i + 1 + off = i + off + 1 by omega] at g1
  refine ⟨r, A', B', ?_, ?_, fun q hq => by rw [g3 q hq, hset_nek _ _ _ hq], fun q hq => by rw [g4 q hq, hset_nek _ _ _ hq], g5⟩
  · rw [run_at a1 a2 a3 e2 (by omega) hct, hw, iI_s]
    rcases hc with ⟨o1, c1, c2⟩ | ⟨o1, c1, c3, c2⟩
    · rw [c1, if_neg i10, if_pos rfl, f_X5_run_J73, if_pos y1, if_pos rfl, hib_t (n := 32) (by omega) (by omega) (by omega), if_pos rfl, iI_s, iI_s, iI_natc (k := h) (by omega), ← c2]
      exact g1
    · have z1 : ¬ iI (v : Int) < 0 := nlt_i (b := 0) (by omega) (by omega) (by omega)
      have z2 : ¬ (8 : Int32) ≤ iI (v : Int) := nl_i (a := 8) (by omega) (by omega) (by omega)
      rw [c1, if_neg (by decide), if_neg (by decide), if_pos rfl, f_X5_run_J73, if_pos y1, if_neg (by decide), f_X5_valueOf, if_neg z1, if_neg z2, hib_t (n := 8) (by omega) (by omega) (by omega), if_pos rfl, hb1_some, hib_t (n := 32) (by omega) (by omega) (by omega), if_pos rfl, iI_s, iI_s, iI_natc (k := h) (by omega), iI_natc (k := v) (by omega)]
      have ew : A (23 + 6) v = w := by rw [c2, ← a4]
      rw [ew]
      exact g1
  · rw [com_at (by rw [b1]; exact hr) (by omega) hv hi (by omega), iI_s]
    rcases hc with ⟨rfl, c1, c2⟩ | ⟨rfl, c1, c3, c2⟩
    · rw [if_pos (by rfl), f_X12_comesTo_J63, if_pos (by rfl), hib_t (n := 260) (by omega) (by omega) (by omega), if_pos rfl, iI_s, iI_natc (k := h) (by omega), ← c2]
      exact g2
    · rw [if_neg (by decide), if_pos (by rfl), f_X12_comesTo_J63, if_neg (by decide), hib_t (n := 8) (by omega) (by omega) (by omega), if_pos rfl, hib_t (n := 260) (by omega) (by omega) (by omega), if_pos rfl, iI_s, iI_natc (k := h) (by omega), iI_natc (k := v) (by omega), b2, ← e1 v c3, ← c2]
      exact g2
theorem sim_not {i g : Nat} {S : Nat → Int32} (hE : ENV sg fc gc sz off to P) (hi : i < to) (hh : g < 32) (hr : rc i = iI ((1048576 * 10 + 0 : Nat) : Int)) (hc : sg (i + off) = 3) (hS : SIM sg wt rc fc gc sz off to N P (i + 1) (i + 1) (g + 1) (upd S g (1 - S g))) : SIM sg wt rc fc gc sz off to N P i i (g + 1) S := by
  intro A B k k' ct a1 a2 a3 a4 b1 b2 hs hk hk' hct
  obtain ⟨e1, e2, e3, e4, e5⟩ := hE
  obtain ⟨k, rfl⟩ : ∃ q, k = q + 1 := ⟨k - 1, by omega⟩
  obtain ⟨k', rfl⟩ : ∃ q, k' = q + 1 := ⟨k' - 1, by omega⟩
  have y1 : ¬ iI ((g + 1 : Nat) : Int) < 1 := nlt_i (b := 1) (by omega) (by omega) (by omega)
  have y2 : iI ((g + 1 : Nat) : Int) ≤ 32 := le_i (b := 32) (by omega) (by omega) (by omega)
  obtain ⟨r, A', B', g1, g2, g3, g4, g5⟩ := hS (hset A 30 g (1 - S g)) (hset B 96 g (1 - S g)) k k' (ct + 1) (by rw [hset_nek _ _ _ (by decide)]; exact a1) (by rw [hset_nek _ _ _ (by decide)]; exact a2) (by rw [hset_nek _ _ _ (by decide)]; exact a3) (by rw [hset_nek _ _ _ (by decide)]; exact a4) (by rw [hset_nek _ _ _ (by decide)]; exact b1) (by rw [hset_nek _ _ _ (by decide)]; exact b2) (fun j hj => by
    by_cases q : j = g
    · subst q; rw [hset_self, hset_self, upd_self]; exact ⟨rfl, rfl⟩
    · rw [hset_nej _ _ q, hset_nej _ _ q, upd_ne _ _ q]; exact hs j (by omega)) (by omega) (by omega) (by omega)
  rw [show i + 1 + off = i + off + 1 by omega] at g1
  refine ⟨r, A', B', ?_, ?_, fun q hq => by rw [g3 q hq, hset_nek _ _ _ hq], fun q hq => by rw [g4 q hq, hset_nek _ _ _ hq], g5⟩
  · rw [run_at a1 a2 a3 e2 (by omega) hct, hc, if_neg (by decide), if_neg (by decide), if_neg (by decide), if_neg y1, if_pos y2, iI_pr, hib_t (n := 32) (by omega) (by omega) (by omega), if_pos rfl, if_pos rfl, if_pos rfl, iI_s, iI_s, iI_natc (k := g) (by omega), (hs g (by omega)).1]
    exact g1
  · rw [com_at (by rw [b1]; exact hr) (by omega) (by omega) hi (by omega), if_neg (by decide), if_neg (by decide), if_pos (by rfl), iI_pr, hib_t (n := 260) (by omega) (by omega) (by omega), if_pos rfl, if_pos rfl, iI_s, iI_natc (k := g) (by omega), (hs g (by omega)).2]
    exact g2
def opS (o : Nat) : Int := if o = 2 then 43 else if o = 3 then 45 else if o = 4 then 42 else if o = 5 then 47 else if o = 6 then 37 else if o = 7 then 60 else if o = 8 then 62 else 61
theorem cmb_eq {o : Nat} (a b : Int32) (h1 : 2 ≤ o) (h2 : o ≤ 9) (hd : ¬ ((o = 5 ∨ o = 6) ∧ b = 0)) : ∃ v, f_X5_combined (iI (opS o)) a b = some v ∧ f_X12_reckon (iI (o : Int)) a b = some v ∧ (7 ≤ o → v = 0 ∨ v = 1) := by
  rcases (show o = 2 ∨ o = 3 ∨ o = 4 ∨ o = 5 ∨ o = 6 ∨ o = 7 ∨ o = 8 ∨ o = 9 by omega) with rfl | rfl | rfl | rfl | rfl | rfl | rfl | rfl
  · exact ⟨a + b, rfl, rfl, fun h => absurd h (by decide)⟩
  · exact ⟨a - b, rfl, rfl, fun h => absurd h (by decide)⟩
  · exact ⟨a * b, rfl, rfl, fun h => absurd h (by decide)⟩
  · have hb : ¬ b = 0 := fun e => hd ⟨Or.inl rfl, e⟩
    refine ⟨a / b, ?_, ?_, fun h => absurd h (by decide)⟩
    · show (if b = 0 then some 0 else if b = 0 then none else some (a / b)) = _
      rw [if_neg hb, if_neg hb]
    · show (if b = 0 then none else some (a / b)) = _
      rw [if_neg hb]
  · have hb : ¬ b = 0 := fun e => hd ⟨Or.inr rfl, e⟩
    refine ⟨a - a / b * b, ?_, ?_, fun h => absurd h (by decide)⟩
    · show (if b = 0 then some 0 else if b = 0 then none else some (a - a / b * b)) = _
      rw [if_neg hb, if_neg hb]
    · show (if b = 0 then none else some (a - a / b * b)) = _
      rw [if_neg hb]
  · by_cases q : b ≤ a
    · exact ⟨0, show (if b ≤ a then some 0 else some 1) = _ from if_pos q, show (if b ≤ a then some 0 else some 1) = _ from if_pos q, fun _ => Or.inl rfl⟩
    · exact ⟨1, show (if b ≤ a then some 0 else some 1) = _ from if_neg q, show (if b ≤ a then some 0 else some 1) = _ from if_neg q, fun _ => Or.inr rfl⟩
  · by_cases q : a ≤ b
    · exact ⟨0, show (if a ≤ b then some 0 else some 1) = _ from if_pos q, show (if a ≤ b then some 0 else some 1) = _ from if_pos q, fun _ => Or.inl rfl⟩
    · exact ⟨1, show (if a ≤ b then some 0 else some 1) = _ from if_neg q, show (if a ≤ b then some 0 else some 1) = _ from if_neg q, fun _ => Or.inr rfl⟩
  · by_cases q : a = b
    · exact ⟨1, show (if a = b then some 1 else some 0) = _ from if_pos q, show (if a = b then some 1 else some 0) = _ from if_pos q, fun _ => Or.inr rfl⟩
    · exact ⟨0, show (if a = b then some 1 else some 0) = _ from if_neg q, show (if a = b then some 1 else some 0) = _ from if_neg q, fun _ => Or.inl rfl⟩
theorem opS_no {o : Nat} (h1 : 2 ≤ o) (h2 : o ≤ 9) : ¬ iI (opS o) = 0 ∧ ¬ iI (opS o) = 1 ∧ ¬ iI (opS o) = 2 ∧ ¬ iI (opS o) = 3 ∧ ¬ iI (opS o) = 4 ∧ ¬ iI (opS o) = 5 ∧ (iI (opS o) = 47 ↔ o = 5) ∧ (iI (opS o) = 37 ↔ o = 6) := by
  rcases (show o = 2 ∨ o = 3 ∨ o = 4 ∨ o = 5 ∨ o = 6 ∨ o = 7 ∨ o = 8 ∨ o = 9 by omega) with rfl | rfl | rfl | rfl | rfl | rfl | rfl | rfl <;> decide
theorem sim_bin {i g o : Nat} {S : Nat → Int32} (hE : ENV sg fc gc sz off to P) (hi : i < to) (hh : g + 1 < 32) (h1 : 2 ≤ o) (h2 : o ≤ 9) (hr : rc i = iI ((1048576 * o + 0 : Nat) : Int)) (hc : sg (i + off) = iI (opS o)) (hS : ∀ v, (7 ≤ o → v = 0 ∨ v = 1) → SIM sg wt rc fc gc sz off to N P (i + 1) (i + 1) (g + 1) (upd S g v)) : SIM sg wt rc fc gc sz off to N P i i (g + 2) S := by
  intro A B k k' ct a1 a2 a3 a4 b1 b2 hs hk hk' hct
  obtain ⟨e1, e2, e3, e4, e5⟩ := hE
  obtain ⟨k, rfl⟩ : ∃ q, k = q + 1 := ⟨k - 1, by omega⟩
  obtain ⟨k', rfl⟩ : ∃ q, k' = q + 1 := ⟨k' - 1, by omega⟩
  obtain ⟨n0, n1, n2, n3, n4, n5, n6, n7⟩ := opS_no h1 h2
  have y1 : ¬ iI ((g + 2 : Nat) : Int) < 1 := nlt_i (b := 1) (by omega) (by omega) (by omega)
  have y2 : iI ((g + 2 : Nat) : Int) ≤ 32 := le_i (b := 32) (by omega) (by omega) (by omega)
  have y3 : ¬ iI ((g + 2 : Nat) : Int) < 2 := nlt_i (b := 2) (by omega) (by omega) (by omega)
  have p1 : iI ((g + 2 : Nat) : Int) - 1 = iI ((g + 1 : Nat) : Int) := iI_pr (g + 1)
  have p2 : iI ((g + 2 : Nat) : Int) + (-1) = iI ((g + 1 : Nat) : Int) := iI_pm (g + 1)
  have m0 : ¬ iI (o : Int) = 0 := ne_i (b := 0) (by omega) (by omega) (by omega) (by omega) (by omega)
  have m1 : ¬ iI (o : Int) = 1 := ne_i (b := 1) (by omega) (by omega) (by omega) (by omega) (by omega)
  have m10 : ¬ iI (o : Int) = 10 := ne_i (b := 10) (by omega) (by omega) (by omega) (by omega) (by omega)
  have m11 : ¬ iI (o : Int) = 11 := ne_i (b := 11) (by omega) (by omega) (by omega) (by omega) (by omega)
  have m12 : ¬ iI (o : Int) = 12 := ne_i (b := 12) (by omega) (by omega) (by omega) (by omega) (by omega)
  have m5 : iI (o : Int) = 5 ↔ o = 5 := (iI_eq (b := 5) (by omega) (by omega) (by omega) (by omega)).trans (by omega)
  have m6 : iI (o : Int) = 6 ↔ o = 6 := (iI_eq (b := 6) (by omega) (by omega) (by omega) (by omega)).trans (by omega)
  have c1 := run_at (k := k) (h := g + 2) (N := N) a1 a2 a3 e2 (show i + off < sz by omega) hct
  rw [hc, if_neg n0, if_neg n1, if_neg n2, if_neg y1, if_pos y2, p1, hib_t (n := 32) (by omega) (by omega) (by omega), if_pos rfl, if_neg n3, if_neg n4, f_X5_run_J165, if_neg n5, f_X5_run_J182, if_neg n4, if_neg n5, if_neg y3, iI_natc (k := g + 1) (by omega), (hs (g + 1) (by omega)).1] at c1
  have c2 := com_at (N := N) (k := k') (h := g + 2) (B := B) (by rw [b1]; exact hr) (by omega) (by omega) hi (by omega)
  rw [if_neg m0, if_neg m1, if_neg m10, if_neg m11, if_neg m12, p1, hib_t (n := 260) (by omega) (by omega) (by omega), if_pos rfl, iI_natc (k := g + 1) (by omega), (hs (g + 1) (by omega)).2] at c2
  by_cases hd : (o = 5 ∨ o = 6) ∧ S (g + 1) = 0
  · refine ⟨0, A, B, ?_, ?_, fun _ _ => rfl, fun _ _ => rfl, e5⟩
    · rw [c1, if_pos hd.2]
      rcases hd.1 with q | q
      · rw [if_pos (n6.mpr q)]
      · rw [if_neg (fun e => by have := n6.mp e; omega), if_pos (n7.mpr q)]
    · rw [c2]
      rcases hd.1 with q | q
      · rw [if_pos (m5.mpr q), if_pos hd.2]
      · rw [if_neg (fun e => by have := m5.mp e; omega), if_pos (m6.mpr q), if_pos hd.2]
  · obtain ⟨v, v1, v2, v3⟩ := cmb_eq (S g) (S (g + 1)) h1 h2 hd
    obtain ⟨r, A', B', g1, g2, g3, g4, g5⟩ := hS v v3 (hset A 30 g v) (hset B 96 g v) k k' (ct + 1) (by rw [hset_nek _ _ _ (by decide)]; exact a1) (by rw [hset_nek _ _ _ (by decide)]; exact a2) (by rw [hset_nek _ _ _ (by decide)]; exact a3) (by rw [hset_nek _ _ _ (by decide)]; exact a4) (by rw [hset_nek _ _ _ (by decide)]; exact b1) (by rw [hset_nek _ _ _ (by decide)]; exact b2) (fun j hj => by
      by_cases q : j = g
      · subst q; rw [hset_self, hset_self, upd_self]; exact ⟨rfl, rfl⟩
      · rw [hset_nej _ _ q, hset_nej _ _ q, upd_ne _ _ q]; exact hs j (by omega)) (by omega) (by omega) (by omega)
    rw [show i + 1 + off = i + off + 1 by omega] at g1
    have k1 : f_X5_run_J226 N (f_X5_run_L7 N 23 k) 23 (iI ((g + 2 : Nat) : Int)) (iI ((i + off : Nat) : Int) + 1) (iI ct) (iI (opS o)) (S (g + 1)) A = some (r, A') := by
      rw [f_X5_run_J226, p2, iI_pr, hib_t (n := 32) (by omega) (by omega) (by omega), if_pos rfl, iI_natc (k := g) (by omega)]
      have ea : A (23 + 7) g = S g := (hs g (by omega)).1
      rw [ea, v1, hb1_some, if_pos rfl, iI_s, iI_s]
      exact g1
    have k2 : f_X12_comesTo_J203 N (f_X12_comesTo_L16 N (iI to) 0 k') (iI to) (iI ((g + 1 : Nat) : Int)) 0 (iI (i : Int) + 1) (iI o) B = some (r, B') := by
      rw [f_X12_comesTo_J203, iI_pr, hib_t (z := (g : Int)) (n := 260) (by omega) (by omega) (by omega), if_pos rfl, hib_t (z := ((g + 1 : Nat) : Int)) (n := 260) (by omega) (by omega) (by omega), if_pos rfl, iI_natc (k := g) (by omega), iI_natc (k := g + 1) (by omega), (hs g (by omega)).2, (hs (g + 1) (by omega)).2, v2, hb1_some, if_pos rfl, iI_s]
      exact g2
    refine ⟨r, A', B', ?_, ?_, fun q hq => by rw [g3 q hq, hset_nek _ _ _ hq], fun q hq => by rw [g4 q hq, hset_nek _ _ _ hq], g5⟩
    · rw [c1]
      by_cases z : S (g + 1) = 0
      · rw [if_pos z, if_neg (fun e => hd ⟨Or.inl (n6.mp e), z⟩), if_neg (fun e => hd ⟨Or.inr (n7.mp e), z⟩)]
        exact k1
      · rw [if_neg z]
        exact k1
    · rw [c2]
      by_cases z : S (g + 1) = 0
      · rw [if_neg (fun e => hd ⟨Or.inl (m5.mp e), z⟩), if_neg (fun e => hd ⟨Or.inr (m6.mp e), z⟩)]
        exact k2
      · rw [if_neg z, ite_self, ite_self]
        exact k2
/-- a jump: a = 4 (AND, o = 11, by 0) or a = 5 (OR, o = 12, by 1) -/
theorem sim_jmp {i g o t T : Nat} {S : Nat → Int32} (hE : ENV sg fc gc sz off to P) (hi : i < to) (hh : g < 32) (ho : o = 11 ∨ o = 12) (hS0 : S g = 0 ∨ S g = 1) (hr : rc i = iI ((1048576 * o + t : Nat) : Int)) (hc : sg (i + off) = iI ((o - 7 : Nat) : Int)) (hw : wt (i + off) = iI ((T + off : Nat) : Int)) (hT : i < T) (hT2 : T ≤ to) (ht : i < t) (ht2 : t ≤ to) (hS : S g = iI ((o - 11 : Nat) : Int) → SIM sg wt rc fc gc sz off to N P T t (g + 1) S) (hS2 : ¬ S g = iI ((o - 11 : Nat) : Int) → SIM sg wt rc fc gc sz off to N P (i + 1) (i + 1) g S) : SIM sg wt rc fc gc sz off to N P i i (g + 1) S := by
  intro A B k k' ct a1 a2 a3 a4 b1 b2 hs hk hk' hct
  obtain ⟨e1, e2, e3, e4, e5⟩ := hE
  obtain ⟨k, rfl⟩ : ∃ q, k = q + 1 := ⟨k - 1, by omega⟩
  obtain ⟨k', rfl⟩ : ∃ q, k' = q + 1 := ⟨k' - 1, by omega⟩
  have y1 : ¬ iI ((g + 1 : Nat) : Int) < 1 := nlt_i (b := 1) (by omega) (by omega) (by omega)
  have y2 : iI ((g + 1 : Nat) : Int) ≤ 32 := le_i (b := 32) (by omega) (by omega) (by omega)
  have s0 : 0 + iI (t : Int) = iI (t : Int) := by rw [q0, iI_add]; congr 1; omega
  have c1 := run_at (k := k) (h := g + 1) (N := N) a1 a2 a3 e2 (show i + off < sz by omega) hct
  rw [hc, hw, if_neg y1, if_pos y2, iI_pr, hib_t (n := 32) (by omega) (by omega) (by omega), if_pos rfl, iI_natc (k := g) (by omega), (hs g (by omega)).1] at c1
  have c2 := com_at (N := N) (k := k') (h := g + 1) (B := B) (by rw [b1]; exact hr) (by omega) (by omega) hi (by omega)
  rcases ho with rfl | rfl
  · rw [if_neg (by decide), if_neg (by decide), if_neg (by decide), if_neg (by decide), if_pos (by rfl)] at c1
    rw [if_neg (by decide), if_neg (by decide), if_neg (by decide), if_pos (by rfl), f_X12_comesTo_J135, iI_pr, hib_t (n := 260) (by omega) (by omega) (by omega), if_pos rfl, if_neg (by decide), f_X12_comesTo_J155, iI_natc (k := g) (by omega), (hs g (by omega)).2, s0, iI_pr] at c2
    by_cases z : S g = 0
    · obtain ⟨r, A', B', g1, g2, g3, g4, g5⟩ := hS z A B k k' (ct + 1) a1 a2 a3 a4 b1 b2 hs (by omega) (by omega) (by omega)
      exact ⟨r, A', B', by rw [c1, if_pos z, iI_s]; exact g1, by rw [c2, if_pos z]; exact g2, g3, g4, g5⟩
    · obtain ⟨r, A', B', g1, g2, g3, g4, g5⟩ := hS2 z A B k k' (ct + 1) a1 a2 a3 a4 b1 b2 (fun j hj => hs j (by omega)) (by omega) (by omega) (by omega)
      rw [show i + 1 + off = i + off + 1 by omega] at g1
      refine ⟨r, A', B', ?_, by rw [c2, if_neg z, iI_s]; exact g2, g3, g4, g5⟩
      rw [c1, if_neg z, f_X5_run_J165, if_neg (by decide), f_X5_run_J182, if_pos (by rfl), iI_pm, iI_s, iI_s]
      exact g1
  · rw [if_neg (by decide), if_neg (by decide), if_neg (by decide), if_neg (by decide), if_neg (by decide), f_X5_run_J165, if_pos (by rfl)] at c1
    rw [if_neg (by decide), if_neg (by decide), if_neg (by decide), if_neg (by decide), if_pos (by rfl), f_X12_comesTo_J135, iI_pr, hib_t (n := 260) (by omega) (by omega) (by omega), if_pos rfl, if_pos (by rfl), f_X12_comesTo_J155, iI_natc (k := g) (by omega), (hs g (by omega)).2, s0, iI_pr] at c2
    by_cases z : S g = 1
    · obtain ⟨r, A', B', g1, g2, g3, g4, g5⟩ := hS z A B k k' (ct + 1) a1 a2 a3 a4 b1 b2 hs (by omega) (by omega) (by omega)
      exact ⟨r, A', B', by rw [c1, if_neg (by rw [z]; decide), iI_s]; exact g1, by rw [c2, if_pos z]; exact g2, g3, g4, g5⟩
    · have z0 : S g = 0 := by rcases hS0 with h | h; exact h; exact absurd h z
      obtain ⟨r, A', B', g1, g2, g3, g4, g5⟩ := hS2 z A B k k' (ct + 1) a1 a2 a3 a4 b1 b2 (fun j hj => hs j (by omega)) (by omega) (by omega) (by omega)
      rw [show i + 1 + off = i + off + 1 by omega] at g1
      exact ⟨r, A', B', by rw [c1, if_pos z0, f_X5_run_J182, if_neg (by decide), if_pos (by rfl), iI_pm, iI_s, iI_s]; exact g1, by rw [c2, if_neg z, iI_s]; exact g2, g3, g4, g5⟩
/-- the reference's jump alone -/
theorem sim_jmpR {i g o t T : Nat} {S : Nat → Int32} (hE : ENV sg fc gc sz off to P) (hi : i < to) (hh : g < 32) (ho : o = 11 ∨ o = 12) (hS0 : S g = iI ((o - 11 : Nat) : Int)) (hr : rc i = iI ((1048576 * o + t : Nat) : Int)) (ht : i < t) (ht2 : t ≤ to) (hS : SIM sg wt rc fc gc sz off to N P T t (g + 1) S) : SIM sg wt rc fc gc sz off to N P T i (g + 1) S := by
  intro A B k k' ct a1 a2 a3 a4 b1 b2 hs hk hk' hct
  obtain ⟨e1, e2, e3, e4, e5⟩ := hE
  obtain ⟨k', rfl⟩ : ∃ q, k' = q + 1 := ⟨k' - 1, by omega⟩
  have s0 : 0 + iI (t : Int) = iI (t : Int) := by rw [q0, iI_add]; congr 1; omega
  obtain ⟨r, A', B', g1, g2, g3, g4, g5⟩ := hS A B k k' ct a1 a2 a3 a4 b1 b2 hs hk (by omega) hct
  refine ⟨r, A', B', g1, ?_, g3, g4, g5⟩
  rw [com_at (by rw [b1]; exact hr) (by omega) (by omega) hi (by omega)]
  rcases ho with rfl | rfl
  · rw [if_neg (by decide), if_neg (by decide), if_neg (by decide), if_pos (by rfl), f_X12_comesTo_J135, iI_pr, hib_t (n := 260) (by omega) (by omega) (by omega), if_pos rfl, if_neg (by decide), f_X12_comesTo_J155, iI_natc (k := g) (by omega), (hs g (by omega)).2, s0, if_pos (show S g = 0 from hS0)]
    exact g2
  · rw [if_neg (by decide), if_neg (by decide), if_neg (by decide), if_neg (by decide), if_pos (by rfl), f_X12_comesTo_J135, iI_pr, hib_t (n := 260) (by omega) (by omega) (by omega), if_pos rfl, if_pos (by rfl), f_X12_comesTo_J155, iI_natc (k := g) (by omega), (hs g (by omega)).2, s0, if_pos (show S g = 1 from hS0)]
    exact g2
end

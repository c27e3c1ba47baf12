/-! tried -/
theorem far_cgL {n : Nat} {B B' : HMem} {v : Int32} (e : B' 75 = B 75) : ∀ (k : Nat) (b i : Int32), f_X12_faring_L4 n v B' k b i = f_X12_faring_L4 n v B k b i := by
  intro k
  induction k with
  | zero => intro b i; rfl
  | succ k ih =>
    intro b i
    rw [f_X12_faring_L4, f_X12_faring_L4, isH_cg e, e]
    simp only [ih]
theorem far_eq {o N : Nat} {A B : HMem} {v : Int} (ho : o = 35 ∨ o = 45) (hQ : PQ o A B) (v1 : 0 ≤ v) (v2 : v ≤ 2) : f_X12_faring N (iI v) B = f_X8_bitsOf N o (iI v) A := by
  have h := faring_eq (n := N) (v := v) ((PQ_iff ho A B).mpr hQ) v1 v2
  have e1 : f_X12_faring N (iI v) (jn A B) = f_X12_faring N (iI v) B := far_cgL (B := B) (B' := jn A B) rfl N 0 0
  have e2 : f_X8_bitsOf N o (iI v) (jn A B) = f_X8_bitsOf N o (iI v) A := by
    rcases ho with rfl | rfl
    · exact bitsOf_cg rfl
    · exact bitsOf_cg rfl
  rw [← e1, h, e2]
/-- the reference's row, put aside and brought back -/
def asd (M : HMem) : HMem := hput M 76 (fun j => if j < 32 then M 75 j else M 76 j)
def bck (M : HMem) : HMem := hput M 75 (fun j => if j < 32 then M 76 j else M 75 j)
theorem asd_eq {N : Nat} (hN : 300 ≤ N) (M : HMem) : f_X12_copies N 75 32 76 32 M = some (asd M) := copies_eq (by decide) (by omega) M
theorem bck_eq {N : Nat} (hN : 300 ≤ N) (M : HMem) : f_X12_copies N 76 32 75 32 M = some (bck M) := copies_eq (by decide) (by omega) M
/-- the trial begins -/
theorem trial_PQ {M X : HMem} (hP : PR 35 75 M) (e : X 75 = M 75) : PQ 45 (f_X8_copyFrom 45 35 M) (asd X) := by
  obtain ⟨c1, c2, c3, c4⟩ := copyFrom_spec (o0 := 45) (o1 := 35) (Or.inr (Or.inr rfl)) (Or.inl rfl) (by decide) M
  have b : asd X 75 = M 75 := by rw [asd, hput_ne _ _ (by decide), e]
  refine (PQ_iff (Or.inr rfl) _ _).mp (hP.move c1 c2 (fun i i1 i2 j hj => by rw [jn, if_pos (by omega)]; exact c3 i i1 i2 j hj) (fun j hj => ?_))
  show asd X 75 j = M 75 j
  rw [b]
/-- and ends -/
theorem trial_end {M A' B' : HMem} (hP : PR 35 75 M) (hA : FA 45 (f_X8_copyFrom 45 35 M) A') (hB : FR (asd A') B') : PR 35 75 (bck B') ∧ oth 6 M (bck B') := by
  obtain ⟨c1, c2, c3, c4⟩ := copyFrom_spec (o0 := 45) (o1 := 35) (Or.inr (Or.inr rfl)) (Or.inl rfl) (by decide) M
  have k1 : ∀ k, k ≠ 75 → bck B' k = B' k := fun k a => by rw [bck, hput_ne _ _ a]
  have k2 : ∀ k, k ≠ 76 → asd A' k = A' k := fun k a => by rw [asd, hput_ne _ _ a]
  have p : ∀ k j, 34 < k → k < 45 → bck B' k j = M k j := fun k j a b => by
    rw [k1 k (by omega), hB.1 k (by omega) (by omega) (by omega) (by omega), k2 k (by omega), hA k (by omega) (by omega), c4 k j (by omega)]
  constructor
  · refine hP.move (p 35 4 (by omega) (by omega)) (p 35 5 (by omega) (by omega)) (fun i i1 i2 j hj => p (35 + i) j (by omega) (by omega)) (fun j hj => ?_)
    rw [bck, hput_self, if_pos hj, hB.1 76 (by decide) (by decide) (by decide) (by decide), asd, hput_self, if_pos hj, hA 75 (by omega) (by omega), c4 75 j (by omega)]
  · intro k j a b
    have h75 : k ≠ 75 := fun e => by subst e; exact b rfl
    have h76 : k ≠ 76 := fun e => by subst e; exact a rfl
    have h45 : ¬ (45 ≤ k ∧ k ≤ 49) := fun q => by
      rcases (show k = 45 ∨ k = 46 ∨ k = 47 ∨ k = 48 ∨ k = 49 by omega) with rfl | rfl | rfl | rfl | rfl
      all_goals exact a rfl
    rw [k1 k h75, hB.g k j a b, k2 k h76, hA.g (Or.inr rfl) k j a b, c4 k j (by omega)]
theorem trial_sta {M A' : HMem} (hA : FA 45 (f_X8_copyFrom 45 35 M) A') : sta M (f_X8_copyFrom 45 35 M) ∧ sta M (asd A') ∧ A' 75 = M 75 := by
  obtain ⟨c1, c2, c3, c4⟩ := copyFrom_spec (o0 := 45) (o1 := 35) (Or.inr (Or.inr rfl)) (Or.inl rfl) (by decide) M
  have s1 : sta M (f_X8_copyFrom 45 35 M) := fun k j a b => by
    have h45 : ¬ (45 ≤ k ∧ k ≤ 49) := fun q => by
      rcases (show k = 45 ∨ k = 46 ∨ k = 47 ∨ k = 48 ∨ k = 49 by omega) with rfl | rfl | rfl | rfl | rfl
      all_goals exact absurd (show 2 ≤ 0 from a) (by decide)
    exact c4 k j (by omega)
  refine ⟨s1, fun k j a b => ?_, ?_⟩
  · have h76 : k ≠ 76 := fun e => by subst e; exact absurd (show 2 ≤ 0 from a) (by decide)
    rw [asd, hput_ne _ _ h76, hA.g (Or.inr rfl) k j (by omega) (by omega), s1 k j a b]
  · rw [hA 75 (by omega) (by omega)]
    funext j
    exact c4 75 j (by omega)
theorem div10 {w : Nat} (hw : w < 1000) : iI (w : Int) / 10 = iI ((w / 10 : Nat) : Int) := by
  have h := pk_div (a := w) (d := 10) (by omega) (by decide) (by decide)
  rw [nI_iI, nI_iI, nI_iI] at h
  exact h
theorem tried_go {M : HMem} {N n : Nat} {w : Int} (hN : 300 ≤ N) (hn : n ≤ 100) (hFd : IFade M) (hLs : ILines M) (hD : ILand M) (hW : ILaw M) (hP : PR 35 75 M) (hE : ∀ A, ∃ x, f_X11_tried_J69 N (iI w) A = some (x, A)) (hR : ∀ A B x, PQ 45 A B → (∀ j, j < 6 → B 75 j = M 75 j) → f_X11_tried_J69 N (iI w) A = some (x, A) → (∀ Y : HMem, f_X12_momentsGo N (iI (n : Int)) (asd Y) = some B → f_X12_tried_J54 N (iI (n : Int)) (iI w) Y = some (x, bck B))) : ∃ r M1 M2, f_X11_tried_L34 N (iI (n : Int)) (iI w) N 0 (f_X8_copyFrom 45 35 M) = some (r, M1) ∧ f_X12_tried_J54 N (iI (n : Int)) (iI w) M1 = some (r, M2) ∧ PR 35 75 M2 ∧ oth 6 M M2 ∧ M1 75 = M 75 := by
  have ho : (45 : Nat) = 35 ∨ (45 : Nat) = 45 := Or.inr rfl
  have hL : ∀ k v A, f_X11_tried_L34 N (iI (n : Int)) (iI w) (k + 1) v A = if iI (n : Int) ≤ v then f_X11_tried_J69 N (iI w) A else if 9999 ≤ A 45 4 then f_X11_tried_J69 N (iI w) A else hb1 (f_X2_passMoment N 45 A) (fun A1 => f_X11_tried_L34 N (iI (n : Int)) (iI w) k (v + 1) A1) := fun _ _ _ => rfl
  have t0 := trial_sta (M := M) (FA_rf 45 _)
  obtain ⟨A', -, g1, -, g3, -, -⟩ := moms_J hN ho hFd hLs hD hW (n := n) hn _ _ hL N N 0 _ _ (by omega) (by omega) (by omega) t0.1 t0.2.1 (trial_PQ hP t0.2.2)
  obtain ⟨s1, s2, s3⟩ := trial_sta (M := M) g3
  obtain ⟨A2, B', u1, u2, u3, u4, u5⟩ := moms_J hN ho hFd hLs hD hW (n := n) hn _ _ hL N N 0 _ _ (by omega) (by omega) (by omega) s1 s2 (trial_PQ hP s3)
  obtain ⟨x, hx⟩ := hE A'
  obtain ⟨x', hx'⟩ := hE A2
  obtain rfl : A' = A2 := by
    have := g1.symm.trans u1
    rw [hx, hx'] at this
    injection this with this
    injection this
  obtain ⟨e1, e2⟩ := trial_end hP u3 u4
  refine ⟨x, A', bck B', g1.trans hx, hR A' B' x u5 (fun j hj => ?_) hx A' u2, e1, e2, s3⟩
  rw [u4.2.2 j hj, asd, hput_ne _ _ (by decide), s3]

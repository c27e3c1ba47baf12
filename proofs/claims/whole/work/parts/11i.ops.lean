/-! moments -/
theorem bits_all : ∀ w : Fin 64, f_X12_bits 9 (iI ((w : Nat) : Int)) = some (f_J6_bitCount_0f7a4 (iI ((w : Nat) : Int))) := by decide +kernel
theorem bits_mono {n n' d : Nat} {v r : Int32} : ∀ (k : Nat) (a b : Int32), f_X12_bits_L4 n v k a b = some r → f_X12_bits_L4 n' v (k + d) a b = some r := by
  intro k
  induction k with
  | zero => intro a b h; rw [f_X12_bits_L4] at h; exact absurd h (by simp)
  | succ k ih =>
    intro a b h
    rw [show k + 1 + d = (k + d) + 1 by omega, f_X12_bits_L4]
    rw [f_X12_bits_L4] at h
    split
    · next z => rw [if_pos z] at h; exact h
    · next z => rw [if_neg z] at h; exact ih _ _ h
theorem bits_eq {N w : Nat} (hN : 300 ≤ N) (hw : w < 64) : f_X12_bits N (iI (w : Int)) = some (f_J6_bitCount_0f7a4 (iI (w : Int))) := by
  obtain ⟨d, rfl⟩ : ∃ d, N = 9 + d := ⟨N - 9, by omega⟩
  exact bits_mono 9 0 0 (bits_all ⟨w, hw⟩)
theorem bitsOf_cgL {o n : Nat} {A A' : HMem} {v : Int32} (e4 : A' (o + 4) = A (o + 4)) : ∀ (k : Nat) (b i : Int32), f_X8_bitsOf_L4 n o v A' k b i = f_X8_bitsOf_L4 n o v A k b i := by
  intro k
  induction k with
  | zero => intro b i; rfl
  | succ k ih =>
    intro b i
    rw [f_X8_bitsOf_L4, f_X8_bitsOf_L4, e4]
    simp only [ih]
theorem bitsOf_cg {o n : Nat} {A A' : HMem} {v : Int32} (e4 : A' (o + 4) = A (o + 4)) : f_X8_bitsOf n o v A' = f_X8_bitsOf n o v A := bitsOf_cgL e4 n 0 0
theorem jn_eq {A B : HMem} (h : FR A B) : jn A B = B := by
  funext k
  by_cases hk : k < 74
  · rw [jn, if_pos hk, h.1 k (by omega) (by omega) (by omega) (by omega)]
  · rw [jn, if_neg hk]
theorem sta_rf (M : HMem) : sta M M := fun _ _ _ _ => rfl
theorem op_moments (v : Int32) {N : Nat} (hN : 300 ≤ N) {M : HMem} (hFd : IFade M) (hLs : ILines M) (hD : ILand M) (hW : ILaw M) (hP : PR 35 75 M) : ∃ r M1 M2, f_X11_moments N v M = some (r, M1) ∧ f_X12_moments N v M1 = some (r, M2) ∧ PR 35 75 M2 ∧ oth 6 M M2 := by
  obtain ⟨z, z1, z2, rfl⟩ := iI_of v
  have i1 : f_X12_in (iI z) 1 100 = if 1 ≤ z ∧ z ≤ 100 then 1 else 0 := in_eq (a := 1) (m := 100) z1 z2 (by omega) (by omega) (by omega) (by omega)
  by_cases hz : 1 ≤ z ∧ z ≤ 100
  · obtain ⟨n, rfl⟩ : ∃ n : Nat, z = n := ⟨z.toNat, by omega⟩
    have ho : (35 : Nat) = 35 ∨ (35 : Nat) = 45 := Or.inl rfl
    let E : HMem → Option (Int32 × HMem) := fun A => hb1 (f_X8_bitsOf N 35 0 A) (fun x => some (f_J6_bitCount_0f7a4 x, A))
    have hL : ∀ k v A, f_X11_moments_L15 N (iI (n : Int)) (k + 1) v A = if iI (n : Int) ≤ v then E A else if 9999 ≤ A 35 4 then E A else hb1 (f_X2_passMoment N 35 A) (fun A1 => f_X11_moments_L15 N (iI (n : Int)) k (v + 1) A1) := fun _ _ _ => rfl
    have hE : ∀ A, ∃ w : Nat, w < 64 ∧ f_X8_bitsOf N 35 0 A = some (iI (w : Int)) ∧ E A = some (f_J6_bitCount_0f7a4 (iI (w : Int)), A) := fun A => by
      obtain ⟨w, w1, w2, -⟩ := bitsOf_eq (o := 35) (n := N) A 0 (by omega)
      exact ⟨w, w1, w2, by show hb1 (f_X8_bitsOf N 35 0 A) _ = _; rw [w2, hb1_some]⟩
    obtain ⟨A', -, g1, -, g3, -, -⟩ := moms_J hN ho hFd hLs hD hW (n := n) (by omega) _ E hL N N 0 M M (by omega) (by omega) (by omega) (sta_rf M) (sta_rf M) hP
    have sA : sta M A' := (sta_rf M).trans (fun k j a b => g3.g ho k j (by omega) (by omega))
    have hQ : PQ 35 M A' := by
      have e : A' 75 = M 75 := g3 75 (by omega) (by omega)
      refine ⟨?_, ?_, fun h hh => ?_⟩
      · rw [e]; exact hP.1
      · rw [e]; exact hP.2.1
      · unfold PH; rw [e]; exact hP.2.2 h hh
    obtain ⟨A2, B', u1, u2, u3, u4, u5⟩ := moms_J hN ho hFd hLs hD hW (n := n) (by omega) _ E hL N N 0 M A' (by omega) (by omega) (by omega) (sta_rf M) sA hQ
    obtain ⟨w, w1, w2, w3⟩ := hE A'
    obtain ⟨w', -, -, w3'⟩ := hE A2
    obtain rfl : A' = A2 := by
      have := g1.symm.trans u1
      rw [w3, w3'] at this
      injection this with this
      injection this
    have hj := jn_eq u4
    have hPB : PR 35 75 B' := by
      have := (PQ_iff ho A' B').mpr u5
      rw [hj] at this
      exact this
    refine ⟨f_J6_bitCount_0f7a4 (iI (w : Int)), A', B', ?_, ?_, hPB, fun k j a b => (u4.g k j a b).trans (g3.g ho k j a b)⟩
    · rw [f_X11_moments, if_neg (show ¬ iI (n : Int) < 1 from nlt_i (b := 1) (by omega) (by omega) (by omega)), if_pos (show iI (n : Int) ≤ 100 from le_i (b := 100) (by omega) (by omega) (by omega))]
      exact g1.trans w3
    · have fa : f_X12_faring N 0 B' = some (iI (w : Int)) := by
        rw [show f_X12_faring N 0 B' = _ from faring_eq (v := 0) hPB (by omega) (by omega), ← w2]
        exact bitsOf_cg (u4.1 39 (by decide) (by decide) (by decide) (by decide))
      rw [f_X12_moments, i1, if_pos hz, if_neg i10, show f_X12_momentsGo N (iI (n : Int)) A' = some B' from u2, hb1_some, fa, hb1_some, bits_eq hN w1, hb1_some]
  · refine ⟨-1, M, M, ?_, ?_, hP, oth_rf _ _⟩
    · rw [f_X11_moments]
      by_cases h : z < 1
      · rw [if_pos (show iI z < 1 from lt_i (b := 1) h (by omega) (by omega))]
      · rw [if_neg (show ¬ iI z < 1 from nlt_i (b := 1) (by omega) (by omega) (by omega)), if_neg (show ¬ iI z ≤ 100 from nl_i (b := 100) (by omega) (by omega) (by omega))]
    · rw [f_X12_moments, i1, if_neg hz, if_pos rfl]

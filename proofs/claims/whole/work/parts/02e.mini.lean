def hmax (x y : Int32) : Int32 := if x < y then y else x
def hmin (x y : Int32) : Int32 := if y < x then y else x
def habs (x : Int32) : Int32 := if 0 ≤ x then x else 0 - x
section GXMA
variable {I : HI} {d : Nat} {ρ : Type} {emb : ρ → Option HV × HMem} {E : Option ρ} {pc : Nat} {lv : List (Option HV)} {st : List HV} {M : HMem}
theorem gx_max {idx : Nat} {x y : Int32} (w1 : Cond.methodLink I.1.cls idx Lib.Math.max.name ∈ lw_tbl) (w2 : Cond.static Lib.Math.max.name ∈ lw_tbl) (w3 : Cond.initialized "java/lang/Math" ∈ lw_tbl) (w4 : Cond.code Lib.Math.max.name Lib.Math.max.code 2 (some .int) ∈ lw_tbl) (hd0 : 1 ≤ d) (h8 : st.length ≤ 8) (hd : decode I.2.1 pc = .ok (.invokestatic idx, 3)) (k : GX I d emb E (pc + 3) lv (.inl (hmax x y) :: st) M) : GX I d emb E pc lv (.inl y :: .inl x :: st) M := fun v hv p l e s m args below meth c al cs dC dI H locs ls C hP hS hl =>
  have hg := C.2.2.2.2.2.2.1
  va_mmax C.1 C.2.1 (by rw [C.2.2.1]; exact hl.1.symm) C.2.2.2.1 (hg.use w1 rfl) (hg.use w2 rfl) (hg.use w3 rfl) (hg.use w4 rfl) hd0 (by rw [hcat]; show st.length + 13 ≤ 40 * d; omega) (Nat.le_refl _) (Nat.le_refl _) hd (k v hv p l e s m args below meth c al cs dC dI H locs ls C hP hS hl)
theorem gx_min {idx : Nat} {x y : Int32} (w1 : Cond.methodLink I.1.cls idx Lib.Math.min.name ∈ lw_tbl) (w2 : Cond.static Lib.Math.min.name ∈ lw_tbl) (w3 : Cond.initialized "java/lang/Math" ∈ lw_tbl) (w4 : Cond.code Lib.Math.min.name Lib.Math.min.code 2 (some .int) ∈ lw_tbl) (hd0 : 1 ≤ d) (h8 : st.length ≤ 8) (hd : decode I.2.1 pc = .ok (.invokestatic idx, 3)) (k : GX I d emb E (pc + 3) lv (.inl (hmin x y) :: st) M) : GX I d emb E pc lv (.inl y :: .inl x :: st) M := fun v hv p l e s m args below meth c al cs dC dI H locs ls C hP hS hl =>
  have hg := C.2.2.2.2.2.2.1
  va_mmin C.1 C.2.1 (by rw [C.2.2.1]; exact hl.1.symm) C.2.2.2.1 (hg.use w1 rfl) (hg.use w2 rfl) (hg.use w3 rfl) (hg.use w4 rfl) hd0 (by rw [hcat]; show st.length + 13 ≤ 40 * d; omega) (Nat.le_refl _) (Nat.le_refl _) hd (k v hv p l e s m args below meth c al cs dC dI H locs ls C hP hS hl)
theorem gx_abs {idx : Nat} {x : Int32} (w1 : Cond.methodLink I.1.cls idx Lib.Math.abs.name ∈ lw_tbl) (w2 : Cond.static Lib.Math.abs.name ∈ lw_tbl) (w3 : Cond.initialized "java/lang/Math" ∈ lw_tbl) (w4 : Cond.code Lib.Math.abs.name Lib.Math.abs.code 1 (some .int) ∈ lw_tbl) (hd0 : 1 ≤ d) (h8 : st.length ≤ 8) (hd : decode I.2.1 pc = .ok (.invokestatic idx, 3)) (k : GX I d emb E (pc + 3) lv (.inl (habs x) :: st) M) : GX I d emb E pc lv (.inl x :: st) M := fun v hv p l e s m args below meth c al cs dC dI H locs ls C hP hS hl =>
  have hg := C.2.2.2.2.2.2.1
  va_mabs C.1 C.2.1 (by rw [C.2.2.1]; exact hl.1.symm) C.2.2.2.1 (hg.use w1 rfl) (hg.use w2 rfl) (hg.use w3 rfl) (hg.use w4 rfl) hd0 (by rw [hcat]; show st.length + 13 ≤ 40 * d; omega) (Nat.le_refl _) (Nat.le_refl _) hd (k v hv p l e s m args below meth c al cs dC dI H locs ls C hP hS hl)
end GXMA

section GXM
variable {I : HI} {d : Nat} {ρ : Type} {emb : ρ → Option HV × HMem} {E E1 E2 : Option ρ} {pc : Nat} {lv : List (Option HV)} {st : List HV} {M : HMem}
theorem hmi {fs : List (Option Nat)} {al : Nat → Nat} {M : HMem} {k j : Nat} {x : Option Nat} (h : fs[j]? = some x) : (fs.mapIdx (hfld al M k))[j]? = some (hfld al M k j x) := by
  rw [List.getElem?_mapIdx, h]; rfl
theorem gx_getI {idx ci j k : Nat} {fs : List (Option Nat)} (fl : FL I.1.cls idx ci j) (he : hshp[k]? = some (.inl (ci, fs))) (hf : fs[j]? = some none) (hd : decode I.2.1 pc = .ok (.getfield idx, 3)) (kk : GX I d emb E (pc + 3) lv (.inl (M k j) :: st) M) : GX I d emb E pc lv (.inr (some k) :: st) M := fun v hv p l e s m args below meth c al cs dC dI H locs ls C hP hS hl => by
  obtain ⟨⟨C0, T, N⟩, h1, h2, h3, h4, h5⟩ := fl
  have hts : ∀ w ∈ u_ws C0 T N, w.before args s = true := fun w hw => C.2.2.2.2.2.2.1.use (h4 w hw).1 (h4 w hw).2
  have hg := hpic_get (al := al) (cs := cs) (M := M) he
  rcases h5 with h5 | ⟨host, h5⟩
  · exact va_get (ref := C0) C.1 C.2.1 hts (fun _ h => h) C.2.2.2.1 C.2.2.2.2.2.2.2.1 hP k hg h1 j h2 (C.2.2.2.2.2.2.1.use h5 rfl) (fun _ h => by rw [show (T j).1 = C0 from h3] at h; exact h) (hmi hf) hd (kk v hv p l e s m args below meth c al cs dC dI H locs ls C hP hS hl)
  · exact va_getN (ref := C0) C.1 C.2.1 hts (fun _ h => h) C.2.2.2.1 C.2.2.2.2.2.2.2.1 hP k hg h1 j h2 (C.2.2.2.2.2.2.1.use h5 rfl) (fun _ h => by rw [show (T j).1 = C0 from h3] at h; exact h) (hmi hf) hd (kk v hv p l e s m args below meth c al cs dC dI H locs ls C hP hS hl)
theorem gx_getR {idx ci j k t : Nat} {fs : List (Option Nat)} (fl : FL I.1.cls idx ci j) (he : hshp[k]? = some (.inl (ci, fs))) (hf : fs[j]? = some (some t)) (hd : decode I.2.1 pc = .ok (.getfield idx, 3)) (kk : GX I d emb E (pc + 3) lv (.inr (some t) :: st) M) : GX I d emb E pc lv (.inr (some k) :: st) M := fun v hv p l e s m args below meth c al cs dC dI H locs ls C hP hS hl => by
  obtain ⟨⟨C0, T, N⟩, h1, h2, h3, h4, h5⟩ := fl
  have hts : ∀ w ∈ u_ws C0 T N, w.before args s = true := fun w hw => C.2.2.2.2.2.2.1.use (h4 w hw).1 (h4 w hw).2
  have hg := hpic_get (al := al) (cs := cs) (M := M) he
  rcases h5 with h5 | ⟨host, h5⟩
  · exact va_get (ref := C0) C.1 C.2.1 hts (fun _ h => h) C.2.2.2.1 C.2.2.2.2.2.2.2.1 hP k hg h1 j h2 (C.2.2.2.2.2.2.1.use h5 rfl) (fun _ h => by rw [show (T j).1 = C0 from h3] at h; exact h) (hmi hf) hd (kk v hv p l e s m args below meth c al cs dC dI H locs ls C hP hS hl)
  · exact va_getN (ref := C0) C.1 C.2.1 hts (fun _ h => h) C.2.2.2.1 C.2.2.2.2.2.2.2.1 hP k hg h1 j h2 (C.2.2.2.2.2.2.1.use h5 rfl) (fun _ h => by rw [show (T j).1 = C0 from h3] at h; exact h) (hmi hf) hd (kk v hv p l e s m args below meth c al cs dC dI H locs ls C hP hS hl)
theorem gx_putG {idx ci j k : Nat} {fs : List (Option Nat)} {ty : FieldType} {x : Int32} (fl : FL I.1.cls idx ci j) (fp : FP ci j ty) (he : hshp[k]? = some (.inl (ci, fs))) (hf : fs[j]? = some none) (hn : narrow ty (.int x) = .int x) (hfit : fits ty (.int x) = true) (hd : decode I.2.1 pc = .ok (.putfield idx, 3)) (kk : GX I d emb E (pc + 3) lv st (hset M k j x)) : GX I d emb E pc lv (.inl x :: .inr (some k) :: st) M := fun v hv p l e s m args below meth c al cs dC dI H locs ls C hP hS hl => by
  obtain ⟨⟨C0, T, N⟩, h1, h2, h3, h4, h5⟩ := fl
  obtain ⟨q, g1, ty0, g2, g3, g4, g5⟩ := fp
  cases h1.symm.trans g1
  have hts : ∀ w ∈ u_ws C0 T N, w.before args s = true := fun w hw => C.2.2.2.2.2.2.1.use (h4 w hw).1 (h4 w hw).2
  have hg := hpic_get (al := al) (cs := cs) (M := M) he
  have hlt : j < (fs.mapIdx (hfld al M k)).length := by rw [List.length_mapIdx]; exact (List.getElem?_eq_some_iff.mp hf).1
  have hcl : hcell al cs (hset M k j x) k (.inl (ci, fs)) = .inr (ci, (fs.mapIdx (hfld al M k)).set j (.int x)) := by
    rw [hfld_set hf]; rfl
  have hpc := hpic_put (al := al) (cs := cs) (M := M) (f := upd (M k) j x) he hcl
  rcases h5 with h5 | ⟨host, h5⟩
  · refine va_put (v := .int x) (ref := C0) C.1 C.2.1 hts (fun _ h => h) ty0 g2 g3 C.2.2.2.1 C.2.2.2.2.2.2.2.1 hP (hpic_D cs M C.2.2.2.2.2.2.2.2) hS k hg h1 j h2 (C.2.2.2.2.2.2.1.use h5 rfl) (fun _ h => by rw [show (T j).1 = C0 from h3] at h; exact h) g4 g5 hn hfit hlt hd (fun H1 locs1 hP1 _ hS1 => ?_)
    rw [hpc] at hP1
    exact kk v hv p l e s m args below meth c al cs dC dI H1 locs1 ls C hP1 hS1 hl
  · refine va_putN (v := .int x) (ref := C0) C.1 C.2.1 hts (fun _ h => h) ty0 g2 g3 C.2.2.2.1 C.2.2.2.2.2.2.2.1 hP (hpic_D cs M C.2.2.2.2.2.2.2.2) hS k hg h1 j h2 (C.2.2.2.2.2.2.1.use h5 rfl) (fun _ h => by rw [show (T j).1 = C0 from h3] at h; exact h) g4 g5 hn hfit hlt hd (fun H1 locs1 hP1 _ hS1 => ?_)
    rw [hpc] at hP1
    exact kk v hv p l e s m args below meth c al cs dC dI H1 locs1 ls C hP1 hS1 hl
theorem gx_putI {idx ci j k : Nat} {fs : List (Option Nat)} {x : Int32} (fl : FL I.1.cls idx ci j) (fp : FP ci j .int) (he : hshp[k]? = some (.inl (ci, fs))) (hf : fs[j]? = some none) (hd : decode I.2.1 pc = .ok (.putfield idx, 3)) (kk : GX I d emb E (pc + 3) lv st (hset M k j x)) : GX I d emb E pc lv (.inl x :: .inr (some k) :: st) M := gx_putG fl fp he hf rfl rfl hd kk
theorem gx_putZ {idx ci j k : Nat} {fs : List (Option Nat)} {x : Int32} (fl : FL I.1.cls idx ci j) (fp : FP ci j .boolean) (he : hshp[k]? = some (.inl (ci, fs))) (hf : fs[j]? = some none) (hz : x &&& 1 = x ∧ (x == 0 || x == 1) = true) (hd : decode I.2.1 pc = .ok (.putfield idx, 3)) (kk : GX I d emb E (pc + 3) lv st (hset M k j x)) : GX I d emb E pc lv (.inl x :: .inr (some k) :: st) M := gx_putG fl fp he hf (congrArg Value.int hz.1) hz.2 hd kk
-- arrays
theorem gx_ialoadL {k n j : Nat} {i : Int32} (he : hshp[k]? = some (.inr (.inl (0, n)))) (hi : hib i n = true) (hj : i.toNatClampNeg = j) (hd : decode I.2.1 pc = .ok (.iaload, 1)) (kk : GX I d emb E (pc + 1) lv (.inl (M k j) :: st) M) : GX I d emb E pc lv (.inl i :: .inr (some k) :: st) M := fun v hv p l e s m args below meth c al cs dC dI H locs ls C hP hS hl => by
  subst hj
  exact va_iald C.1 C.2.1 C.2.2.2.2.2.2.2.1 hP k 0 (hpic_get he) rfl (hib_in hi) hd (kk v hv p l e s m args below meth c al cs dC dI H locs ls C hP hS hl)
theorem gx_baloadL {k n j : Nat} {i : Int32} (he : hshp[k]? = some (.inr (.inl (1, n)))) (hi : hib i n = true) (hj : i.toNatClampNeg = j) (hd : decode I.2.1 pc = .ok (.baload, 1)) (kk : GX I d emb E (pc + 1) lv (.inl (M k j) :: st) M) : GX I d emb E pc lv (.inl i :: .inr (some k) :: st) M := fun v hv p l e s m args below meth c al cs dC dI H locs ls C hP hS hl => by
  subst hj
  exact va_bald C.1 C.2.1 C.2.2.2.2.2.2.2.1 hP k 1 (hpic_get he) rfl (hib_in hi) hd (kk v hv p l e s m args below meth c al cs dC dI H locs ls C hP hS hl)
theorem gx_zaloadL {k n j : Nat} {i : Int32} (he : hshp[k]? = some (.inr (.inl (2, n)))) (hi : hib i n = true) (hj : i.toNatClampNeg = j) (hd : decode I.2.1 pc = .ok (.baload, 1)) (kk : GX I d emb E (pc + 1) lv (.inl (M k j) :: st) M) : GX I d emb E pc lv (.inl i :: .inr (some k) :: st) M := fun v hv p l e s m args below meth c al cs dC dI H locs ls C hP hS hl => by
  subst hj
  exact va_zald C.1 C.2.1 C.2.2.2.2.2.2.2.1 hP k 2 (hpic_get he) rfl (hib_in hi) hd (kk v hv p l e s m args below meth c al cs dC dI H locs ls C hP hS hl)
theorem gx_iastoreL {k n j : Nat} {i x : Int32} (he : hshp[k]? = some (.inr (.inl (0, n)))) (hi : hib i n = true) (hj : i.toNatClampNeg = j) (hd : decode I.2.1 pc = .ok (.iastore, 1)) (kk : GX I d emb E (pc + 1) lv st (hset M k j x)) : GX I d emb E pc lv (.inl x :: .inl i :: .inr (some k) :: st) M := fun v hv p l e s m args below meth c al cs dC dI H locs ls C hP hS hl => by
  subst hj
  refine va_iast C.1 C.2.1 C.2.2.2.2.2.2.2.1 hP (hpic_D cs M C.2.2.2.2.2.2.2.2) hS k 0 (hpic_get he) rfl (hib_in hi) hd (fun H1 locs1 hP1 _ hS1 => ?_)
  rw [hpic_put (f := upd (M k) i.toNatClampNeg x) he (by rw [hcell, hput_self])] at hP1
  exact kk v hv p l e s m args below meth c al cs dC dI H1 locs1 ls C hP1 hS1 hl
theorem gx_bastoreL {k n j : Nat} {i x : Int32} (he : hshp[k]? = some (.inr (.inl (1, n)))) (hi : hib i n = true) (hj : i.toNatClampNeg = j) (hd : decode I.2.1 pc = .ok (.bastore, 1)) (kk : GX I d emb E (pc + 1) lv st (hset M k j x.toInt8.toInt32)) : GX I d emb E pc lv (.inl x :: .inl i :: .inr (some k) :: st) M := fun v hv p l e s m args below meth c al cs dC dI H locs ls C hP hS hl => by
  subst hj
  refine va_bast C.1 C.2.1 C.2.2.2.2.2.2.2.1 hP (hpic_D cs M C.2.2.2.2.2.2.2.2) hS k 1 (hpic_get he) rfl (hib_in hi) hd (fun H1 locs1 hP1 _ hS1 => ?_)
  rw [vp_nar_byte, hpic_put (f := upd (M k) i.toNatClampNeg x.toInt8.toInt32) he (by rw [hcell, hput_self])] at hP1
  exact kk v hv p l e s m args below meth c al cs dC dI H1 locs1 ls C hP1 hS1 hl
theorem gx_zastoreL {k n j : Nat} {i x : Int32} (he : hshp[k]? = some (.inr (.inl (2, n)))) (hi : hib i n = true) (hj : i.toNatClampNeg = j) (hd : decode I.2.1 pc = .ok (.bastore, 1)) (kk : GX I d emb E (pc + 1) lv st (hset M k j (x &&& 1))) : GX I d emb E pc lv (.inl x :: .inl i :: .inr (some k) :: st) M := fun v hv p l e s m args below meth c al cs dC dI H locs ls C hP hS hl => by
  subst hj
  refine va_zast C.1 C.2.1 C.2.2.2.2.2.2.2.1 hP (hpic_D cs M C.2.2.2.2.2.2.2.2) hS k 2 (hpic_get he) rfl (hib_in hi) hd (fun H1 locs1 hP1 _ hS1 => ?_)
  rw [show vp_nar .boolean x = x &&& 1 from rfl, hpic_put (f := upd (M k) i.toNatClampNeg (x &&& 1)) he (by rw [hcell, hput_self])] at hP1
  exact kk v hv p l e s m args below meth c al cs dC dI H1 locs1 ls C hP1 hS1 hl
theorem gx_grd {b : Bool} (k : b = true → GX I d emb E pc lv st M) : GX I d emb (if b then E else none) pc lv st M := by
  cases b
  · exact gx_none
  · exact k rfl

theorem gx_iaload {k n : Nat} {i : Int32} (he : hshp[k]? = some (.inr (.inl (0, n)))) (hd : decode I.2.1 pc = .ok (.iaload, 1)) (kk : GX I d emb E (pc + 1) lv (.inl (M k i.toNatClampNeg) :: st) M) : GX I d emb (if hib i n then E else none) pc lv (.inl i :: .inr (some k) :: st) M := gx_grd fun h => gx_ialoadL he h rfl hd kk
theorem gx_iastore {k n : Nat} {i x : Int32} (he : hshp[k]? = some (.inr (.inl (0, n)))) (hd : decode I.2.1 pc = .ok (.iastore, 1)) (kk : GX I d emb E (pc + 1) lv st (hset M k i.toNatClampNeg x)) : GX I d emb (if hib i n then E else none) pc lv (.inl x :: .inl i :: .inr (some k) :: st) M := gx_grd fun h => gx_iastoreL he h rfl hd kk
theorem gx_baload {k n : Nat} {i : Int32} (he : hshp[k]? = some (.inr (.inl (1, n)))) (hd : decode I.2.1 pc = .ok (.baload, 1)) (kk : GX I d emb E (pc + 1) lv (.inl (M k i.toNatClampNeg) :: st) M) : GX I d emb (if hib i n then E else none) pc lv (.inl i :: .inr (some k) :: st) M := gx_grd fun h => gx_baloadL he h rfl hd kk
theorem gx_bastore {k n : Nat} {i x : Int32} (he : hshp[k]? = some (.inr (.inl (1, n)))) (hd : decode I.2.1 pc = .ok (.bastore, 1)) (kk : GX I d emb E (pc + 1) lv st (hset M k i.toNatClampNeg x.toInt8.toInt32)) : GX I d emb (if hib i n then E else none) pc lv (.inl x :: .inl i :: .inr (some k) :: st) M := gx_grd fun h => gx_bastoreL he h rfl hd kk
theorem gx_zaload {k n : Nat} {i : Int32} (he : hshp[k]? = some (.inr (.inl (2, n)))) (hd : decode I.2.1 pc = .ok (.baload, 1)) (kk : GX I d emb E (pc + 1) lv (.inl (M k i.toNatClampNeg) :: st) M) : GX I d emb (if hib i n then E else none) pc lv (.inl i :: .inr (some k) :: st) M := gx_grd fun h => gx_zaloadL he h rfl hd kk
theorem gx_zastore {k n : Nat} {i x : Int32} (he : hshp[k]? = some (.inr (.inl (2, n)))) (hd : decode I.2.1 pc = .ok (.bastore, 1)) (kk : GX I d emb E (pc + 1) lv st (hset M k i.toNatClampNeg (x &&& 1))) : GX I d emb (if hib i n then E else none) pc lv (.inl x :: .inl i :: .inr (some k) :: st) M := gx_grd fun h => gx_zastoreL he h rfl hd kk
theorem gx_alen {k t n : Nat} {x : Int32} (he : hshp[k]? = some (.inr (.inl (t, n)))) (ht : t < 3) (hx : Int32.ofNat n = x) (hd : decode I.2.1 pc = .ok (.arraylength, 1)) (kk : GX I d emb E (pc + 1) lv (.inl x :: st) M) : GX I d emb E pc lv (.inr (some k) :: st) M := fun v hv p l e s m args below meth c al cs dC dI H locs ls C hP hS hl => by
  rcases (show t = 0 ∨ t = 1 ∨ t = 2 by omega) with rfl | rfl | rfl
  · exact va_alen C.1 C.2.1 C.2.2.2.2.2.2.2.1 hP k 0 (hpic_get he) rfl hx hd (kk v hv p l e s m args below meth c al cs dC dI H locs ls C hP hS hl)
  · exact va_alen C.1 C.2.1 C.2.2.2.2.2.2.2.1 hP k 1 (hpic_get he) rfl hx hd (kk v hv p l e s m args below meth c al cs dC dI H locs ls C hP hS hl)
  · exact va_alen C.1 C.2.1 C.2.2.2.2.2.2.2.1 hP k 2 (hpic_get he) rfl hx hd (kk v hv p l e s m args below meth c al cs dC dI H locs ls C hP hS hl)
theorem hcourse : ∀ j, j < 8 → ([50, 53, 56, 59, 62, 65, 68, 71] : List Nat)[j]? = some (50 + 3 * j) := by decide
theorem gx_courses {i : Int32} (hd : decode I.2.1 pc = .ok (.aaload, 1)) (kk : GX I d emb E (pc + 1) lv (.inr (some (50 + 3 * i.toNatClampNeg)) :: st) M) : GX I d emb (if hib i 8 then E else none) pc lv (.inl i :: .inr (some 4) :: st) M := gx_grd fun h v hv p l e s m args below meth c al cs dC dI H locs ls C hP hS hl => by
  have hj : i.toNatClampNeg < 8 := by
    simp only [hib, Bool.and_eq_true, decide_eq_true_eq] at h
    exact h.2
  have h1 := kk v hv p l e s m args below meth c al cs dC dI H locs ls C hP hS hl
  have h2 : hval al (.inr (some (50 + 3 * i.toNatClampNeg))) = va_rf ((([50, 53, 56, 59, 62, 65, 68, 71] : List Nat)[i.toNatClampNeg]?).map al) := by
    rw [hcourse _ hj]; rfl
  rw [List.map_cons, h2] at h1
  exact va_aldq (C := "HeelHounds$Course") C.1 C.2.1 C.2.2.2.2.2.2.2.1 hP 4 3 (hpic_get (e := .inr (.inr [50, 53, 56, 59, 62, 65, 68, 71])) rfl) rfl (hib_in h) hd h1
-- ends
theorem gx_iret {r : ρ} {x : Int32} (hr : I.2.2.2 = some .int) (he : emb r = (some (.inl x), M)) (hd : decode I.2.1 pc = .ok (.ireturn, 1)) : GX I d emb (some r) pc lv [.inl x] M := fun v hv p l e s m args below meth c al cs dC dI H locs ls C hP hS hl => by
  cases hv
  exact W.iret C.1 C.2.1 (C.2.2.2.2.1.trans hr) (fun t ht _ => ⟨by rw [he]; rfl, by rw [he, ht]; exact hP, hS.F ht⟩) hS.2.2 hd C.2.2.2.2.2.1
theorem gx_zret {r : ρ} {x : Int32} (hr : I.2.2.2 = some .boolean) (hz : x &&& 1 = x) (he : emb r = (some (.inl x), M)) (hd : decode I.2.1 pc = .ok (.ireturn, 1)) : GX I d emb (some r) pc lv [.inl x] M := fun v hv p l e s m args below meth c al cs dC dI H locs ls C hP hS hl => by
  cases hv
  exact W.zret C.1 C.2.1 (C.2.2.2.2.1.trans hr) (congrArg Value.int hz) (fun t ht _ => ⟨by rw [he]; rfl, by rw [he, ht]; exact hP, hS.F ht⟩) hS.2.2 hd C.2.2.2.2.2.1
theorem gx_vret {r : ρ} (hr : I.2.2.2 = none) (he : emb r = (none, M)) (hd : decode I.2.1 pc = .ok (.return_, 1)) : GX I d emb (some r) pc lv [] M := fun v hv p l e s m args below meth c al cs dC dI H locs ls C hP hS hl => by
  cases hv
  exact W.vret C.1 C.2.1 (C.2.2.2.2.1.trans hr) (fun t ht _ => ⟨by rw [he]; rfl, by rw [he, ht]; exact hP, hS.F ht⟩) hS.2.2 hd C.2.2.2.2.2.1
theorem gx_aret {r : ρ} {x : Option Nat} {n : String} (hr : I.2.2.2 = some (.object n)) (he : emb r = (some (.inr x), M)) (hd : decode I.2.1 pc = .ok (.areturn, 1)) : GX I d emb (some r) pc lv [.inr x] M := fun v hv p l e s m args below meth c al cs dC dI H locs ls C hP hS hl => by
  cases hv
  exact W.aret (v := va_rf (x.map al)) C.1 C.2.1 (C.2.2.2.2.1.trans hr) (Or.inl ⟨n, rfl⟩) (by cases x <;> simp [va_rf]) (fun t ht _ => ⟨by rw [he]; rfl, by rw [he, ht]; exact hP, hS.F ht⟩) hS.2.2 hd C.2.2.2.2.2.1
end GXM
section GXC
theorem hrun {p : Program} {l : Launch} {e : Env} {R : Room} {s : State} {m : MethodId} {args : Array Value} {below : List Frame} {meth : Method} {c : Code} {H : Heap} {locs : List Loc} {Q : State → Prop} {pc : Nat} {ls : Array Slot} {st0 rest : List Value} {a : Array Value} {al : Nat → Nat} {cs : Nat → ClassId} {dC : Nat → ClassId} {dI : Nat → Nat → Nat} {r : Option HV × HMem}
    (hr : va_Run p l e R s m args below meth c H locs 0 0 0 0 (F0 m pc ls st0) rest (hQ al cs dC dI r a) (hin al)) (hS : va_S (hin al) s.heap H locs)
    (kk : ∀ (H1 : Heap) (locs1 : List Loc), va_P (dC, dI) vwCl (hpic al cs r.2) H1 → va_S (hin al) s.heap H1 locs1 → W p l e R s m args below meth c H1 locs1 0 0 Q (F0 m (pc + 3) ls ((r.1.map (hval al)).toList ++ rest))) : W p l e R s m args below meth c H locs 0 0 Q (F0 m pc ls st0) := by
  intro T hT X
  obtain ⟨v, st₀, t, T', L, h0, X', hL, e1, e2, ⟨hv, hp, hz, hk⟩, st⟩ := hr T hT X
  cases hv
  rw [h0] at hz hk
  obtain ⟨t2, a1, b1⟩ := kk T'.heap (locs ++ L) (by rw [e1]; exact hp)
    ⟨Nat.le_trans hS.1 (by rw [e1]; exact hz), fun q h1 h2 => by rw [e1, hk q (Nat.lt_of_lt_of_le h1 hS.1) h2]; exact hS.2.1 q h1 h2, fun q hq => by
      rcases List.mem_append.mp hq with h | h
      · exact hS.2.2 q h
      · exact hL q h⟩ T' rfl X'
  exact ⟨t2, st t2 a1, b1⟩
theorem hblind {av : List Value} {al : Nat → Nat} {cs : Nat → ClassId} {dC : Nat → ClassId} {dI : Nat → Nat → Nat} {M : HMem} : FrameBlind (va_Pc av (fun U => hge U ∧ va_K (dC, dI) vwCl (hty cs) U ∧ hal al ∧ va_P (dC, dI) vwCl (hpic al cs M) U.heap)) := by
  intro a U g mk q
  obtain ⟨q0, q1, q2, q3, q4⟩ := q
  exact ⟨q0, q1.same rfl, va_K.moved (u := U) (U := U.calling g mk a) (Vm.Alike.refl U.vm) q2, q3, q4⟩
variable {I : HI} {d : Nat} {ρ : Type} {emb : ρ → Option HV × HMem} {pc : Nat} {lv : List (Option HV)} {st : List HV} {M : HMem}
theorem hcat (al : Nat → Nat) : ∀ st : List HV, ((st.map (hval al)).map fun v => v.category).sum = st.length
  | [] => rfl
  | v :: st => by rw [List.map_cons, List.map_cons, List.sum_cons, hcat al st, hval_cat, List.length_cons, Nat.add_comm]
theorem gx_callS {J : HI} {n idx : Nat} {av : List HV} {st0 : List HV} {ρ1 : Type} {emb1 : ρ1 → Option HV × HMem} {E1 : Option ρ1} {K : ρ1 → Option ρ} (ml : MLS I.1.cls idx J n) (hd0 : 1 ≤ d) (hM : MX J (d - 1) av M emb1 E1) (hn : av.length = n) (hst : st0 = av.reverse ++ st) (h8 : st.length ≤ 8) (hd : decode I.2.1 pc = .ok (.invokestatic idx, 3))
    (kk : ∀ r, E1 = some r → GX I d emb (K r) (pc + 3) lv ((emb1 r).1.toList ++ st) (emb1 r).2) : GX I d emb (E1.bind K) pc lv st0 M := fun v hv p l e s m args below meth c al cs dC dI H locs ls C hP hS hl => by
  obtain ⟨⟨w1, w2, w3, w4, w5⟩, w6⟩ := ml
  obtain ⟨r1, hr1, hK⟩ := Option.bind_eq_some_iff.mp hv
  have hg := C.2.2.2.2.2.2.1
  have hGI : GoodIn [Cond.code J.1 J.2.1 J.2.2.1 J.2.2.2] [Cond.code J.1 J.2.1 J.2.2.1 J.2.2.2] := fun w hw => ⟨hw, by cases List.mem_singleton.mp hw; exact Or.inl rfl⟩
  have hTs : ∀ w ∈ [Cond.code J.1 J.2.1 J.2.2.1 J.2.2.2], w.before args s = true := fun w hw => by cases List.mem_singleton.mp hw; exact hg.use w1 rfl
  have hRm : (hrm (d - 1)).frames + 1 ≤ (hrm d).frames ∧ 8 + (J.2.2.1 + 11) + (hrm (d - 1)).locals ≤ (hrm d).locals := ⟨by show d - 1 + 1 ≤ d; omega, by show 8 + (J.2.2.1 + 11) + 40 * (d - 1) ≤ 40 * d; omega⟩
  have hpre : PreS s H (va_Pc (av.map (hval al)) (fun U => hge U ∧ va_K (dC, dI) vwCl (hty cs) U ∧ hal al ∧ va_P (dC, dI) vwCl (hpic al cs M) U.heap)) (av.map (hval al)) := ⟨hblind, fun U hU hW => ⟨rfl, hg.warm hW, va_K.moved hW.alike C.2.2.2.2.2.2.2.1, C.2.2.2.2.2.2.2.2, by rw [hU]; exact hP⟩⟩
  have hlen : (av.map (hval al)).length = n := by rw [List.length_map, hn]
  have hstk : (F0 m pc ls (st0.map (hval al))).stack = (av.map (hval al)).reverse ++ st.map (hval al) := by rw [hst, List.map_append, List.map_reverse]
  have h8' : ((st.map (hval al)).map fun v => v.category).sum ≤ 8 := by rw [hcat]; exact h8
  have hcont : ∀ (H1 : Heap) (locs1 : List Loc), va_P (dC, dI) vwCl (hpic al cs (emb1 r1).2) H1 → va_S (hin al) s.heap H1 locs1 → W p l e (hrm d) s m args below meth c H1 locs1 0 0 (MQ below (hQ al cs dC dI (emb v)) args s 0 0 (hin al)) (F0 m (pc + 3) ls (((emb1 r1).1.map (hval al)).toList ++ st.map (hval al))) := fun H1 locs1 hP1 hS1 => by
    have := kk r1 hr1 v hK p l e s m args below meth c al cs dC dI H1 locs1 ls C hP1 hS1 hl
    rw [List.map_append] at this
    rw [show ((emb1 r1).1.map (hval al)).toList = (emb1 r1).1.toList.map (hval al) from by cases (emb1 r1).1 <;> rfl]
    exact this
  rcases w5 with w5 | ⟨host, w5⟩
  · exact hrun (va_runS (As := av.map (hval al)) (rest := st.map (hval al)) ⟨C.1, C.2.1, C.2.2.1, C.2.2.2.1, hTs⟩ (hM r1 hr1 l al cs dC dI) ⟨callB_of n hTs hGI rfl rfl rfl (hg.use w2 rfl) (hg.use w5 rfl) w3 hRm, hg.use w6 rfl⟩ hpre rfl hlen hl.1 hstk (lv_room h8') hd ⟨Nat.le_refl _, Nat.le_refl _⟩) hS hcont
  · exact hrun (va_runSN (As := av.map (hval al)) (rest := st.map (hval al)) ⟨C.1, C.2.1, C.2.2.1, C.2.2.2.1, hTs⟩ (hM r1 hr1 l al cs dC dI) ⟨va_cnB n hTs hGI rfl rfl rfl (hg _ w5 rfl) (hg.use w2 rfl) w3 hRm, hg.use w6 rfl, trivial⟩ hpre rfl hlen hl.1 hstk (lv_room h8') hd ⟨Nat.le_refl _, Nat.le_refl _⟩) hS hcont
theorem gx_callV {J : HI} {n idx ci k : Nat} {fs : List (Option Nat)} {av : List HV} {st0 : List HV} {ρ1 : Type} {emb1 : ρ1 → Option HV × HMem} {E1 : Option ρ1} {K : ρ1 → Option ρ} (ml : MLV I.1.cls idx ci J n) (hd0 : 1 ≤ d) (hk : hshp[k]? = some (.inl (ci, fs))) (hM : MX J (d - 1) (.inr (some k) :: av) M emb1 E1) (hn : av.length = n) (hst : st0 = av.reverse ++ .inr (some k) :: st) (h8 : st.length ≤ 8) (hd : decode I.2.1 pc = .ok (.invokevirtual idx, 3))
    (kk : ∀ r, E1 = some r → GX I d emb (K r) (pc + 3) lv ((emb1 r).1.toList ++ st) (emb1 r).2) : GX I d emb (E1.bind K) pc lv st0 M := fun v hv p l e s m args below meth c al cs dC dI H locs ls C hP hS hl => by
  obtain ⟨⟨w1, w2, w3, w4, w5⟩, ⟨qc, wc, wn⟩, w6, w7⟩ := ml
  obtain ⟨r1, hr1, hK⟩ := Option.bind_eq_some_iff.mp hv
  have hg := C.2.2.2.2.2.2.1
  have hGI : GoodIn [Cond.code J.1 J.2.1 J.2.2.1 J.2.2.2] [Cond.code J.1 J.2.1 J.2.2.1 J.2.2.2] := fun w hw => ⟨hw, by cases List.mem_singleton.mp hw; exact Or.inl rfl⟩
  have hTs : ∀ w ∈ [Cond.code J.1 J.2.1 J.2.2.1 J.2.2.2], w.before args s = true := fun w hw => by cases List.mem_singleton.mp hw; exact hg.use w1 rfl
  have hRm : (hrm (d - 1)).frames + 1 ≤ (hrm d).frames ∧ 8 + (J.2.2.1 + 11) + (hrm (d - 1)).locals ≤ (hrm d).locals := ⟨by show d - 1 + 1 ≤ d; omega, by show 8 + (J.2.2.1 + 11) + 40 * (d - 1) ≤ 40 * d; omega⟩
  have hrcv := va_recv C.2.2.2.2.2.2.2.1 hP wc (hpic_get (al := al) (cs := cs) (M := M) hk)
  rw [wn] at hrcv
  have hpre : PreV s H J.1.cls (al k) (va_Pc ((.inr (some k) :: av).map (hval al)) (fun U => hge U ∧ va_K (dC, dI) vwCl (hty cs) U ∧ hal al ∧ va_P (dC, dI) vwCl (hpic al cs M) U.heap)) (av.map (hval al)) := ⟨hblind, hrcv, fun U hU hW => ⟨rfl, hg.warm hW, va_K.moved hW.alike C.2.2.2.2.2.2.2.1, C.2.2.2.2.2.2.2.2, by rw [hU]; exact hP⟩⟩
  have hlen : (av.map (hval al)).length = n := by rw [List.length_map, hn]
  have hstk : (F0 m pc ls (st0.map (hval al))).stack = (av.map (hval al)).reverse ++ .ref (al k) :: st.map (hval al) := by rw [hst, List.map_append, List.map_reverse]; rfl
  have h8' : ((st.map (hval al)).map fun v => v.category).sum ≤ 8 := by rw [hcat]; exact h8
  have hcont : ∀ (H1 : Heap) (locs1 : List Loc), va_P (dC, dI) vwCl (hpic al cs (emb1 r1).2) H1 → va_S (hin al) s.heap H1 locs1 → W p l e (hrm d) s m args below meth c H1 locs1 0 0 (MQ below (hQ al cs dC dI (emb v)) args s 0 0 (hin al)) (F0 m (pc + 3) ls (((emb1 r1).1.map (hval al)).toList ++ st.map (hval al))) := fun H1 locs1 hP1 hS1 => by
    have := kk r1 hr1 v hK p l e s m args below meth c al cs dC dI H1 locs1 ls C hP1 hS1 hl
    rw [List.map_append] at this
    rw [show ((emb1 r1).1.map (hval al)).toList = (emb1 r1).1.toList.map (hval al) from by cases (emb1 r1).1 <;> rfl]
    exact this
  rcases w5 with w5 | ⟨host, w5⟩
  · exact hrun (va_runV (As := av.map (hval al)) (rest := st.map (hval al)) ⟨C.1, C.2.1, C.2.2.1, C.2.2.2.1, hTs⟩ (hM r1 hr1 l al cs dC dI) ⟨callB_of n hTs hGI rfl rfl rfl (hg.use w2 rfl) (hg.use w5 rfl) w3 hRm, hg.use w6 rfl, hg.use w7 rfl⟩ hpre rfl hlen hl.1 hstk (lv_room h8') hd ⟨Nat.le_refl _, Nat.le_refl _⟩) hS hcont
  · exact hrun (va_runVN (As := av.map (hval al)) (rest := st.map (hval al)) ⟨C.1, C.2.1, C.2.2.1, C.2.2.2.1, hTs⟩ (hM r1 hr1 l al cs dC dI) ⟨va_cnB n hTs hGI rfl rfl rfl (hg _ w5 rfl) (hg.use w2 rfl) w3 hRm, hg.use w6 rfl, hg.use w7 rfl⟩ hpre rfl hlen hl.1 hstk (lv_room h8') hd ⟨Nat.le_refl _, Nat.le_refl _⟩) hS hcont

end GXC

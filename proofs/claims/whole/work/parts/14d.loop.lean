/-! THE CLAIM OUT OF ONE WALK OF THE LAW'S BODY. Your part is whole_start (and what it stands on); all else here is the same for every law, but numbers. -/
def R_law : String := "HeelHoundsLaw"
def lw_P (b : Addr) (xs : List Int32) (args : Array Value) (s : State) : Prop := args = #[.ref b] ∧ s.IntsAt b xs ∧ xs.length ≤ 3072 ∧ (Jvm.Cond.and given_1 narrow_1).before args s = true
def lw_Q (_ : Array Value) (s : State) (o : Outcome) (t : State) : Prop := o = .returned (some (.int 1)) ∧ Framed s o t [] 600000 7302250
def lw_Z (below : List Frame) (a : Array Value) (s : State) : State → Prop := fun t => ∃ o, t.status = .running ∧ Ended t below o ∧ lw_Q a s o t
/-- the law's own end, with 1 on the stack, nothing written that was there before, its room as the claim has it -/
theorem lw_ret {p : Program} {l : Launch} {e : Env} {s : State} {m : MethodId} {below : List Frame} {meth : Method} {c : Code} {b : Nat} (hx : p.tables.exec = Jvm.exec) (hb : c.code = code) (hr : meth.sig.returnType = ret) (hlocks : meth.locks = false) {pc : Nat} {H : Heap} {ls : Array Slot} (hdg : decode code pc = .ok (.ireturn, 1)) : W p l e room_1 s m #[Value.ref b] below meth c H [] 600000 7302250 (lw_Z below #[Value.ref b] s) (F0 m pc ls [.int 1]) := by
  intro T hT X
  obtain ⟨fs, hret, hrun, hended, hW, hframe⟩ := X.leave (v := some (.int 1)) (hlocks := hlocks) (fun h => by rw [hr] at h; cases h)
  have hmeth' : T.vm.method? m = some meth := X.method'
  refine ⟨T.setFrames fs, ?_, .returned (some (.int 1)), hrun, hended, rfl, ⟨_, rfl⟩, hW, hframe⟩
  jvm_step X.here [X.here.top, hx, hb, hdg, hmeth', hr, ret, narrow_b1]
  (try refine ⟨rfl, ?_⟩); (try refine ⟨rfl, ?_⟩)
  first | (intro acts; rw [hret _ acts rfl rfl rfl]) | rw [hret _ _ rfl rfl rfl]
  exact Steps.refl _
/-- what holds at the law's entry: the machine, the code, the tables' words (any of lw_tbl by 'hts w (by decide +kernel)'), the script of L ints xs at the cell b, what the Statement gives of the start (any of its parts by flat_of_before) -/
def lw_At (p : Program) (s : State) (m : MethodId) (meth : Method) (c : Code) (b L : Nat) (xs : Nat → Int32) : Prop :=
  p.tables.exec = Jvm.exec ∧ c.code = code ∧ meth.sig.returnType = ret ∧ c.maxLocals = 4 ∧ s.vm.findClass R_law = some m.cls ∧ (∀ w ∈ lw_tbl, w.before #[Value.ref b] s = true) ∧ va_X b L xs s s.heap ∧ b < s.heap.size ∧ meth.locks = false ∧ (Jvm.Cond.and given_1 narrow_1).before #[Value.ref b] s = true

section LOOP
variable {p : Program} {l : Launch} {e : Env} {s : State} {m : MethodId} {below : List Frame} {meth : Method} {c : Code} {b L : Nat} {xs : Nat → Int32} {cs dC : Nat → ClassId} {dI : Nat → Nat → Nat} {al : Nat → Nat}
set_option maxRecDepth 20000 in
theorem lg_switch {i : Int32} {M : HMem} {n k : Nat} (C : LC p s m meth c b L xs cs dC dI al) (hi : i = iI (n : Int)) (hn : n + 6 ≤ L) (hI : Inv M) (hk : k < 32) (kk : ∀ M2, Inv M2 → LG p l e s m below meth c b cs dC dI al i M2 1145 []) : LG p l e s m below meth c b cs dC dI al i M 33 [.int (iI (k : Int))] := by
  intro H locs ls hP hS hl
  rcases (show k = 0 ∨ k = 1 ∨ k = 2 ∨ k = 3 ∨ k = 4 ∨ k = 5 ∨ k = 6 ∨ k = 7 ∨ k = 8 ∨ k = 9 ∨ k = 10 ∨ k = 11 ∨ k = 12 ∨ k = 13 ∨ k = 14 ∨ k = 15 ∨ k = 16 ∨ k = 17 ∨ k = 18 ∨ k = 19 ∨ k = 20 ∨ k = 21 ∨ k = 22 ∨ k = 23 ∨ k = 24 ∨ k = 25 ∨ k = 26 ∨ k = 27 ∨ k = 28 ∨ k = 29 ∨ k = 30 ∨ k = 31 by omega) with rfl | rfl | rfl | rfl | rfl | rfl | rfl | rfl | rfl | rfl | rfl | rfl | rfl | rfl | rfl | rfl | rfl | rfl | rfl | rfl | rfl | rfl | rfl | rfl | rfl | rfl | rfl | rfl | rfl | rfl | rfl | rfl
  · exact lv_tableIn (tgt := 172) C.1 C.2.1 dL_law_33 (by decide) (by decide) (off := 139) (by decide) (by decide) (lc_0 C hi hn hI kk H locs ls hP hS hl)
  · exact lv_tableIn (tgt := 215) C.1 C.2.1 dL_law_33 (by decide) (by decide) (off := 182) (by decide) (by decide) (lc_1 C hi hn hI kk H locs ls hP hS hl)
  · exact lv_tableIn (tgt := 238) C.1 C.2.1 dL_law_33 (by decide) (by decide) (off := 205) (by decide) (by decide) (lc_2 C hi hn hI kk H locs ls hP hS hl)
  · exact lv_tableIn (tgt := 261) C.1 C.2.1 dL_law_33 (by decide) (by decide) (off := 228) (by decide) (by decide) (lc_3 C hi hn hI kk H locs ls hP hS hl)
  · exact lv_tableIn (tgt := 324) C.1 C.2.1 dL_law_33 (by decide) (by decide) (off := 291) (by decide) (by decide) (lc_4 C hi hn hI kk H locs ls hP hS hl)
  · exact lv_tableIn (tgt := 347) C.1 C.2.1 dL_law_33 (by decide) (by decide) (off := 314) (by decide) (by decide) (lc_5 C hi hn hI kk H locs ls hP hS hl)
  · exact lv_tableIn (tgt := 410) C.1 C.2.1 dL_law_33 (by decide) (by decide) (off := 377) (by decide) (by decide) (lc_6 C hi hn hI kk H locs ls hP hS hl)
  · exact lv_tableIn (tgt := 433) C.1 C.2.1 dL_law_33 (by decide) (by decide) (off := 400) (by decide) (by decide) (lc_7 C hi hn hI kk H locs ls hP hS hl)
  · exact lv_tableIn (tgt := 456) C.1 C.2.1 dL_law_33 (by decide) (by decide) (off := 423) (by decide) (by decide) (lc_8 C hi hn hI kk H locs ls hP hS hl)
  · exact lv_tableIn (tgt := 489) C.1 C.2.1 dL_law_33 (by decide) (by decide) (off := 456) (by decide) (by decide) (lc_9 C hi hn hI kk H locs ls hP hS hl)
  · exact lv_tableIn (tgt := 522) C.1 C.2.1 dL_law_33 (by decide) (by decide) (off := 489) (by decide) (by decide) (lc_10 C hi hn hI kk H locs ls hP hS hl)
  · exact lv_tableIn (tgt := 555) C.1 C.2.1 dL_law_33 (by decide) (by decide) (off := 522) (by decide) (by decide) (lc_11 C hi hn hI kk H locs ls hP hS hl)
  · exact lv_tableIn (tgt := 598) C.1 C.2.1 dL_law_33 (by decide) (by decide) (off := 565) (by decide) (by decide) (lc_12 C hi hn hI kk H locs ls hP hS hl)
  · exact lv_tableIn (tgt := 631) C.1 C.2.1 dL_law_33 (by decide) (by decide) (off := 598) (by decide) (by decide) (lc_13 C hi hn hI kk H locs ls hP hS hl)
  · exact lv_tableIn (tgt := 674) C.1 C.2.1 dL_law_33 (by decide) (by decide) (off := 641) (by decide) (by decide) (lc_14 C hi hn hI kk H locs ls hP hS hl)
  · exact lv_tableIn (tgt := 717) C.1 C.2.1 dL_law_33 (by decide) (by decide) (off := 684) (by decide) (by decide) (lc_15 C hi hn hI kk H locs ls hP hS hl)
  · exact lv_tableIn (tgt := 750) C.1 C.2.1 dL_law_33 (by decide) (by decide) (off := 717) (by decide) (by decide) (lc_16 C hi hn hI kk H locs ls hP hS hl)
  · exact lv_tableIn (tgt := 783) C.1 C.2.1 dL_law_33 (by decide) (by decide) (off := 750) (by decide) (by decide) (lc_17 C hi hn hI kk H locs ls hP hS hl)
  · exact lv_tableIn (tgt := 816) C.1 C.2.1 dL_law_33 (by decide) (by decide) (off := 783) (by decide) (by decide) (lc_18 C hi hn hI kk H locs ls hP hS hl)
  · exact lv_tableIn (tgt := 849) C.1 C.2.1 dL_law_33 (by decide) (by decide) (off := 816) (by decide) (by decide) (lc_19 C hi hn hI kk H locs ls hP hS hl)
  · exact lv_tableIn (tgt := 882) C.1 C.2.1 dL_law_33 (by decide) (by decide) (off := 849) (by decide) (by decide) (lc_20 C hi hn hI kk H locs ls hP hS hl)
  · exact lv_tableIn (tgt := 905) C.1 C.2.1 dL_law_33 (by decide) (by decide) (off := 872) (by decide) (by decide) (lc_21 C hi hn hI kk H locs ls hP hS hl)
  · exact lv_tableIn (tgt := 928) C.1 C.2.1 dL_law_33 (by decide) (by decide) (off := 895) (by decide) (by decide) (lc_22 C hi hn hI kk H locs ls hP hS hl)
  · exact lv_tableIn (tgt := 961) C.1 C.2.1 dL_law_33 (by decide) (by decide) (off := 928) (by decide) (by decide) (lc_23 C hi hn hI kk H locs ls hP hS hl)
  · exact lv_tableIn (tgt := 984) C.1 C.2.1 dL_law_33 (by decide) (by decide) (off := 951) (by decide) (by decide) (lc_24 C hi hn hI kk H locs ls hP hS hl)
  · exact lv_tableIn (tgt := 1017) C.1 C.2.1 dL_law_33 (by decide) (by decide) (off := 984) (by decide) (by decide) (lc_25 C hi hn hI kk H locs ls hP hS hl)
  · exact lv_tableIn (tgt := 1050) C.1 C.2.1 dL_law_33 (by decide) (by decide) (off := 1017) (by decide) (by decide) (lc_26 C hi hn hI kk H locs ls hP hS hl)
  · exact lv_tableIn (tgt := 1073) C.1 C.2.1 dL_law_33 (by decide) (by decide) (off := 1040) (by decide) (by decide) (lc_27 C hi hn hI kk H locs ls hP hS hl)
  · exact lv_tableIn (tgt := 1086) C.1 C.2.1 dL_law_33 (by decide) (by decide) (off := 1053) (by decide) (by decide) (lc_28 C hi hn hI kk H locs ls hP hS hl)
  · exact lv_tableIn (tgt := 1099) C.1 C.2.1 dL_law_33 (by decide) (by decide) (off := 1066) (by decide) (by decide) (lc_29 C hi hn hI kk H locs ls hP hS hl)
  · exact lv_tableIn (tgt := 1122) C.1 C.2.1 dL_law_33 (by decide) (by decide) (off := 1089) (by decide) (by decide) (lc_30 C hi hn hI kk H locs ls hP hS hl)
  · exact lv_tableOut (tgt := 1145) C.1 C.2.1 dL_law_33 (by decide) (by decide) (kk M hI H locs ls hP hS hl)
theorem law_loop (C : LC p s m meth c b L xs cs dC dI al) : ∀ (f n : Nat) (M : HMem), Inv M → n ≤ 3080 → L < f + n → LG p l e s m below meth c b cs dC dI al (iI (n : Int)) M 18 [] := by
  have hL : L ≤ 3072 := C.2.2.2.2.2.2.2.2.2.2.2.2
  intro f
  induction f with
  | zero =>
    intro n M hI hn hf
    refine lg_il3 C dL_law_18 (lg_al0 C dL_law_19 (lg_slen C dL_law_20 (lg_bipush (x := 6) C (by decide) dL_law_21 (lg_isub C dL_law_23 ?_))))
    rw [show Int32.ofNat L = iI (L : Int) from nI_iI L, q6, iI_sub]
    intro H locs ls hP hS hl
    refine lv_icmp_gt (tgt := 1151) C.1 C.2.1 dL_law_24 (by decide) (fun _ => ?_) (fun h => absurd (lt_i (by omega) (by omega) (by omega)) h)
    refine lv_iconst (v := 1) C.1 C.2.1 dL_law_1151 (by decide) ?_
    refine va_forget (fun q hq => hS.2.2 q hq) ?_
    refine W.widen (k := 600000) (n := 7302250) (Nat.le_of_ble_eq_true rfl) (Nat.le_of_ble_eq_true rfl) ?_
    exact lw_ret C.1 C.2.1 C.2.2.1 C.2.2.2.2.2.2.2.2.1 dL_law_1152
  | succ f ih =>
    intro n M hI hn hf
    refine lg_il3 C dL_law_18 (lg_al0 C dL_law_19 (lg_slen C dL_law_20 (lg_bipush (x := 6) C (by decide) dL_law_21 (lg_isub C dL_law_23 ?_))))
    rw [show Int32.ofNat L = iI (L : Int) from nI_iI L, q6, iI_sub]
    intro H locs ls hP hS hl
    refine lv_icmp_gt (tgt := 1151) C.1 C.2.1 dL_law_24 (by decide) (fun _ => ?_) (fun h => ?_)
    · refine lv_iconst (v := 1) C.1 C.2.1 dL_law_1151 (by decide) ?_
      refine va_forget (fun q hq => hS.2.2 q hq) ?_
      refine W.widen (k := 600000) (n := 7302250) (Nat.le_of_ble_eq_true rfl) (Nat.le_of_ble_eq_true rfl) ?_
      exact lw_ret C.1 C.2.1 C.2.2.1 C.2.2.2.2.2.2.2.2.1 dL_law_1152
    · have hn6 : n + 6 ≤ L := by
        rw [iI_lt (by omega) (by omega) (by omega) (by omega)] at h
        omega
      have kk : ∀ M2, Inv M2 → LG p l e s m below meth c b cs dC dI al (iI (n : Int)) M2 1145 [] := fun M2 hI2 H locs ls hP hS hl => by
        refine lv_iinc (v := iI ((n + 6 : Nat) : Int)) (lv' := [(3, .int (iI ((n + 6 : Nat) : Int))), (0, .ref b), (1, .ref (al 0)), (2, .ref (al 74))]) C.1 C.2.1 dL_law_1145 hl (k := 3) rfl ?_ (by decide) rfl (fun ls hl => ?_)
        · rw [show Int32.ofInt 6 = iI 6 from rfl, iI_add]; rfl
        · refine lv_goto (tgt := 18) C.1 C.2.1 dL_law_1148 (by decide) ?_
          exact ih (n + 6) M2 hI2 (by omega) (by omega) H locs ls hP hS (lv_sub hl [1, 2, 3, 0] rfl)
      obtain ⟨k, hk, ek⟩ := and31_nat (xs n)
      have go : LG p l e s m below meth c b cs dC dI al (iI (n : Int)) M 27 [] := by
        refine lg_al0 C dL_law_27 (lg_il3 C dL_law_28 (lg_sld C (by omega) dL_law_29 (lg_bipush (x := 31) C (by decide) dL_law_30 (lg_iand C dL_law_32 ?_))))
        rw [ek]
        exact lg_switch C rfl hn6 hI hk kk
      exact go H locs ls hP hS hl
end LOOP

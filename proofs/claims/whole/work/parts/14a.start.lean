/-! THE START -/
def dr1 : Nat → Int32 := fun j => if j = 5 then 1 else 0
def M0 : HMem := fun k => if k = 3 then (fun j => if j = 2 then 1 else 0) else if k = 31 then (fun j => if j = 3 then -1 else if j = 5 then -1 else 0) else if k = 35 then dr1 else if k = 40 then dr1 else if k = 45 then dr1 else if k = 39 then f3 else if k = 44 then f3 else if k = 49 then f3 else if k = 74 then (fun j => if j = 9 then 1 else 0) else if k = 75 then upd (fun _ => 0) 31 1 else fun _ => 0
theorem f3_eq : ∀ h, h < 6 → f3 h = 3 := by
  intro h hh
  rcases (show h = 0 ∨ h = 1 ∨ h = 2 ∨ h = 3 ∨ h = 4 ∨ h = 5 by omega) with rfl | rfl | rfl | rfl | rfl | rfl <;> rfl
theorem inv_0 : Inv M0 := by
  refine ⟨⟨0, by omega, by omega, rfl, rfl, fun j _ => (by decide : (0 : Int32) = 0 &&& 255)⟩, ⟨1, by omega, by omega, rfl, rfl⟩, fun c hc => Or.inl ?_, ⟨⟨0, by omega, by omega, rfl, rfl⟩, fun p hp => ?_⟩, ⟨0, 0, 0, by omega, by omega, by omega, rfl, rfl, rfl, fun s hs => absurd hs (by omega)⟩, ⟨⟨0, by omega, by omega, rfl, rfl⟩, ⟨1, by omega, by omega, rfl, rfl⟩, fun h hh => Or.inl ⟨?_, f3_eq h hh⟩⟩, Or.inl ⟨rfl, rfl⟩⟩
  · rcases (show c = 0 ∨ c = 1 ∨ c = 2 ∨ c = 3 ∨ c = 4 ∨ c = 5 ∨ c = 6 ∨ c = 7 by omega) with rfl | rfl | rfl | rfl | rfl | rfl | rfl | rfl <;> exact ⟨rfl, rfl⟩
  · have k0 : kd M0 p = 0 := rfl
    have p0 : pe M0 p = 0 := rfl
    rw [k0, p0]
    exact ⟨by omega, by omega, fun _ => rfl, rfl, rfl, rfl, rfl⟩
  · show upd (fun _ => 0) 31 1 h = 0
    exact upd_ne _ _ (by omega)
def alS (h0 h1 : Nat) (a a' : Nat → Nat) : Nat → Nat := fun k => if k = 0 then h0 else if k < 74 then a k else if k = 74 then h1 else a' k
def pos (k : Nat) : Nat := if k < 8 then k else if k < 50 then k + 24 else if k < 74 then k - 42 else k
noncomputable def wAll (cs : Nat → ClassId) (h0 h1 : Nat) (a a' : Nat → Nat) : va_W := [(h0, .inr (11, [.ref (a 1), .ref (a 3), .ref (a 8), .ref (a 10), .ref (a 14), .ref (a 23), .ref (a 31), .ref (a 32), .ref (a 35), .ref (a 40), .ref (a 45), .int 0])), (a 1, .inr (10, [.ref (a 2), .int 0, .int 0, .int 0, .int 0, .int 0])), (a 2, .inl (cs 0, 260, .inl (fun _ => 0))), (a 3, .inr (0, [.ref (a 4), .ref (a 5), .int 1])), (a 4, .inl (cs 3, 8, .inr (.inr (.inr (.inr (fun j => (([50, 53, 56, 59, 62, 65, 68, 71] : List Nat)[j]?).map a)))))), (a 5, .inr (3, [.ref (a 6), .ref (a 7), .int 0])), (a 6, .inl (cs 0, 192, .inl (fun _ => 0))), (a 7, .inl (cs 0, 192, .inl (fun _ => 0))), (a 50, .inr (1, [.ref (a 51), .ref (a 52), .int 0, .int 0, .int 0])), (a 51, .inl (cs 0, 96, .inl (fun _ => 0))), (a 52, .inl (cs 0, 97, .inl (fun _ => 0))), (a 53, .inr (1, [.ref (a 54), .ref (a 55), .int 0, .int 0, .int 0])), (a 54, .inl (cs 0, 96, .inl (fun _ => 0))), (a 55, .inl (cs 0, 97, .inl (fun _ => 0))), (a 56, .inr (1, [.ref (a 57), .ref (a 58), .int 0, .int 0, .int 0])), (a 57, .inl (cs 0, 96, .inl (fun _ => 0))), (a 58, .inl (cs 0, 97, .inl (fun _ => 0))), (a 59, .inr (1, [.ref (a 60), .ref (a 61), .int 0, .int 0, .int 0])), (a 60, .inl (cs 0, 96, .inl (fun _ => 0))), (a 61, .inl (cs 0, 97, .inl (fun _ => 0))), (a 62, .inr (1, [.ref (a 63), .ref (a 64), .int 0, .int 0, .int 0])), (a 63, .inl (cs 0, 96, .inl (fun _ => 0))), (a 64, .inl (cs 0, 97, .inl (fun _ => 0))), (a 65, .inr (1, [.ref (a 66), .ref (a 67), .int 0, .int 0, .int 0])), (a 66, .inl (cs 0, 96, .inl (fun _ => 0))), (a 67, .inl (cs 0, 97, .inl (fun _ => 0))), (a 68, .inr (1, [.ref (a 69), .ref (a 70), .int 0, .int 0, .int 0])), (a 69, .inl (cs 0, 96, .inl (fun _ => 0))), (a 70, .inl (cs 0, 97, .inl (fun _ => 0))), (a 71, .inr (1, [.ref (a 72), .ref (a 73), .int 0, .int 0, .int 0])), (a 72, .inl (cs 0, 96, .inl (fun _ => 0))), (a 73, .inl (cs 0, 97, .inl (fun _ => 0))), (a 8, .inr (7, [.ref (a 1), .ref (a 9), .int 0])), (a 9, .inl (cs 0, 96, .inl (fun _ => 0))), (a 10, .inr (4, [.ref (a 1), .ref (a 11)])), (a 11, .inr (3, [.ref (a 12), .ref (a 13), .int 0])), (a 12, .inl (cs 0, 192, .inl (fun _ => 0))), (a 13, .inl (cs 0, 192, .inl (fun _ => 0))), (a 14, .inr (6, [.ref (a 1), .ref (a 15)])), (a 15, .inr (5, [.ref (a 16), .ref (a 17), .ref (a 18), .int 0, .ref (a 19), .ref (a 20), .int 0, .ref (a 21), .ref (a 22)])), (a 16, .inl (cs 0, 16, .inl (fun _ => 0))), (a 17, .inl (cs 0, 16, .inl (fun _ => 0))), (a 18, .inl (cs 0, 16, .inl (fun _ => 0))), (a 19, .inl (cs 0, 240, .inl (fun _ => 0))), (a 20, .inl (cs 0, 240, .inl (fun _ => 0))), (a 21, .inl (cs 0, 8, .inl (fun _ => 0))), (a 22, .inl (cs 0, 32, .inl (fun _ => 0))), (a 23, .inr (5, [.ref (a 24), .ref (a 25), .ref (a 26), .int 0, .ref (a 27), .ref (a 28), .int 0, .ref (a 29), .ref (a 30)])), (a 24, .inl (cs 0, 16, .inl (fun _ => 0))), (a 25, .inl (cs 0, 16, .inl (fun _ => 0))), (a 26, .inl (cs 0, 16, .inl (fun _ => 0))), (a 27, .inl (cs 0, 240, .inl (fun _ => 0))), (a 28, .inl (cs 0, 240, .inl (fun _ => 0))), (a 29, .inl (cs 0, 8, .inl (fun _ => 0))), (a 30, .inl (cs 0, 32, .inl (fun _ => 0))), (a 31, .inr (2, [.ref (a 3), .ref (a 23), .int 0, .int (-1), .int 0, .int (-1)])), (a 32, .inr (9, [.ref (a 3), .ref (a 33), .ref (a 34)])), (a 33, .inl (cs 0, 192, .inl (fun _ => 0))), (a 34, .inl (cs 0, 192, .inl (fun _ => 0))), (a 35, .inr (8, [.ref (a 36), .ref (a 37), .ref (a 38), .ref (a 39), .int 0, .int 1])), (a 36, .inl (cs 0, 6, .inl (fun _ => 0))), (a 37, .inl (cs 0, 6, .inl (fun _ => 0))), (a 38, .inl (cs 0, 6, .inl (fun _ => 0))), (a 39, .inl (cs 0, 6, .inl f3)), (a 40, .inr (8, [.ref (a 41), .ref (a 42), .ref (a 43), .ref (a 44), .int 0, .int 1])), (a 41, .inl (cs 0, 6, .inl (fun _ => 0))), (a 42, .inl (cs 0, 6, .inl (fun _ => 0))), (a 43, .inl (cs 0, 6, .inl (fun _ => 0))), (a 44, .inl (cs 0, 6, .inl f3)), (a 45, .inr (8, [.ref (a 46), .ref (a 47), .ref (a 48), .ref (a 49), .int 0, .int 1])), (a 46, .inl (cs 0, 6, .inl (fun _ => 0))), (a 47, .inl (cs 0, 6, .inl (fun _ => 0))), (a 48, .inl (cs 0, 6, .inl (fun _ => 0))), (a 49, .inl (cs 0, 6, .inl f3)), (h1, .inr (12, [.ref (a' 75), .ref (a' 76), .ref (a' 77), .ref (a' 78), .ref (a' 79), .ref (a' 80), .ref (a' 81), .ref (a' 82), .ref (a' 83), .int 1, .int 0, .ref (a' 84), .int 0, .int 0, .int 0, .int 0, .int 0, .int 0, .int 0, .int 0, .int 0, .int 0, .ref (a' 85), .ref (a' 86), .ref (a' 87), .ref (a' 88), .ref (a' 89), .ref (a' 90), .ref (a' 91), .ref (a' 92), .ref (a' 93), .ref (a' 94), .ref (a' 95), .ref (a' 96), .ref (a' 97), .ref (a' 98), .ref (a' 99), .ref (a' 100), .ref (a' 101), .int 0, .int 0, .int 0, .int 0, .ref (a' 102), .ref (a' 103), .int 0, .int 0, .int 0, .int 0, .int 0, .ref (a' 104), .ref (a' 105), .ref (a' 106), .ref (a' 107), .ref (a' 108), .int 0])), (a' 75, .inl (cs 0, 32, .inl (upd (fun _ => 0) 31 1))), (a' 76, .inl (cs 0, 32, .inl (fun _ => 0))), (a' 77, .inl (cs 0, 32, .inl (fun _ => 0))), (a' 78, .inl (cs 0, 8, .inl (fun _ => 0))), (a' 79, .inl (cs 0, 8, .inl (fun _ => 0))), (a' 80, .inl (cs 0, 768, .inl (fun _ => 0))), (a' 81, .inl (cs 0, 776, .inl (fun _ => 0))), (a' 82, .inl (cs 0, 192, .inl (fun _ => 0))), (a' 83, .inl (cs 0, 192, .inl (fun _ => 0))), (a' 84, .inl (cs 1, 260, .inl (fun _ => 0))), (a' 85, .inl (cs 0, 260, .inl (fun _ => 0))), (a' 86, .inl (cs 0, 260, .inl (fun _ => 0))), (a' 87, .inl (cs 0, 16, .inl (fun _ => 0))), (a' 88, .inl (cs 0, 16, .inl (fun _ => 0))), (a' 89, .inl (cs 0, 16, .inl (fun _ => 0))), (a' 90, .inl (cs 0, 16, .inl (fun _ => 0))), (a' 91, .inl (cs 0, 260, .inl (fun _ => 0))), (a' 92, .inl (cs 0, 16, .inl (fun _ => 0))), (a' 93, .inl (cs 0, 16, .inl (fun _ => 0))), (a' 94, .inl (cs 0, 16, .inl (fun _ => 0))), (a' 95, .inl (cs 0, 16, .inl (fun _ => 0))), (a' 96, .inl (cs 0, 260, .inl (fun _ => 0))), (a' 97, .inl (cs 0, 8, .inl (fun _ => 0))), (a' 98, .inl (cs 0, 96, .inl (fun _ => 0))), (a' 99, .inl (cs 0, 2, .inl (fun _ => 0))), (a' 100, .inl (cs 0, 2, .inl (fun _ => 0))), (a' 101, .inl (cs 0, 2, .inl (fun _ => 0))), (a' 102, .inl (cs 0, 192, .inl (fun _ => 0))), (a' 103, .inl (cs 0, 192, .inl (fun _ => 0))), (a' 104, .inl (cs 0, 97, .inl (fun _ => 0))), (a' 105, .inl (cs 0, 10, .inl (fun _ => 0))), (a' 106, .inl (cs 0, 192, .inl (fun _ => 0))), (a' 107, .inl (cs 0, 192, .inl (fun _ => 0))), (a' 108, .inl (cs 2, 192, .inl (fun _ => 0)))]
set_option maxRecDepth 100000 in
set_option maxHeartbeats 4000000 in
theorem wAll_eq (cs : Nat → ClassId) (h0 h1 : Nat) (a a' : Nat → Nat) : w_X11 cs h0 a ++ w_X12 cs h1 a' = wAll cs h0 h1 a a' := by
  simp only [w_X11, w_X12, w_X0, w_X1, w_X2, w_X3, w_X4, w_X5, w_X6, w_X7, w_X8, w_X9, w_X10, wAll, List.cons_append, List.nil_append, List.append_assoc]
def PK (cs : Nat → ClassId) (h0 h1 : Nat) (a a' : Nat → Nat) (k : Nat) : Prop := ∃ e, (wAll cs h0 h1 a a')[pos k]? = some (alS h0 h1 a a' k, e) ∧ (hpic (alS h0 h1 a a') cs M0)[k]? = some (alS h0 h1 a a' k, e)
section PKS
variable (cs : Nat → ClassId) (h0 h1 : Nat) (a a' : Nat → Nat)
theorem pk_0 : PK cs h0 h1 a a' 0 := ⟨_, show (wAll cs h0 h1 a a')[0]? = _ from rfl, hpic_get (k := 0) (e := .inl (11, [some 1, some 3, some 8, some 10, some 14, some 23, some 31, some 32, some 35, some 40, some 45, none])) rfl⟩
theorem pk_1 : PK cs h0 h1 a a' 1 := ⟨_, show (wAll cs h0 h1 a a')[1]? = _ from rfl, hpic_get (k := 1) (e := .inl (10, [some 2, none, none, none, none, none])) rfl⟩
theorem pk_2 : PK cs h0 h1 a a' 2 := ⟨_, show (wAll cs h0 h1 a a')[2]? = _ from rfl, hpic_get (k := 2) (e := .inr (.inl (0, 260))) rfl⟩
theorem pk_3 : PK cs h0 h1 a a' 3 := ⟨_, show (wAll cs h0 h1 a a')[3]? = _ from rfl, hpic_get (k := 3) (e := .inl (0, [some 4, some 5, none])) rfl⟩
theorem pk_4 : PK cs h0 h1 a a' 4 := by
  refine ⟨_, ?_, hpic_get (k := 4) (e := .inr (.inr [50, 53, 56, 59, 62, 65, 68, 71])) rfl⟩
  have hf : (fun j : Nat => (([50, 53, 56, 59, 62, 65, 68, 71] : List Nat)[j]?).map (alS h0 h1 a a')) = fun j : Nat => (([50, 53, 56, 59, 62, 65, 68, 71] : List Nat)[j]?).map a := by
    rw [← up8, ← up8]; rfl
  show _ = some (a 4, Sum.inl (cs 3, 8, Sum.inr (Sum.inr (Sum.inr (Sum.inr (fun j : Nat => (([50, 53, 56, 59, 62, 65, 68, 71] : List Nat)[j]?).map (alS h0 h1 a a')))))))
  rw [hf]; rfl
theorem pk_5 : PK cs h0 h1 a a' 5 := ⟨_, show (wAll cs h0 h1 a a')[5]? = _ from rfl, hpic_get (k := 5) (e := .inl (3, [some 6, some 7, none])) rfl⟩
theorem pk_6 : PK cs h0 h1 a a' 6 := ⟨_, show (wAll cs h0 h1 a a')[6]? = _ from rfl, hpic_get (k := 6) (e := .inr (.inl (0, 192))) rfl⟩
theorem pk_7 : PK cs h0 h1 a a' 7 := ⟨_, show (wAll cs h0 h1 a a')[7]? = _ from rfl, hpic_get (k := 7) (e := .inr (.inl (0, 192))) rfl⟩
theorem pk_8 : PK cs h0 h1 a a' 8 := ⟨_, show (wAll cs h0 h1 a a')[32]? = _ from rfl, hpic_get (k := 8) (e := .inl (7, [some 1, some 9, none])) rfl⟩
theorem pk_9 : PK cs h0 h1 a a' 9 := ⟨_, show (wAll cs h0 h1 a a')[33]? = _ from rfl, hpic_get (k := 9) (e := .inr (.inl (0, 96))) rfl⟩
theorem pk_10 : PK cs h0 h1 a a' 10 := ⟨_, show (wAll cs h0 h1 a a')[34]? = _ from rfl, hpic_get (k := 10) (e := .inl (4, [some 1, some 11])) rfl⟩
theorem pk_11 : PK cs h0 h1 a a' 11 := ⟨_, show (wAll cs h0 h1 a a')[35]? = _ from rfl, hpic_get (k := 11) (e := .inl (3, [some 12, some 13, none])) rfl⟩
theorem pk_12 : PK cs h0 h1 a a' 12 := ⟨_, show (wAll cs h0 h1 a a')[36]? = _ from rfl, hpic_get (k := 12) (e := .inr (.inl (0, 192))) rfl⟩
theorem pk_13 : PK cs h0 h1 a a' 13 := ⟨_, show (wAll cs h0 h1 a a')[37]? = _ from rfl, hpic_get (k := 13) (e := .inr (.inl (0, 192))) rfl⟩
theorem pk_14 : PK cs h0 h1 a a' 14 := ⟨_, show (wAll cs h0 h1 a a')[38]? = _ from rfl, hpic_get (k := 14) (e := .inl (6, [some 1, some 15])) rfl⟩
theorem pk_15 : PK cs h0 h1 a a' 15 := ⟨_, show (wAll cs h0 h1 a a')[39]? = _ from rfl, hpic_get (k := 15) (e := .inl (5, [some 16, some 17, some 18, none, some 19, some 20, none, some 21, some 22])) rfl⟩
theorem pk_16 : PK cs h0 h1 a a' 16 := ⟨_, show (wAll cs h0 h1 a a')[40]? = _ from rfl, hpic_get (k := 16) (e := .inr (.inl (0, 16))) rfl⟩
theorem pk_17 : PK cs h0 h1 a a' 17 := ⟨_, show (wAll cs h0 h1 a a')[41]? = _ from rfl, hpic_get (k := 17) (e := .inr (.inl (0, 16))) rfl⟩
theorem pk_18 : PK cs h0 h1 a a' 18 := ⟨_, show (wAll cs h0 h1 a a')[42]? = _ from rfl, hpic_get (k := 18) (e := .inr (.inl (0, 16))) rfl⟩
theorem pk_19 : PK cs h0 h1 a a' 19 := ⟨_, show (wAll cs h0 h1 a a')[43]? = _ from rfl, hpic_get (k := 19) (e := .inr (.inl (0, 240))) rfl⟩
theorem pk_20 : PK cs h0 h1 a a' 20 := ⟨_, show (wAll cs h0 h1 a a')[44]? = _ from rfl, hpic_get (k := 20) (e := .inr (.inl (0, 240))) rfl⟩
theorem pk_21 : PK cs h0 h1 a a' 21 := ⟨_, show (wAll cs h0 h1 a a')[45]? = _ from rfl, hpic_get (k := 21) (e := .inr (.inl (0, 8))) rfl⟩
theorem pk_22 : PK cs h0 h1 a a' 22 := ⟨_, show (wAll cs h0 h1 a a')[46]? = _ from rfl, hpic_get (k := 22) (e := .inr (.inl (0, 32))) rfl⟩
theorem pk_23 : PK cs h0 h1 a a' 23 := ⟨_, show (wAll cs h0 h1 a a')[47]? = _ from rfl, hpic_get (k := 23) (e := .inl (5, [some 24, some 25, some 26, none, some 27, some 28, none, some 29, some 30])) rfl⟩
theorem pk_24 : PK cs h0 h1 a a' 24 := ⟨_, show (wAll cs h0 h1 a a')[48]? = _ from rfl, hpic_get (k := 24) (e := .inr (.inl (0, 16))) rfl⟩
theorem pk_25 : PK cs h0 h1 a a' 25 := ⟨_, show (wAll cs h0 h1 a a')[49]? = _ from rfl, hpic_get (k := 25) (e := .inr (.inl (0, 16))) rfl⟩
theorem pk_26 : PK cs h0 h1 a a' 26 := ⟨_, show (wAll cs h0 h1 a a')[50]? = _ from rfl, hpic_get (k := 26) (e := .inr (.inl (0, 16))) rfl⟩
theorem pk_27 : PK cs h0 h1 a a' 27 := ⟨_, show (wAll cs h0 h1 a a')[51]? = _ from rfl, hpic_get (k := 27) (e := .inr (.inl (0, 240))) rfl⟩
theorem pk_28 : PK cs h0 h1 a a' 28 := ⟨_, show (wAll cs h0 h1 a a')[52]? = _ from rfl, hpic_get (k := 28) (e := .inr (.inl (0, 240))) rfl⟩
theorem pk_29 : PK cs h0 h1 a a' 29 := ⟨_, show (wAll cs h0 h1 a a')[53]? = _ from rfl, hpic_get (k := 29) (e := .inr (.inl (0, 8))) rfl⟩
theorem pk_30 : PK cs h0 h1 a a' 30 := ⟨_, show (wAll cs h0 h1 a a')[54]? = _ from rfl, hpic_get (k := 30) (e := .inr (.inl (0, 32))) rfl⟩
theorem pk_31 : PK cs h0 h1 a a' 31 := ⟨_, show (wAll cs h0 h1 a a')[55]? = _ from rfl, hpic_get (k := 31) (e := .inl (2, [some 3, some 23, none, none, none, none])) rfl⟩
theorem pk_32 : PK cs h0 h1 a a' 32 := ⟨_, show (wAll cs h0 h1 a a')[56]? = _ from rfl, hpic_get (k := 32) (e := .inl (9, [some 3, some 33, some 34])) rfl⟩
theorem pk_33 : PK cs h0 h1 a a' 33 := ⟨_, show (wAll cs h0 h1 a a')[57]? = _ from rfl, hpic_get (k := 33) (e := .inr (.inl (0, 192))) rfl⟩
theorem pk_34 : PK cs h0 h1 a a' 34 := ⟨_, show (wAll cs h0 h1 a a')[58]? = _ from rfl, hpic_get (k := 34) (e := .inr (.inl (0, 192))) rfl⟩
theorem pk_35 : PK cs h0 h1 a a' 35 := ⟨_, show (wAll cs h0 h1 a a')[59]? = _ from rfl, hpic_get (k := 35) (e := .inl (8, [some 36, some 37, some 38, some 39, none, none])) rfl⟩
theorem pk_36 : PK cs h0 h1 a a' 36 := ⟨_, show (wAll cs h0 h1 a a')[60]? = _ from rfl, hpic_get (k := 36) (e := .inr (.inl (0, 6))) rfl⟩
theorem pk_37 : PK cs h0 h1 a a' 37 := ⟨_, show (wAll cs h0 h1 a a')[61]? = _ from rfl, hpic_get (k := 37) (e := .inr (.inl (0, 6))) rfl⟩
theorem pk_38 : PK cs h0 h1 a a' 38 := ⟨_, show (wAll cs h0 h1 a a')[62]? = _ from rfl, hpic_get (k := 38) (e := .inr (.inl (0, 6))) rfl⟩
theorem pk_39 : PK cs h0 h1 a a' 39 := ⟨_, show (wAll cs h0 h1 a a')[63]? = _ from rfl, hpic_get (k := 39) (e := .inr (.inl (0, 6))) rfl⟩
theorem pk_40 : PK cs h0 h1 a a' 40 := ⟨_, show (wAll cs h0 h1 a a')[64]? = _ from rfl, hpic_get (k := 40) (e := .inl (8, [some 41, some 42, some 43, some 44, none, none])) rfl⟩
theorem pk_41 : PK cs h0 h1 a a' 41 := ⟨_, show (wAll cs h0 h1 a a')[65]? = _ from rfl, hpic_get (k := 41) (e := .inr (.inl (0, 6))) rfl⟩
theorem pk_42 : PK cs h0 h1 a a' 42 := ⟨_, show (wAll cs h0 h1 a a')[66]? = _ from rfl, hpic_get (k := 42) (e := .inr (.inl (0, 6))) rfl⟩
theorem pk_43 : PK cs h0 h1 a a' 43 := ⟨_, show (wAll cs h0 h1 a a')[67]? = _ from rfl, hpic_get (k := 43) (e := .inr (.inl (0, 6))) rfl⟩
theorem pk_44 : PK cs h0 h1 a a' 44 := ⟨_, show (wAll cs h0 h1 a a')[68]? = _ from rfl, hpic_get (k := 44) (e := .inr (.inl (0, 6))) rfl⟩
theorem pk_45 : PK cs h0 h1 a a' 45 := ⟨_, show (wAll cs h0 h1 a a')[69]? = _ from rfl, hpic_get (k := 45) (e := .inl (8, [some 46, some 47, some 48, some 49, none, none])) rfl⟩
theorem pk_46 : PK cs h0 h1 a a' 46 := ⟨_, show (wAll cs h0 h1 a a')[70]? = _ from rfl, hpic_get (k := 46) (e := .inr (.inl (0, 6))) rfl⟩
theorem pk_47 : PK cs h0 h1 a a' 47 := ⟨_, show (wAll cs h0 h1 a a')[71]? = _ from rfl, hpic_get (k := 47) (e := .inr (.inl (0, 6))) rfl⟩
theorem pk_48 : PK cs h0 h1 a a' 48 := ⟨_, show (wAll cs h0 h1 a a')[72]? = _ from rfl, hpic_get (k := 48) (e := .inr (.inl (0, 6))) rfl⟩
theorem pk_49 : PK cs h0 h1 a a' 49 := ⟨_, show (wAll cs h0 h1 a a')[73]? = _ from rfl, hpic_get (k := 49) (e := .inr (.inl (0, 6))) rfl⟩
theorem pk_50 : PK cs h0 h1 a a' 50 := ⟨_, show (wAll cs h0 h1 a a')[8]? = _ from rfl, hpic_get (k := 50) (e := .inl (1, [some 51, some 52, none, none, none])) rfl⟩
theorem pk_51 : PK cs h0 h1 a a' 51 := ⟨_, show (wAll cs h0 h1 a a')[9]? = _ from rfl, hpic_get (k := 51) (e := .inr (.inl (0, 96))) rfl⟩
theorem pk_52 : PK cs h0 h1 a a' 52 := ⟨_, show (wAll cs h0 h1 a a')[10]? = _ from rfl, hpic_get (k := 52) (e := .inr (.inl (0, 97))) rfl⟩
theorem pk_53 : PK cs h0 h1 a a' 53 := ⟨_, show (wAll cs h0 h1 a a')[11]? = _ from rfl, hpic_get (k := 53) (e := .inl (1, [some 54, some 55, none, none, none])) rfl⟩
theorem pk_54 : PK cs h0 h1 a a' 54 := ⟨_, show (wAll cs h0 h1 a a')[12]? = _ from rfl, hpic_get (k := 54) (e := .inr (.inl (0, 96))) rfl⟩
theorem pk_55 : PK cs h0 h1 a a' 55 := ⟨_, show (wAll cs h0 h1 a a')[13]? = _ from rfl, hpic_get (k := 55) (e := .inr (.inl (0, 97))) rfl⟩
theorem pk_56 : PK cs h0 h1 a a' 56 := ⟨_, show (wAll cs h0 h1 a a')[14]? = _ from rfl, hpic_get (k := 56) (e := .inl (1, [some 57, some 58, none, none, none])) rfl⟩
theorem pk_57 : PK cs h0 h1 a a' 57 := ⟨_, show (wAll cs h0 h1 a a')[15]? = _ from rfl, hpic_get (k := 57) (e := .inr (.inl (0, 96))) rfl⟩
theorem pk_58 : PK cs h0 h1 a a' 58 := ⟨_, show (wAll cs h0 h1 a a')[16]? = _ from rfl, hpic_get (k := 58) (e := .inr (.inl (0, 97))) rfl⟩
theorem pk_59 : PK cs h0 h1 a a' 59 := ⟨_, show (wAll cs h0 h1 a a')[17]? = _ from rfl, hpic_get (k := 59) (e := .inl (1, [some 60, some 61, none, none, none])) rfl⟩
theorem pk_60 : PK cs h0 h1 a a' 60 := ⟨_, show (wAll cs h0 h1 a a')[18]? = _ from rfl, hpic_get (k := 60) (e := .inr (.inl (0, 96))) rfl⟩
theorem pk_61 : PK cs h0 h1 a a' 61 := ⟨_, show (wAll cs h0 h1 a a')[19]? = _ from rfl, hpic_get (k := 61) (e := .inr (.inl (0, 97))) rfl⟩
theorem pk_62 : PK cs h0 h1 a a' 62 := ⟨_, show (wAll cs h0 h1 a a')[20]? = _ from rfl, hpic_get (k := 62) (e := .inl (1, [some 63, some 64, none, none, none])) rfl⟩
theorem pk_63 : PK cs h0 h1 a a' 63 := ⟨_, show (wAll cs h0 h1 a a')[21]? = _ from rfl, hpic_get (k := 63) (e := .inr (.inl (0, 96))) rfl⟩
theorem pk_64 : PK cs h0 h1 a a' 64 := ⟨_, show (wAll cs h0 h1 a a')[22]? = _ from rfl, hpic_get (k := 64) (e := .inr (.inl (0, 97))) rfl⟩
theorem pk_65 : PK cs h0 h1 a a' 65 := ⟨_, show (wAll cs h0 h1 a a')[23]? = _ from rfl, hpic_get (k := 65) (e := .inl (1, [some 66, some 67, none, none, none])) rfl⟩
theorem pk_66 : PK cs h0 h1 a a' 66 := ⟨_, show (wAll cs h0 h1 a a')[24]? = _ from rfl, hpic_get (k := 66) (e := .inr (.inl (0, 96))) rfl⟩
theorem pk_67 : PK cs h0 h1 a a' 67 := ⟨_, show (wAll cs h0 h1 a a')[25]? = _ from rfl, hpic_get (k := 67) (e := .inr (.inl (0, 97))) rfl⟩
theorem pk_68 : PK cs h0 h1 a a' 68 := ⟨_, show (wAll cs h0 h1 a a')[26]? = _ from rfl, hpic_get (k := 68) (e := .inl (1, [some 69, some 70, none, none, none])) rfl⟩
theorem pk_69 : PK cs h0 h1 a a' 69 := ⟨_, show (wAll cs h0 h1 a a')[27]? = _ from rfl, hpic_get (k := 69) (e := .inr (.inl (0, 96))) rfl⟩
theorem pk_70 : PK cs h0 h1 a a' 70 := ⟨_, show (wAll cs h0 h1 a a')[28]? = _ from rfl, hpic_get (k := 70) (e := .inr (.inl (0, 97))) rfl⟩
theorem pk_71 : PK cs h0 h1 a a' 71 := ⟨_, show (wAll cs h0 h1 a a')[29]? = _ from rfl, hpic_get (k := 71) (e := .inl (1, [some 72, some 73, none, none, none])) rfl⟩
theorem pk_72 : PK cs h0 h1 a a' 72 := ⟨_, show (wAll cs h0 h1 a a')[30]? = _ from rfl, hpic_get (k := 72) (e := .inr (.inl (0, 96))) rfl⟩
theorem pk_73 : PK cs h0 h1 a a' 73 := ⟨_, show (wAll cs h0 h1 a a')[31]? = _ from rfl, hpic_get (k := 73) (e := .inr (.inl (0, 97))) rfl⟩
theorem h74 : ([some 75, some 76, some 77, some 78, some 79, some 80, some 81, some 82, some 83, none, none, some 84, none, none, none, none, none, none, none, none, none, none, some 85, some 86, some 87, some 88, some 89, some 90, some 91, some 92, some 93, some 94, some 95, some 96, some 97, some 98, some 99, some 100, some 101, none, none, none, none, some 102, some 103, none, none, none, none, none, some 104, some 105, some 106, some 107, some 108, none] : List (Option Nat)).mapIdx (hfld (alS h0 h1 a a') M0 74) = [.ref (a' 75), .ref (a' 76), .ref (a' 77), .ref (a' 78), .ref (a' 79), .ref (a' 80), .ref (a' 81), .ref (a' 82), .ref (a' 83), .int 1, .int 0, .ref (a' 84), .int 0, .int 0, .int 0, .int 0, .int 0, .int 0, .int 0, .int 0, .int 0, .int 0, .ref (a' 85), .ref (a' 86), .ref (a' 87), .ref (a' 88), .ref (a' 89), .ref (a' 90), .ref (a' 91), .ref (a' 92), .ref (a' 93), .ref (a' 94), .ref (a' 95), .ref (a' 96), .ref (a' 97), .ref (a' 98), .ref (a' 99), .ref (a' 100), .ref (a' 101), .int 0, .int 0, .int 0, .int 0, .ref (a' 102), .ref (a' 103), .int 0, .int 0, .int 0, .int 0, .int 0, .ref (a' 104), .ref (a' 105), .ref (a' 106), .ref (a' 107), .ref (a' 108), .int 0] := by
  apply List.ext_getElem?
  intro j
  rw [List.getElem?_mapIdx]
  match j with
  | 0 => rfl
  | 1 => rfl
  | 2 => rfl
  | 3 => rfl
  | 4 => rfl
  | 5 => rfl
  | 6 => rfl
  | 7 => rfl
  | 8 => rfl
  | 9 => rfl
  | 10 => rfl
  | 11 => rfl
  | 12 => rfl
  | 13 => rfl
  | 14 => rfl
  | 15 => rfl
  | 16 => rfl
  | 17 => rfl
  | 18 => rfl
  | 19 => rfl
  | 20 => rfl
  | 21 => rfl
  | 22 => rfl
  | 23 => rfl
  | 24 => rfl
  | 25 => rfl
  | 26 => rfl
  | 27 => rfl
  | 28 => rfl
  | 29 => rfl
  | 30 => rfl
  | 31 => rfl
  | 32 => rfl
  | 33 => rfl
  | 34 => rfl
  | 35 => rfl
  | 36 => rfl
  | 37 => rfl
  | 38 => rfl
  | 39 => rfl
  | 40 => rfl
  | 41 => rfl
  | 42 => rfl
  | 43 => rfl
  | 44 => rfl
  | 45 => rfl
  | 46 => rfl
  | 47 => rfl
  | 48 => rfl
  | 49 => rfl
  | 50 => rfl
  | 51 => rfl
  | 52 => rfl
  | 53 => rfl
  | 54 => rfl
  | 55 => rfl
  | n + 56 => rfl
theorem pk_74 : PK cs h0 h1 a a' 74 := by
  refine ⟨_, ?_, hpic_get (k := 74) (e := .inl (12, [some 75, some 76, some 77, some 78, some 79, some 80, some 81, some 82, some 83, none, none, some 84, none, none, none, none, none, none, none, none, none, none, some 85, some 86, some 87, some 88, some 89, some 90, some 91, some 92, some 93, some 94, some 95, some 96, some 97, some 98, some 99, some 100, some 101, none, none, none, none, some 102, some 103, none, none, none, none, none, some 104, some 105, some 106, some 107, some 108, none])) rfl⟩
  show _ = some (h1, Sum.inr (12, ([some 75, some 76, some 77, some 78, some 79, some 80, some 81, some 82, some 83, none, none, some 84, none, none, none, none, none, none, none, none, none, none, some 85, some 86, some 87, some 88, some 89, some 90, some 91, some 92, some 93, some 94, some 95, some 96, some 97, some 98, some 99, some 100, some 101, none, none, none, none, some 102, some 103, none, none, none, none, none, some 104, some 105, some 106, some 107, some 108, none] : List (Option Nat)).mapIdx (hfld (alS h0 h1 a a') M0 74)))
  rw [h74]; rfl
theorem pk_75 : PK cs h0 h1 a a' 75 := ⟨_, show (wAll cs h0 h1 a a')[75]? = _ from rfl, hpic_get (k := 75) (e := .inr (.inl (0, 32))) rfl⟩
theorem pk_76 : PK cs h0 h1 a a' 76 := ⟨_, show (wAll cs h0 h1 a a')[76]? = _ from rfl, hpic_get (k := 76) (e := .inr (.inl (0, 32))) rfl⟩
theorem pk_77 : PK cs h0 h1 a a' 77 := ⟨_, show (wAll cs h0 h1 a a')[77]? = _ from rfl, hpic_get (k := 77) (e := .inr (.inl (0, 32))) rfl⟩
theorem pk_78 : PK cs h0 h1 a a' 78 := ⟨_, show (wAll cs h0 h1 a a')[78]? = _ from rfl, hpic_get (k := 78) (e := .inr (.inl (0, 8))) rfl⟩
theorem pk_79 : PK cs h0 h1 a a' 79 := ⟨_, show (wAll cs h0 h1 a a')[79]? = _ from rfl, hpic_get (k := 79) (e := .inr (.inl (0, 8))) rfl⟩
theorem pk_80 : PK cs h0 h1 a a' 80 := ⟨_, show (wAll cs h0 h1 a a')[80]? = _ from rfl, hpic_get (k := 80) (e := .inr (.inl (0, 768))) rfl⟩
theorem pk_81 : PK cs h0 h1 a a' 81 := ⟨_, show (wAll cs h0 h1 a a')[81]? = _ from rfl, hpic_get (k := 81) (e := .inr (.inl (0, 776))) rfl⟩
theorem pk_82 : PK cs h0 h1 a a' 82 := ⟨_, show (wAll cs h0 h1 a a')[82]? = _ from rfl, hpic_get (k := 82) (e := .inr (.inl (0, 192))) rfl⟩
theorem pk_83 : PK cs h0 h1 a a' 83 := ⟨_, show (wAll cs h0 h1 a a')[83]? = _ from rfl, hpic_get (k := 83) (e := .inr (.inl (0, 192))) rfl⟩
theorem pk_84 : PK cs h0 h1 a a' 84 := ⟨_, show (wAll cs h0 h1 a a')[84]? = _ from rfl, hpic_get (k := 84) (e := .inr (.inl (1, 260))) rfl⟩
theorem pk_85 : PK cs h0 h1 a a' 85 := ⟨_, show (wAll cs h0 h1 a a')[85]? = _ from rfl, hpic_get (k := 85) (e := .inr (.inl (0, 260))) rfl⟩
theorem pk_86 : PK cs h0 h1 a a' 86 := ⟨_, show (wAll cs h0 h1 a a')[86]? = _ from rfl, hpic_get (k := 86) (e := .inr (.inl (0, 260))) rfl⟩
theorem pk_87 : PK cs h0 h1 a a' 87 := ⟨_, show (wAll cs h0 h1 a a')[87]? = _ from rfl, hpic_get (k := 87) (e := .inr (.inl (0, 16))) rfl⟩
theorem pk_88 : PK cs h0 h1 a a' 88 := ⟨_, show (wAll cs h0 h1 a a')[88]? = _ from rfl, hpic_get (k := 88) (e := .inr (.inl (0, 16))) rfl⟩
theorem pk_89 : PK cs h0 h1 a a' 89 := ⟨_, show (wAll cs h0 h1 a a')[89]? = _ from rfl, hpic_get (k := 89) (e := .inr (.inl (0, 16))) rfl⟩
theorem pk_90 : PK cs h0 h1 a a' 90 := ⟨_, show (wAll cs h0 h1 a a')[90]? = _ from rfl, hpic_get (k := 90) (e := .inr (.inl (0, 16))) rfl⟩
theorem pk_91 : PK cs h0 h1 a a' 91 := ⟨_, show (wAll cs h0 h1 a a')[91]? = _ from rfl, hpic_get (k := 91) (e := .inr (.inl (0, 260))) rfl⟩
theorem pk_92 : PK cs h0 h1 a a' 92 := ⟨_, show (wAll cs h0 h1 a a')[92]? = _ from rfl, hpic_get (k := 92) (e := .inr (.inl (0, 16))) rfl⟩
theorem pk_93 : PK cs h0 h1 a a' 93 := ⟨_, show (wAll cs h0 h1 a a')[93]? = _ from rfl, hpic_get (k := 93) (e := .inr (.inl (0, 16))) rfl⟩
theorem pk_94 : PK cs h0 h1 a a' 94 := ⟨_, show (wAll cs h0 h1 a a')[94]? = _ from rfl, hpic_get (k := 94) (e := .inr (.inl (0, 16))) rfl⟩
theorem pk_95 : PK cs h0 h1 a a' 95 := ⟨_, show (wAll cs h0 h1 a a')[95]? = _ from rfl, hpic_get (k := 95) (e := .inr (.inl (0, 16))) rfl⟩
theorem pk_96 : PK cs h0 h1 a a' 96 := ⟨_, show (wAll cs h0 h1 a a')[96]? = _ from rfl, hpic_get (k := 96) (e := .inr (.inl (0, 260))) rfl⟩
theorem pk_97 : PK cs h0 h1 a a' 97 := ⟨_, show (wAll cs h0 h1 a a')[97]? = _ from rfl, hpic_get (k := 97) (e := .inr (.inl (0, 8))) rfl⟩
theorem pk_98 : PK cs h0 h1 a a' 98 := ⟨_, show (wAll cs h0 h1 a a')[98]? = _ from rfl, hpic_get (k := 98) (e := .inr (.inl (0, 96))) rfl⟩
theorem pk_99 : PK cs h0 h1 a a' 99 := ⟨_, show (wAll cs h0 h1 a a')[99]? = _ from rfl, hpic_get (k := 99) (e := .inr (.inl (0, 2))) rfl⟩
theorem pk_100 : PK cs h0 h1 a a' 100 := ⟨_, show (wAll cs h0 h1 a a')[100]? = _ from rfl, hpic_get (k := 100) (e := .inr (.inl (0, 2))) rfl⟩
theorem pk_101 : PK cs h0 h1 a a' 101 := ⟨_, show (wAll cs h0 h1 a a')[101]? = _ from rfl, hpic_get (k := 101) (e := .inr (.inl (0, 2))) rfl⟩
theorem pk_102 : PK cs h0 h1 a a' 102 := ⟨_, show (wAll cs h0 h1 a a')[102]? = _ from rfl, hpic_get (k := 102) (e := .inr (.inl (0, 192))) rfl⟩
theorem pk_103 : PK cs h0 h1 a a' 103 := ⟨_, show (wAll cs h0 h1 a a')[103]? = _ from rfl, hpic_get (k := 103) (e := .inr (.inl (0, 192))) rfl⟩
theorem pk_104 : PK cs h0 h1 a a' 104 := ⟨_, show (wAll cs h0 h1 a a')[104]? = _ from rfl, hpic_get (k := 104) (e := .inr (.inl (0, 97))) rfl⟩
theorem pk_105 : PK cs h0 h1 a a' 105 := ⟨_, show (wAll cs h0 h1 a a')[105]? = _ from rfl, hpic_get (k := 105) (e := .inr (.inl (0, 10))) rfl⟩
theorem pk_106 : PK cs h0 h1 a a' 106 := ⟨_, show (wAll cs h0 h1 a a')[106]? = _ from rfl, hpic_get (k := 106) (e := .inr (.inl (0, 192))) rfl⟩
theorem pk_107 : PK cs h0 h1 a a' 107 := ⟨_, show (wAll cs h0 h1 a a')[107]? = _ from rfl, hpic_get (k := 107) (e := .inr (.inl (0, 192))) rfl⟩
theorem pk_108 : PK cs h0 h1 a a' 108 := ⟨_, show (wAll cs h0 h1 a a')[108]? = _ from rfl, hpic_get (k := 108) (e := .inr (.inl (2, 192))) rfl⟩
theorem pl_0 : ∀ k, k < 0 → PK cs h0 h1 a a' k := fun k h => absurd h (by omega)
theorem pl_1 : ∀ k, k < 1 → PK cs h0 h1 a a' k := fun k h => by
  by_cases e : k = 0
  · subst e; exact pk_0 cs h0 h1 a a'
  · exact pl_0 cs h0 h1 a a' k (by omega)
theorem pl_2 : ∀ k, k < 2 → PK cs h0 h1 a a' k := fun k h => by
  by_cases e : k = 1
  · subst e; exact pk_1 cs h0 h1 a a'
  · exact pl_1 cs h0 h1 a a' k (by omega)
theorem pl_3 : ∀ k, k < 3 → PK cs h0 h1 a a' k := fun k h => by
  by_cases e : k = 2
  · subst e; exact pk_2 cs h0 h1 a a'
  · exact pl_2 cs h0 h1 a a' k (by omega)
theorem pl_4 : ∀ k, k < 4 → PK cs h0 h1 a a' k := fun k h => by
  by_cases e : k = 3
  · subst e; exact pk_3 cs h0 h1 a a'
  · exact pl_3 cs h0 h1 a a' k (by omega)
theorem pl_5 : ∀ k, k < 5 → PK cs h0 h1 a a' k := fun k h => by
  by_cases e : k = 4
  · subst e; exact pk_4 cs h0 h1 a a'
  · exact pl_4 cs h0 h1 a a' k (by omega)
theorem pl_6 : ∀ k, k < 6 → PK cs h0 h1 a a' k := fun k h => by
  by_cases e : k = 5
  · subst e; exact pk_5 cs h0 h1 a a'
  · exact pl_5 cs h0 h1 a a' k (by omega)
theorem pl_7 : ∀ k, k < 7 → PK cs h0 h1 a a' k := fun k h => by
  by_cases e : k = 6
  · subst e; exact pk_6 cs h0 h1 a a'
  · exact pl_6 cs h0 h1 a a' k (by omega)
theorem pl_8 : ∀ k, k < 8 → PK cs h0 h1 a a' k := fun k h => by
  by_cases e : k = 7
  · subst e; exact pk_7 cs h0 h1 a a'
  · exact pl_7 cs h0 h1 a a' k (by omega)
theorem pl_9 : ∀ k, k < 9 → PK cs h0 h1 a a' k := fun k h => by
  by_cases e : k = 8
  · subst e; exact pk_8 cs h0 h1 a a'
  · exact pl_8 cs h0 h1 a a' k (by omega)
theorem pl_10 : ∀ k, k < 10 → PK cs h0 h1 a a' k := fun k h => by
  by_cases e : k = 9
  · subst e; exact pk_9 cs h0 h1 a a'
  · exact pl_9 cs h0 h1 a a' k (by omega)
theorem pl_11 : ∀ k, k < 11 → PK cs h0 h1 a a' k := fun k h => by
  by_cases e : k = 10
  · subst e; exact pk_10 cs h0 h1 a a'
  · exact pl_10 cs h0 h1 a a' k (by omega)
theorem pl_12 : ∀ k, k < 12 → PK cs h0 h1 a a' k := fun k h => by
  by_cases e : k = 11
  · subst e; exact pk_11 cs h0 h1 a a'
  · exact pl_11 cs h0 h1 a a' k (by omega)
theorem pl_13 : ∀ k, k < 13 → PK cs h0 h1 a a' k := fun k h => by
  by_cases e : k = 12
  · subst e; exact pk_12 cs h0 h1 a a'
  · exact pl_12 cs h0 h1 a a' k (by omega)
theorem pl_14 : ∀ k, k < 14 → PK cs h0 h1 a a' k := fun k h => by
  by_cases e : k = 13
  · subst e; exact pk_13 cs h0 h1 a a'
  · exact pl_13 cs h0 h1 a a' k (by omega)
theorem pl_15 : ∀ k, k < 15 → PK cs h0 h1 a a' k := fun k h => by
  by_cases e : k = 14
  · subst e; exact pk_14 cs h0 h1 a a'
  · exact pl_14 cs h0 h1 a a' k (by omega)
theorem pl_16 : ∀ k, k < 16 → PK cs h0 h1 a a' k := fun k h => by
  by_cases e : k = 15
  · subst e; exact pk_15 cs h0 h1 a a'
  · exact pl_15 cs h0 h1 a a' k (by omega)
theorem pl_17 : ∀ k, k < 17 → PK cs h0 h1 a a' k := fun k h => by
  by_cases e : k = 16
  · subst e; exact pk_16 cs h0 h1 a a'
  · exact pl_16 cs h0 h1 a a' k (by omega)
theorem pl_18 : ∀ k, k < 18 → PK cs h0 h1 a a' k := fun k h => by
  by_cases e : k = 17
  · subst e; exact pk_17 cs h0 h1 a a'
  · exact pl_17 cs h0 h1 a a' k (by omega)
theorem pl_19 : ∀ k, k < 19 → PK cs h0 h1 a a' k := fun k h => by
  by_cases e : k = 18
  · subst e; exact pk_18 cs h0 h1 a a'
  · exact pl_18 cs h0 h1 a a' k (by omega)
theorem pl_20 : ∀ k, k < 20 → PK cs h0 h1 a a' k := fun k h => by
  by_cases e : k = 19
  · subst e; exact pk_19 cs h0 h1 a a'
  · exact pl_19 cs h0 h1 a a' k (by omega)
theorem pl_21 : ∀ k, k < 21 → PK cs h0 h1 a a' k := fun k h => by
  by_cases e : k = 20
  · subst e; exact pk_20 cs h0 h1 a a'
  · exact pl_20 cs h0 h1 a a' k (by omega)
theorem pl_22 : ∀ k, k < 22 → PK cs h0 h1 a a' k := fun k h => by
  by_cases e : k = 21
  · subst e; exact pk_21 cs h0 h1 a a'
  · exact pl_21 cs h0 h1 a a' k (by omega)
theorem pl_23 : ∀ k, k < 23 → PK cs h0 h1 a a' k := fun k h => by
  by_cases e : k = 22
  · subst e; exact pk_22 cs h0 h1 a a'
  · exact pl_22 cs h0 h1 a a' k (by omega)
theorem pl_24 : ∀ k, k < 24 → PK cs h0 h1 a a' k := fun k h => by
  by_cases e : k = 23
  · subst e; exact pk_23 cs h0 h1 a a'
  · exact pl_23 cs h0 h1 a a' k (by omega)
theorem pl_25 : ∀ k, k < 25 → PK cs h0 h1 a a' k := fun k h => by
  by_cases e : k = 24
  · subst e; exact pk_24 cs h0 h1 a a'
  · exact pl_24 cs h0 h1 a a' k (by omega)
theorem pl_26 : ∀ k, k < 26 → PK cs h0 h1 a a' k := fun k h => by
  by_cases e : k = 25
  · subst e; exact pk_25 cs h0 h1 a a'
  · exact pl_25 cs h0 h1 a a' k (by omega)
theorem pl_27 : ∀ k, k < 27 → PK cs h0 h1 a a' k := fun k h => by
  by_cases e : k = 26
  · subst e; exact pk_26 cs h0 h1 a a'
  · exact pl_26 cs h0 h1 a a' k (by omega)
theorem pl_28 : ∀ k, k < 28 → PK cs h0 h1 a a' k := fun k h => by
  by_cases e : k = 27
  · subst e; exact pk_27 cs h0 h1 a a'
  · exact pl_27 cs h0 h1 a a' k (by omega)
theorem pl_29 : ∀ k, k < 29 → PK cs h0 h1 a a' k := fun k h => by
  by_cases e : k = 28
  · subst e; exact pk_28 cs h0 h1 a a'
  · exact pl_28 cs h0 h1 a a' k (by omega)
theorem pl_30 : ∀ k, k < 30 → PK cs h0 h1 a a' k := fun k h => by
  by_cases e : k = 29
  · subst e; exact pk_29 cs h0 h1 a a'
  · exact pl_29 cs h0 h1 a a' k (by omega)
theorem pl_31 : ∀ k, k < 31 → PK cs h0 h1 a a' k := fun k h => by
  by_cases e : k = 30
  · subst e; exact pk_30 cs h0 h1 a a'
  · exact pl_30 cs h0 h1 a a' k (by omega)
theorem pl_32 : ∀ k, k < 32 → PK cs h0 h1 a a' k := fun k h => by
  by_cases e : k = 31
  · subst e; exact pk_31 cs h0 h1 a a'
  · exact pl_31 cs h0 h1 a a' k (by omega)
theorem pl_33 : ∀ k, k < 33 → PK cs h0 h1 a a' k := fun k h => by
  by_cases e : k = 32
  · subst e; exact pk_32 cs h0 h1 a a'
  · exact pl_32 cs h0 h1 a a' k (by omega)
theorem pl_34 : ∀ k, k < 34 → PK cs h0 h1 a a' k := fun k h => by
  by_cases e : k = 33
  · subst e; exact pk_33 cs h0 h1 a a'
  · exact pl_33 cs h0 h1 a a' k (by omega)
theorem pl_35 : ∀ k, k < 35 → PK cs h0 h1 a a' k := fun k h => by
  by_cases e : k = 34
  · subst e; exact pk_34 cs h0 h1 a a'
  · exact pl_34 cs h0 h1 a a' k (by omega)
theorem pl_36 : ∀ k, k < 36 → PK cs h0 h1 a a' k := fun k h => by
  by_cases e : k = 35
  · subst e; exact pk_35 cs h0 h1 a a'
  · exact pl_35 cs h0 h1 a a' k (by omega)
theorem pl_37 : ∀ k, k < 37 → PK cs h0 h1 a a' k := fun k h => by
  by_cases e : k = 36
  · subst e; exact pk_36 cs h0 h1 a a'
  · exact pl_36 cs h0 h1 a a' k (by omega)
theorem pl_38 : ∀ k, k < 38 → PK cs h0 h1 a a' k := fun k h => by
  by_cases e : k = 37
  · subst e; exact pk_37 cs h0 h1 a a'
  · exact pl_37 cs h0 h1 a a' k (by omega)
theorem pl_39 : ∀ k, k < 39 → PK cs h0 h1 a a' k := fun k h => by
  by_cases e : k = 38
  · subst e; exact pk_38 cs h0 h1 a a'
  · exact pl_38 cs h0 h1 a a' k (by omega)
theorem pl_40 : ∀ k, k < 40 → PK cs h0 h1 a a' k := fun k h => by
  by_cases e : k = 39
  · subst e; exact pk_39 cs h0 h1 a a'
  · exact pl_39 cs h0 h1 a a' k (by omega)
theorem pl_41 : ∀ k, k < 41 → PK cs h0 h1 a a' k := fun k h => by
  by_cases e : k = 40
  · subst e; exact pk_40 cs h0 h1 a a'
  · exact pl_40 cs h0 h1 a a' k (by omega)
theorem pl_42 : ∀ k, k < 42 → PK cs h0 h1 a a' k := fun k h => by
  by_cases e : k = 41
  · subst e; exact pk_41 cs h0 h1 a a'
  · exact pl_41 cs h0 h1 a a' k (by omega)
theorem pl_43 : ∀ k, k < 43 → PK cs h0 h1 a a' k := fun k h => by
  by_cases e : k = 42
  · subst e; exact pk_42 cs h0 h1 a a'
  · exact pl_42 cs h0 h1 a a' k (by omega)
theorem pl_44 : ∀ k, k < 44 → PK cs h0 h1 a a' k := fun k h => by
  by_cases e : k = 43
  · subst e; exact pk_43 cs h0 h1 a a'
  · exact pl_43 cs h0 h1 a a' k (by omega)
theorem pl_45 : ∀ k, k < 45 → PK cs h0 h1 a a' k := fun k h => by
  by_cases e : k = 44
  · subst e; exact pk_44 cs h0 h1 a a'
  · exact pl_44 cs h0 h1 a a' k (by omega)
theorem pl_46 : ∀ k, k < 46 → PK cs h0 h1 a a' k := fun k h => by
  by_cases e : k = 45
  · subst e; exact pk_45 cs h0 h1 a a'
  · exact pl_45 cs h0 h1 a a' k (by omega)
theorem pl_47 : ∀ k, k < 47 → PK cs h0 h1 a a' k := fun k h => by
  by_cases e : k = 46
  · subst e; exact pk_46 cs h0 h1 a a'
  · exact pl_46 cs h0 h1 a a' k (by omega)
theorem pl_48 : ∀ k, k < 48 → PK cs h0 h1 a a' k := fun k h => by
  by_cases e : k = 47
  · subst e; exact pk_47 cs h0 h1 a a'
  · exact pl_47 cs h0 h1 a a' k (by omega)
theorem pl_49 : ∀ k, k < 49 → PK cs h0 h1 a a' k := fun k h => by
  by_cases e : k = 48
  · subst e; exact pk_48 cs h0 h1 a a'
  · exact pl_48 cs h0 h1 a a' k (by omega)
theorem pl_50 : ∀ k, k < 50 → PK cs h0 h1 a a' k := fun k h => by
  by_cases e : k = 49
  · subst e; exact pk_49 cs h0 h1 a a'
  · exact pl_49 cs h0 h1 a a' k (by omega)
theorem pl_51 : ∀ k, k < 51 → PK cs h0 h1 a a' k := fun k h => by
  by_cases e : k = 50
  · subst e; exact pk_50 cs h0 h1 a a'
  · exact pl_50 cs h0 h1 a a' k (by omega)
theorem pl_52 : ∀ k, k < 52 → PK cs h0 h1 a a' k := fun k h => by
  by_cases e : k = 51
  · subst e; exact pk_51 cs h0 h1 a a'
  · exact pl_51 cs h0 h1 a a' k (by omega)
theorem pl_53 : ∀ k, k < 53 → PK cs h0 h1 a a' k := fun k h => by
  by_cases e : k = 52
  · subst e; exact pk_52 cs h0 h1 a a'
  · exact pl_52 cs h0 h1 a a' k (by omega)
theorem pl_54 : ∀ k, k < 54 → PK cs h0 h1 a a' k := fun k h => by
  by_cases e : k = 53
  · subst e; exact pk_53 cs h0 h1 a a'
  · exact pl_53 cs h0 h1 a a' k (by omega)
theorem pl_55 : ∀ k, k < 55 → PK cs h0 h1 a a' k := fun k h => by
  by_cases e : k = 54
  · subst e; exact pk_54 cs h0 h1 a a'
  · exact pl_54 cs h0 h1 a a' k (by omega)
theorem pl_56 : ∀ k, k < 56 → PK cs h0 h1 a a' k := fun k h => by
  by_cases e : k = 55
  · subst e; exact pk_55 cs h0 h1 a a'
  · exact pl_55 cs h0 h1 a a' k (by omega)
theorem pl_57 : ∀ k, k < 57 → PK cs h0 h1 a a' k := fun k h => by
  by_cases e : k = 56
  · subst e; exact pk_56 cs h0 h1 a a'
  · exact pl_56 cs h0 h1 a a' k (by omega)
theorem pl_58 : ∀ k, k < 58 → PK cs h0 h1 a a' k := fun k h => by
  by_cases e : k = 57
  · subst e; exact pk_57 cs h0 h1 a a'
  · exact pl_57 cs h0 h1 a a' k (by omega)
theorem pl_59 : ∀ k, k < 59 → PK cs h0 h1 a a' k := fun k h => by
  by_cases e : k = 58
  · subst e; exact pk_58 cs h0 h1 a a'
  · exact pl_58 cs h0 h1 a a' k (by omega)
theorem pl_60 : ∀ k, k < 60 → PK cs h0 h1 a a' k := fun k h => by
  by_cases e : k = 59
  · subst e; exact pk_59 cs h0 h1 a a'
  · exact pl_59 cs h0 h1 a a' k (by omega)
theorem pl_61 : ∀ k, k < 61 → PK cs h0 h1 a a' k := fun k h => by
  by_cases e : k = 60
  · subst e; exact pk_60 cs h0 h1 a a'
  · exact pl_60 cs h0 h1 a a' k (by omega)
theorem pl_62 : ∀ k, k < 62 → PK cs h0 h1 a a' k := fun k h => by
  by_cases e : k = 61
  · subst e; exact pk_61 cs h0 h1 a a'
  · exact pl_61 cs h0 h1 a a' k (by omega)
theorem pl_63 : ∀ k, k < 63 → PK cs h0 h1 a a' k := fun k h => by
  by_cases e : k = 62
  · subst e; exact pk_62 cs h0 h1 a a'
  · exact pl_62 cs h0 h1 a a' k (by omega)
theorem pl_64 : ∀ k, k < 64 → PK cs h0 h1 a a' k := fun k h => by
  by_cases e : k = 63
  · subst e; exact pk_63 cs h0 h1 a a'
  · exact pl_63 cs h0 h1 a a' k (by omega)
theorem pl_65 : ∀ k, k < 65 → PK cs h0 h1 a a' k := fun k h => by
  by_cases e : k = 64
  · subst e; exact pk_64 cs h0 h1 a a'
  · exact pl_64 cs h0 h1 a a' k (by omega)
theorem pl_66 : ∀ k, k < 66 → PK cs h0 h1 a a' k := fun k h => by
  by_cases e : k = 65
  · subst e; exact pk_65 cs h0 h1 a a'
  · exact pl_65 cs h0 h1 a a' k (by omega)
theorem pl_67 : ∀ k, k < 67 → PK cs h0 h1 a a' k := fun k h => by
  by_cases e : k = 66
  · subst e; exact pk_66 cs h0 h1 a a'
  · exact pl_66 cs h0 h1 a a' k (by omega)
theorem pl_68 : ∀ k, k < 68 → PK cs h0 h1 a a' k := fun k h => by
  by_cases e : k = 67
  · subst e; exact pk_67 cs h0 h1 a a'
  · exact pl_67 cs h0 h1 a a' k (by omega)
theorem pl_69 : ∀ k, k < 69 → PK cs h0 h1 a a' k := fun k h => by
  by_cases e : k = 68
  · subst e; exact pk_68 cs h0 h1 a a'
  · exact pl_68 cs h0 h1 a a' k (by omega)
theorem pl_70 : ∀ k, k < 70 → PK cs h0 h1 a a' k := fun k h => by
  by_cases e : k = 69
  · subst e; exact pk_69 cs h0 h1 a a'
  · exact pl_69 cs h0 h1 a a' k (by omega)
theorem pl_71 : ∀ k, k < 71 → PK cs h0 h1 a a' k := fun k h => by
  by_cases e : k = 70
  · subst e; exact pk_70 cs h0 h1 a a'
  · exact pl_70 cs h0 h1 a a' k (by omega)
theorem pl_72 : ∀ k, k < 72 → PK cs h0 h1 a a' k := fun k h => by
  by_cases e : k = 71
  · subst e; exact pk_71 cs h0 h1 a a'
  · exact pl_71 cs h0 h1 a a' k (by omega)
theorem pl_73 : ∀ k, k < 73 → PK cs h0 h1 a a' k := fun k h => by
  by_cases e : k = 72
  · subst e; exact pk_72 cs h0 h1 a a'
  · exact pl_72 cs h0 h1 a a' k (by omega)
theorem pl_74 : ∀ k, k < 74 → PK cs h0 h1 a a' k := fun k h => by
  by_cases e : k = 73
  · subst e; exact pk_73 cs h0 h1 a a'
  · exact pl_73 cs h0 h1 a a' k (by omega)
theorem pl_75 : ∀ k, k < 75 → PK cs h0 h1 a a' k := fun k h => by
  by_cases e : k = 74
  · subst e; exact pk_74 cs h0 h1 a a'
  · exact pl_74 cs h0 h1 a a' k (by omega)
theorem pl_76 : ∀ k, k < 76 → PK cs h0 h1 a a' k := fun k h => by
  by_cases e : k = 75
  · subst e; exact pk_75 cs h0 h1 a a'
  · exact pl_75 cs h0 h1 a a' k (by omega)
theorem pl_77 : ∀ k, k < 77 → PK cs h0 h1 a a' k := fun k h => by
  by_cases e : k = 76
  · subst e; exact pk_76 cs h0 h1 a a'
  · exact pl_76 cs h0 h1 a a' k (by omega)
theorem pl_78 : ∀ k, k < 78 → PK cs h0 h1 a a' k := fun k h => by
  by_cases e : k = 77
  · subst e; exact pk_77 cs h0 h1 a a'
  · exact pl_77 cs h0 h1 a a' k (by omega)
theorem pl_79 : ∀ k, k < 79 → PK cs h0 h1 a a' k := fun k h => by
  by_cases e : k = 78
  · subst e; exact pk_78 cs h0 h1 a a'
  · exact pl_78 cs h0 h1 a a' k (by omega)
theorem pl_80 : ∀ k, k < 80 → PK cs h0 h1 a a' k := fun k h => by
  by_cases e : k = 79
  · subst e; exact pk_79 cs h0 h1 a a'
  · exact pl_79 cs h0 h1 a a' k (by omega)
theorem pl_81 : ∀ k, k < 81 → PK cs h0 h1 a a' k := fun k h => by
  by_cases e : k = 80
  · subst e; exact pk_80 cs h0 h1 a a'
  · exact pl_80 cs h0 h1 a a' k (by omega)
theorem pl_82 : ∀ k, k < 82 → PK cs h0 h1 a a' k := fun k h => by
  by_cases e : k = 81
  · subst e; exact pk_81 cs h0 h1 a a'
  · exact pl_81 cs h0 h1 a a' k (by omega)
theorem pl_83 : ∀ k, k < 83 → PK cs h0 h1 a a' k := fun k h => by
  by_cases e : k = 82
  · subst e; exact pk_82 cs h0 h1 a a'
  · exact pl_82 cs h0 h1 a a' k (by omega)
theorem pl_84 : ∀ k, k < 84 → PK cs h0 h1 a a' k := fun k h => by
  by_cases e : k = 83
  · subst e; exact pk_83 cs h0 h1 a a'
  · exact pl_83 cs h0 h1 a a' k (by omega)
theorem pl_85 : ∀ k, k < 85 → PK cs h0 h1 a a' k := fun k h => by
  by_cases e : k = 84
  · subst e; exact pk_84 cs h0 h1 a a'
  · exact pl_84 cs h0 h1 a a' k (by omega)
theorem pl_86 : ∀ k, k < 86 → PK cs h0 h1 a a' k := fun k h => by
  by_cases e : k = 85
  · subst e; exact pk_85 cs h0 h1 a a'
  · exact pl_85 cs h0 h1 a a' k (by omega)
theorem pl_87 : ∀ k, k < 87 → PK cs h0 h1 a a' k := fun k h => by
  by_cases e : k = 86
  · subst e; exact pk_86 cs h0 h1 a a'
  · exact pl_86 cs h0 h1 a a' k (by omega)
theorem pl_88 : ∀ k, k < 88 → PK cs h0 h1 a a' k := fun k h => by
  by_cases e : k = 87
  · subst e; exact pk_87 cs h0 h1 a a'
  · exact pl_87 cs h0 h1 a a' k (by omega)
theorem pl_89 : ∀ k, k < 89 → PK cs h0 h1 a a' k := fun k h => by
  by_cases e : k = 88
  · subst e; exact pk_88 cs h0 h1 a a'
  · exact pl_88 cs h0 h1 a a' k (by omega)
theorem pl_90 : ∀ k, k < 90 → PK cs h0 h1 a a' k := fun k h => by
  by_cases e : k = 89
  · subst e; exact pk_89 cs h0 h1 a a'
  · exact pl_89 cs h0 h1 a a' k (by omega)
theorem pl_91 : ∀ k, k < 91 → PK cs h0 h1 a a' k := fun k h => by
  by_cases e : k = 90
  · subst e; exact pk_90 cs h0 h1 a a'
  · exact pl_90 cs h0 h1 a a' k (by omega)
theorem pl_92 : ∀ k, k < 92 → PK cs h0 h1 a a' k := fun k h => by
  by_cases e : k = 91
  · subst e; exact pk_91 cs h0 h1 a a'
  · exact pl_91 cs h0 h1 a a' k (by omega)
theorem pl_93 : ∀ k, k < 93 → PK cs h0 h1 a a' k := fun k h => by
  by_cases e : k = 92
  · subst e; exact pk_92 cs h0 h1 a a'
  · exact pl_92 cs h0 h1 a a' k (by omega)
theorem pl_94 : ∀ k, k < 94 → PK cs h0 h1 a a' k := fun k h => by
  by_cases e : k = 93
  · subst e; exact pk_93 cs h0 h1 a a'
  · exact pl_93 cs h0 h1 a a' k (by omega)
theorem pl_95 : ∀ k, k < 95 → PK cs h0 h1 a a' k := fun k h => by
  by_cases e : k = 94
  · subst e; exact pk_94 cs h0 h1 a a'
  · exact pl_94 cs h0 h1 a a' k (by omega)
theorem pl_96 : ∀ k, k < 96 → PK cs h0 h1 a a' k := fun k h => by
  by_cases e : k = 95
  · subst e; exact pk_95 cs h0 h1 a a'
  · exact pl_95 cs h0 h1 a a' k (by omega)
theorem pl_97 : ∀ k, k < 97 → PK cs h0 h1 a a' k := fun k h => by
  by_cases e : k = 96
  · subst e; exact pk_96 cs h0 h1 a a'
  · exact pl_96 cs h0 h1 a a' k (by omega)
theorem pl_98 : ∀ k, k < 98 → PK cs h0 h1 a a' k := fun k h => by
  by_cases e : k = 97
  · subst e; exact pk_97 cs h0 h1 a a'
  · exact pl_97 cs h0 h1 a a' k (by omega)
theorem pl_99 : ∀ k, k < 99 → PK cs h0 h1 a a' k := fun k h => by
  by_cases e : k = 98
  · subst e; exact pk_98 cs h0 h1 a a'
  · exact pl_98 cs h0 h1 a a' k (by omega)
theorem pl_100 : ∀ k, k < 100 → PK cs h0 h1 a a' k := fun k h => by
  by_cases e : k = 99
  · subst e; exact pk_99 cs h0 h1 a a'
  · exact pl_99 cs h0 h1 a a' k (by omega)
theorem pl_101 : ∀ k, k < 101 → PK cs h0 h1 a a' k := fun k h => by
  by_cases e : k = 100
  · subst e; exact pk_100 cs h0 h1 a a'
  · exact pl_100 cs h0 h1 a a' k (by omega)
theorem pl_102 : ∀ k, k < 102 → PK cs h0 h1 a a' k := fun k h => by
  by_cases e : k = 101
  · subst e; exact pk_101 cs h0 h1 a a'
  · exact pl_101 cs h0 h1 a a' k (by omega)
theorem pl_103 : ∀ k, k < 103 → PK cs h0 h1 a a' k := fun k h => by
  by_cases e : k = 102
  · subst e; exact pk_102 cs h0 h1 a a'
  · exact pl_102 cs h0 h1 a a' k (by omega)
theorem pl_104 : ∀ k, k < 104 → PK cs h0 h1 a a' k := fun k h => by
  by_cases e : k = 103
  · subst e; exact pk_103 cs h0 h1 a a'
  · exact pl_103 cs h0 h1 a a' k (by omega)
theorem pl_105 : ∀ k, k < 105 → PK cs h0 h1 a a' k := fun k h => by
  by_cases e : k = 104
  · subst e; exact pk_104 cs h0 h1 a a'
  · exact pl_104 cs h0 h1 a a' k (by omega)
theorem pl_106 : ∀ k, k < 106 → PK cs h0 h1 a a' k := fun k h => by
  by_cases e : k = 105
  · subst e; exact pk_105 cs h0 h1 a a'
  · exact pl_105 cs h0 h1 a a' k (by omega)
theorem pl_107 : ∀ k, k < 107 → PK cs h0 h1 a a' k := fun k h => by
  by_cases e : k = 106
  · subst e; exact pk_106 cs h0 h1 a a'
  · exact pl_106 cs h0 h1 a a' k (by omega)
theorem pl_108 : ∀ k, k < 108 → PK cs h0 h1 a a' k := fun k h => by
  by_cases e : k = 107
  · subst e; exact pk_107 cs h0 h1 a a'
  · exact pl_107 cs h0 h1 a a' k (by omega)
theorem pl_109 : ∀ k, k < 109 → PK cs h0 h1 a a' k := fun k h => by
  by_cases e : k = 108
  · subst e; exact pk_108 cs h0 h1 a a'
  · exact pl_108 cs h0 h1 a a' k (by omega)
end PKS
theorem pos_inj {i j : Nat} (hi : i < 109) (hj : j < 109) (h : pos i = pos j) : i = j := by
  unfold pos at h
  repeat' split at h
  all_goals omega
theorem start_pic {dC : Nat → ClassId} {dI : Nat → Nat → Nat} {cs : Nat → ClassId} {h0 h1 : Nat} {a a' : Nat → Nat} {A : Nat → Prop} {H : Heap} (hP : va_P (dC, dI) vwCl (w_X11 cs h0 a ++ w_X12 cs h1 a') H) (hD : va_D A (w_X11 cs h0 a ++ w_X12 cs h1 a')) : va_P (dC, dI) vwCl (hpic (alS h0 h1 a a') cs M0) H ∧ hal (alS h0 h1 a a') ∧ ∀ k, k < 109 → A (alS h0 h1 a a' k) := by
  rw [wAll_eq] at hP hD
  refine ⟨fun k q hk => ?_, fun i j hi hj e => ?_, fun k hk => ?_⟩
  · obtain ⟨h1', -⟩ := hpic_addr hk
    obtain ⟨e, g1, g2⟩ := pl_109 cs h0 h1 a a' k h1'
    rw [g2] at hk
    cases hk
    exact hP _ _ g1
  · obtain ⟨e1, g1, -⟩ := pl_109 cs h0 h1 a a' i hi
    obtain ⟨e2, g2, -⟩ := pl_109 cs h0 h1 a a' j hj
    exact pos_inj hi hj (hD.1 _ _ _ _ g1 g2 e)
  · obtain ⟨e1, g1, -⟩ := pl_109 cs h0 h1 a a' k hk
    exact hD.2 _ _ g1

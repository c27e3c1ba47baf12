theorem fh_eq (v : Int32) (M : HMem) : f_X10_failHere v M = f_X10_failAt v (M 1 3) M := by
  rw [f_X10_failHere, f_X10_failAt, hset_nej M v (show (3 : Nat) ≠ 4 by decide)]
theorem ex_eq (c : Int32) (M : HMem) : f_X10_expect c M = hb1 (f_X10_isAt c M) (fun x101 =>
  if x101 = 0 then
    (some (f_X10_failHere 1 M))
  else
    (some (f_X10_pass  M))) := by
  rw [f_X10_expect, f_X10_isAt]
  cases f_X10_sign M with
  | none => rfl
  | some s =>
    rw [hb1_some, hb1_some]
    by_cases e : s = c
    · rw [if_pos e, if_pos e, hb1_some, if_neg (show ¬ (1 : Int32) = 0 by decide)]
    · rw [if_neg e, if_neg e, hb1_some, if_pos rfl]
def o_ts  (M : HMem) : Option Int32 :=
  hb1 (f_X10_isAt 42 M) (fun x101 =>
  if x101 = 0 then
    (hb1 (f_X10_isAt 47 M) (fun x102 =>
    if x102 = 0 then
      (hb1 (f_X10_isAt 37 M) (fun x103 =>
      if x103 = 0 then
        (some 0)
      else
        (some 1)))
    else
      (some 1)))
  else
    (some 1))
theorem ts_eq {ρ : Type} (M : HMem) (a b : Option ρ) : hb1 (f_X10_sign M) (fun x => if f_X6_joinsFactors x = 0 then a else b) = hb1 (o_ts M) (fun x => if x = 0 then a else b) := by
  have n1 : ¬ (1 : Int32) = 0 := by decide
  rw [o_ts, f_X10_isAt, f_X10_isAt, f_X10_isAt]
  cases f_X10_sign M with
  | none => rfl
  | some s =>
    rw [hb1_some, hb1_some, hb1_some, hb1_some, f_X6_joinsFactors]
    by_cases e1 : s = 42
    · rw [if_pos e1, if_pos e1, hb1_some, if_neg n1, if_neg n1, hb1_some, if_neg n1]
    · rw [if_neg e1, if_neg e1, hb1_some, if_pos rfl]
      by_cases e2 : s = 47
      · rw [if_pos e2, if_pos e2, hb1_some, if_neg n1, if_neg n1, hb1_some, if_neg n1]
      · rw [if_neg e2, if_neg e2, hb1_some, if_pos rfl]
        by_cases e3 : s = 37
        · rw [if_pos e3, if_pos e3, hb1_some, if_neg n1, if_neg n1, hb1_some, if_neg n1]
        · rw [if_neg e3, if_neg e3, hb1_some, if_pos rfl, if_pos rfl, hb1_some, if_pos rfl]
theorem ss_eq {ρ : Type} (M : HMem) (a b : Option ρ) : hb1 (f_X10_sign M) (fun x => if f_X6_joinsTerms x = 0 then a else b) = hb1 (f_X10_isAt 43 M) (fun x => if x = 0 then hb1 (f_X10_isAt 45 M) (fun y => if y = 0 then a else b) else b) := by
  have n1 : ¬ (1 : Int32) = 0 := by decide
  rw [f_X10_isAt, f_X10_isAt]
  cases f_X10_sign M with
  | none => rfl
  | some s =>
    rw [hb1_some, hb1_some, hb1_some, f_X6_joinsTerms]
    by_cases e1 : s = 43
    · rw [if_pos e1, if_pos e1, hb1_some, if_neg n1, if_neg n1]
    · rw [if_neg e1, if_neg e1, hb1_some, if_pos (rfl : (0 : Int32) = 0)]
      by_cases e2 : s = 45
      · rw [if_pos e2, if_pos e2, hb1_some, if_neg n1]
      · rw [if_neg e2, if_neg e2, hb1_some]
theorem rT_eq (n : Nat) (cb : Nat → Int32 → HMem → Option HMem) (v1 : Int32) (k : Nat) (v2 : Int32) (M : HMem) : f_X6_readTerm_L7 n cb v1 (k + 1) v2 M =
    if 240 ≤ v2 then
      (some M)
    else
      (hb1 (o_ts  M) (fun x101 =>
      if x101 = 0 then
        (some M)
      else
        (hb1 (f_X10_sign  M) (fun x102 =>
        hb1 (cb 6 v1 (f_X10_pass  M)) (fun M103 =>
        hb2 (f_X5_add 15 x102 0 M103) (fun x104 M105 =>
        f_X6_readTerm_L7 n cb v1 k (v2 + 1) M105)))))) := by
  rw [f_X6_readTerm_L7, ts_eq]
def o_J38 (n : Nat) (cb : Nat → Int32 → HMem → Option HMem) (r7 : Int32 → HMem → Option HMem) (v1 : Int32) (v2 : Int32) (M : HMem) : Option HMem :=
  hb1 (f_X10_sign  M) (fun x101 =>
  hb1 (cb 5 v1 (f_X10_pass  M)) (fun M102 =>
  hb2 (f_X5_add 15 x101 0 M102) (fun x103 M104 =>
  r7 (v2 + 1) M104)))
theorem rS_eq (n : Nat) (cb : Nat → Int32 → HMem → Option HMem) (v1 : Int32) (k : Nat) (v2 : Int32) (M : HMem) : f_X6_readSum_L7 n cb v1 (k + 1) v2 M =
    if 240 ≤ v2 then
      (some M)
    else
      (hb1 (f_X10_isAt 43 M) (fun x101 =>
      if x101 = 0 then
        (hb1 (f_X10_isAt 45 M) (fun x102 =>
        if x102 = 0 then
          (some M)
        else
          (o_J38 n cb (f_X6_readSum_L7 n cb v1 k) v1 v2 M)))
      else
        (o_J38 n cb (f_X6_readSum_L7 n cb v1 k) v1 v2 M))) := by
  rw [f_X6_readSum_L7, ss_eq]
  rfl

/-! tried, whole -/
theorem isH_out {M : HMem} {z : Int} (z1 : -2147483648 ≤ z) (z2 : z < 2147483648) (hz : ¬ (0 ≤ z ∧ z ≤ 5)) : f_X12_isHound (iI z) M = some 0 := isHound_eq (o := 0) (a := 0) z1 z2 hz
theorem op_tried (v v' : Int32) {N : Nat} (hN : 300 ≤ N) {M : HMem} (hFd : IFade M) (hLs : ILines M) (hD : ILand M) (hW : ILaw M) (hP : PR 35 75 M) : ∃ r M1 M2, f_X11_tried N v v' M = some (r, M1) ∧ f_X12_tried N v v' M1 = some (r, M2) ∧ PR 35 75 M2 ∧ oth 6 M M2 := by
  obtain ⟨z, z1, z2, rfl⟩ := iI_of v
  obtain ⟨w, w1, w2, rfl⟩ := iI_of v'
  have i1 : f_X12_in (iI z) 1 100 = if 1 ≤ z ∧ z ≤ 100 then 1 else 0 := in_eq (a := 1) (m := 100) z1 z2 (by omega) (by omega) (by omega) (by omega)
  have i2 : f_X12_in (iI w) 0 2 = if 0 ≤ w ∧ w ≤ 2 then 1 else 0 := in_eq (a := 0) (m := 2) w1 w2 (by omega) (by omega) (by omega) (by omega)
  by_cases hz : 1 ≤ z ∧ z ≤ 100
  · obtain ⟨n, rfl⟩ : ∃ n : Nat, z = n := ⟨z.toNat, by omega⟩
    have eC : f_X11_tried N (iI (n : Int)) (iI w) M = hb1 (f_X11_isTriable (iI w) M) (fun x101 => if x101 = 0 then some ((-1), M) else f_X11_tried_L34 N (iI (n : Int)) (iI w) N 0 (f_X8_copyFrom 45 35 M)) := by
      rw [f_X11_tried, if_neg (show ¬ iI (n : Int) < 1 from nlt_i (b := 1) (by omega) (by omega) (by omega)), if_neg (show ¬ (100 : Int32) < iI (n : Int) from nlt_i (a := 100) (by omega) (by omega) (by omega))]
    have eR : ∀ Y, f_X12_tried N (iI (n : Int)) (iI w) Y = if f_X12_in (iI w) 0 2 = 0 then hb1 (f_X12_isHound (iI w - 10) Y) (fun x101 => if x101 = 0 then hb1 (f_X12_isHound (iI w - 20) Y) (fun x102 => if x102 = 0 then hb1 (f_X12_isHound (iI w - 30) Y) (fun x103 => if x103 = 0 then some ((-1), Y) else f_X12_tried_J54 N (iI (n : Int)) (iI w) Y) else f_X12_tried_J54 N (iI (n : Int)) (iI w) Y) else f_X12_tried_J54 N (iI (n : Int)) (iI w) Y) else f_X12_tried_J54 N (iI (n : Int)) (iI w) Y := fun Y => by
      rw [f_X12_tried, i1, if_pos hz, if_neg i10]
    by_cases hw : 0 ≤ w ∧ w ≤ 2
    · have tr : f_X11_isTriable (iI w) M = some 1 := by
        rw [f_X11_isTriable, if_neg (show ¬ iI w < 0 from nlt_i (b := 0) (by omega) (by omega) (by omega)), if_neg (show ¬ (2 : Int32) < iI w from nlt_i (a := 2) (by omega) (by omega) (by omega))]
      have eJ : ∀ A, f_X11_tried_J69 N (iI w) A = hb1 (f_X8_bitsOf N 45 (iI w) A) (fun x105 => some (x105, A)) := fun A => by
        rw [f_X11_tried_J69, if_neg (show ¬ (2 : Int32) < iI w from nlt_i (a := 2) (by omega) (by omega) (by omega))]
      obtain ⟨r, M1, M2, g1, g2, g3, g4, g5⟩ := tried_go (w := w) hN (show n ≤ 100 by omega) hFd hLs hD hW hP (fun A => by
        obtain ⟨u, -, u2, -⟩ := bitsOf_eq (o := 45) (n := N) A (iI w) (by omega)
        exact ⟨_, by rw [eJ, u2, hb1_some]⟩) (fun A B x hQ _ hx Y hY => by
        rw [eJ] at hx
        rw [f_X12_tried_J54, asd_eq hN, hb1_some, hY, hb1_some, if_neg (show ¬ (3 : Int32) ≤ iI w from nl_i (a := 3) (by omega) (by omega) (by omega)), far_eq (Or.inr rfl) hQ hw.1 hw.2]
        obtain ⟨u, -, u2, -⟩ := bitsOf_eq (o := 45) (n := N) A (iI w) (by omega)
        rw [u2, hb1_some] at hx
        rw [u2, hb1_some, bck_eq hN, hb1_some]
        injection hx with hx
        injection hx with hx _
        rw [hx])
      refine ⟨r, M1, M2, ?_, ?_, g3, g4⟩
      · rw [eC, tr, hb1_some, if_neg i10]; exact g1
      · rw [eR, i2, if_pos hw, if_neg i10]; exact g2
    · have e2 : ∀ Y, f_X12_tried N (iI (n : Int)) (iI w) Y = hb1 (f_X12_isHound (iI (w - 10)) Y) (fun x101 => if x101 = 0 then hb1 (f_X12_isHound (iI (w - 20)) Y) (fun x102 => if x102 = 0 then hb1 (f_X12_isHound (iI (w - 30)) Y) (fun x103 => if x103 = 0 then some ((-1), Y) else f_X12_tried_J54 N (iI (n : Int)) (iI w) Y) else f_X12_tried_J54 N (iI (n : Int)) (iI w) Y) else f_X12_tried_J54 N (iI (n : Int)) (iI w) Y) := fun Y => by
        rw [eR, i2, if_neg hw, if_pos rfl, q10, q20, show (30 : Int32) = iI 30 from rfl, iI_sub, iI_sub, iI_sub]
      have tr0 : f_X11_isTriable (iI w) M = f_X11_isTriable_J11 (iI w) M := by
        rw [f_X11_isTriable]
        by_cases h : w < 0
        · rw [if_pos (show iI w < 0 from lt_i (b := 0) h (by omega) (by omega))]
        · rw [if_neg (show ¬ iI w < 0 from nlt_i (b := 0) (by omega) (by omega) (by omega)), if_pos (show (2 : Int32) < iI w from lt_i (a := 2) (by omega) (by omega) (by omega))]
      by_cases hb : ∃ a b : Nat, 1 ≤ a ∧ a ≤ 3 ∧ b ≤ 5 ∧ w = ((10 * a + b : Nat) : Int)
      · obtain ⟨a, b, a1, a2, b1, rfl⟩ := hb
        have dv : iI ((10 * a + b : Nat) : Int) / 10 = iI (a : Int) := by rw [div10 (by omega), show (10 * a + b) / 10 = a by omega]
        have md : iI ((10 * a + b : Nat) : Int) - iI ((10 * a + b : Nat) : Int) / 10 * 10 = iI (b : Int) := by
          rw [dv, q10, iI_mul, iI_sub]; congr 1; omega
        have tr1 : f_X11_isTriable (iI ((10 * a + b : Nat) : Int)) M = hb1 (f_X8_isTold 35 (iI (b : Int)) M) (fun x101 => if x101 = 0 then some 0 else some 1) := by
          rw [tr0, f_X11_isTriable_J11, if_neg (show ¬ iI ((10 * a + b : Nat) : Int) < 10 from nlt_i (b := 10) (by omega) (by omega) (by omega)), if_neg (show ¬ (40 : Int32) ≤ iI ((10 * a + b : Nat) : Int) from nl_i (a := 40) (by omega) (by omega) (by omega)), md]
        have hd : ∀ (Y : HMem) (r : Int32), f_X12_isHound (iI (b : Int)) Y = some r → f_X12_tried N (iI (n : Int)) (iI ((10 * a + b : Nat) : Int)) Y = if r = 0 then some (-1, Y) else f_X12_tried_J54 N (iI (n : Int)) (iI ((10 * a + b : Nat) : Int)) Y := fun Y r hr => by
          rw [e2]
          rcases (show a = 1 ∨ a = 2 ∨ a = 3 by omega) with rfl | rfl | rfl
          · rw [show ((10 * 1 + b : Nat) : Int) - 10 = (b : Int) by omega, hr, hb1_some]
            by_cases z : r = 0
            · rw [if_pos z, if_pos z, isH_out (by omega) (by omega) (by omega), hb1_some, if_pos rfl, isH_out (by omega) (by omega) (by omega), hb1_some, if_pos rfl]
            · rw [if_neg z, if_neg z]
          · rw [isH_out (by omega) (by omega) (by omega), hb1_some, if_pos rfl, show ((10 * 2 + b : Nat) : Int) - 20 = (b : Int) by omega, hr, hb1_some]
            by_cases z : r = 0
            · rw [if_pos z, if_pos z, isH_out (by omega) (by omega) (by omega), hb1_some, if_pos rfl]
            · rw [if_neg z, if_neg z]
          · rw [isH_out (by omega) (by omega) (by omega), hb1_some, if_pos rfl, isH_out (by omega) (by omega) (by omega), hb1_some, if_pos rfl, show ((10 * 3 + b : Nat) : Int) - 30 = (b : Int) by omega, hr, hb1_some]
        rcases hP.told (i := b) (by omega) with ⟨t1, t2⟩ | ⟨t1, t2⟩
        · refine ⟨-1, M, M, ?_, ?_, hP, oth_rf _ _⟩
          · rw [eC, tr1, isTold_0 (by omega) t2, hb1_some, if_pos rfl, hb1_some, if_pos rfl]
          · rw [hd M 0 (isHound_0 (by omega) t1), if_pos rfl]
        · have h2 : (2 : Int32) < iI ((10 * a + b : Nat) : Int) := lt_i (a := 2) (by omega) (by omega) (by omega)
          have h3 : (3 : Int32) ≤ iI ((10 * a + b : Nat) : Int) := le_i (a := 3) (by omega) (by omega) (by omega)
          have eJ : ∀ A, f_X11_tried_J69 N (iI ((10 * a + b : Nat) : Int)) A = some (A (45 + a) b, A) := fun A => by
            rw [f_X11_tried_J69, if_pos h2, hb1_some, md, dv]
            rcases (show a = 1 ∨ a = 2 ∨ a = 3 by omega) with rfl | rfl | rfl
            · rw [if_pos (by rfl), placeOfHound_in (by omega), hb1_some]
            · rw [if_neg (by decide), if_pos (by rfl), timeOf_in (by omega), hb1_some]
            · rw [if_neg (by decide), if_neg (by decide), faultsOf_in (by omega), hb1_some]
          have eK : ∀ Y B, f_X12_momentsGo N (iI (n : Int)) (asd Y) = some B → f_X12_tried_J54 N (iI (n : Int)) (iI ((10 * a + b : Nat) : Int)) Y = some (B 75 (6 * a + b), bck B) := fun Y B hY => by
            rw [f_X12_tried_J54, asd_eq hN, hb1_some, hY, hb1_some, if_pos h3]
            rcases (show a = 1 ∨ a = 2 ∨ a = 3 by omega) with rfl | rfl | rfl
            · have e : (6 : Int32) + iI ((10 * 1 + b : Nat) : Int) - 10 = iI ((6 * 1 + b : Nat) : Int) := by rw [q6, q10, iI_add, iI_sub]; congr 1; omega
              rw [if_neg (show ¬ (20 : Int32) ≤ iI ((10 * 1 + b : Nat) : Int) from nl_i (a := 20) (by omega) (by omega) (by omega)), e, hib_t (n := 32) (by omega) (by omega) (by omega), if_pos rfl, bck_eq hN, hb1_some, iI_natc (by omega)]
            · have e : (12 : Int32) + iI ((10 * 2 + b : Nat) : Int) - 20 = iI ((6 * 2 + b : Nat) : Int) := by rw [q12, q20, iI_add, iI_sub]; congr 1; omega
              rw [if_pos (show (20 : Int32) ≤ iI ((10 * 2 + b : Nat) : Int) from le_i (a := 20) (by omega) (by omega) (by omega)), if_neg (show ¬ (30 : Int32) ≤ iI ((10 * 2 + b : Nat) : Int) from nl_i (a := 30) (by omega) (by omega) (by omega)), e, hib_t (n := 32) (by omega) (by omega) (by omega), if_pos rfl, bck_eq hN, hb1_some, iI_natc (by omega)]
            · have e : (18 : Int32) + iI ((10 * 3 + b : Nat) : Int) - 30 = iI ((6 * 3 + b : Nat) : Int) := by rw [q18, show (30 : Int32) = iI 30 from rfl, iI_add, iI_sub]; congr 1; omega
              rw [if_pos (show (20 : Int32) ≤ iI ((10 * 3 + b : Nat) : Int) from le_i (a := 20) (by omega) (by omega) (by omega)), if_pos (show (30 : Int32) ≤ iI ((10 * 3 + b : Nat) : Int) from le_i (a := 30) (by omega) (by omega) (by omega)), e, hib_t (n := 32) (by omega) (by omega) (by omega), if_pos rfl, bck_eq hN, hb1_some, iI_natc (by omega)]
          obtain ⟨r, M1, M2, g1, g2, g3, g4, g5⟩ := tried_go (w := ((10 * a + b : Nat) : Int)) hN (show n ≤ 100 by omega) hFd hLs hD hW hP (fun A => ⟨_, eJ A⟩) (fun A B x hQ hB hx Y hY => by
            rw [eJ] at hx
            injection hx with hx
            injection hx with hx _
            rw [eK Y B hY, ← hx]
            rcases hQ.2.2 b (by omega) with ⟨p1, -⟩ | ⟨-, ⟨p, -, -, p4, p5⟩, ⟨t, -, -, t3, t4⟩, ⟨f, -, -, f3, f4⟩, -⟩
            · rw [hB b (by omega), t1] at p1; exact absurd p1 (by decide)
            · rcases (show a = 1 ∨ a = 2 ∨ a = 3 by omega) with rfl | rfl | rfl
              · rw [p4, show B 75 (6 * 1 + b) = _ from p5]
              · rw [t3, show B 75 (6 * 2 + b) = _ from t4]
              · rw [f3, show B 75 (6 * 3 + b) = _ from f4])
          refine ⟨r, M1, M2, ?_, ?_, g3, g4⟩
          · rw [eC, tr1, isTold_1 (by omega) t2, hb1_some, if_neg i10, hb1_some, if_neg i10]; exact g1
          · rw [hd M1 1 (isHound_1 (by omega) (by rw [g5]; exact t1)), if_neg i10]; exact g2
      · have nb : ∀ a b : Nat, 1 ≤ a → a ≤ 3 → b ≤ 5 → w ≠ 10 * a + b := fun a b x1 x2 x3 e => hb ⟨a, b, x1, x2, x3, by omega⟩
        have o1 : ¬ (0 ≤ w - 10 ∧ w - 10 ≤ 5) := fun h => nb 1 (w - 10).toNat (by omega) (by omega) (by omega) (by omega)
        have o2 : ¬ (0 ≤ w - 20 ∧ w - 20 ≤ 5) := fun h => nb 2 (w - 20).toNat (by omega) (by omega) (by omega) (by omega)
        have o3 : ¬ (0 ≤ w - 30 ∧ w - 30 ≤ 5) := fun h => nb 3 (w - 30).toNat (by omega) (by omega) (by omega) (by omega)
        have rR : f_X12_tried N (iI (n : Int)) (iI w) M = some (-1, M) := by
          by_cases big : -2147483618 ≤ w
          · rw [e2, isH_out (by omega) (by omega) o1, hb1_some, if_pos rfl, isH_out (by omega) (by omega) o2, hb1_some, if_pos rfl, isH_out (by omega) (by omega) o3, hb1_some, if_pos rfl]
          · have wr : ∀ d : Int, 0 ≤ d → d ≤ 30 → f_X12_isHound (iI (w - d)) M = some 0 := fun d d0 d1 => by
              by_cases u : -2147483648 ≤ w - d
              · exact isH_out u (by omega) (by omega)
              · have e : iI (w - d) = iI (w - d + 4294967296) := by
                  apply Int32.toInt_inj.mp
                  simp only [iI, Int32.toInt_ofInt]
                  have hs : Int32.size = 4294967296 := rfl
                  rw [hs, show w - d + 4294967296 = w - d + ((4294967296 : Nat) : Int) * 1 by omega, Int.add_mul_bmod_self_left]
                rw [e]
                exact isH_out (by omega) (by omega) (by omega)
            rw [e2, wr 10 (by omega) (by omega), hb1_some, if_pos rfl, wr 20 (by omega) (by omega), hb1_some, if_pos rfl, wr 30 (by omega) (by omega), hb1_some, if_pos rfl]
        have tC : f_X11_isTriable (iI w) M = some 0 := by
          rw [tr0, f_X11_isTriable_J11]
          by_cases h10 : w < 10
          · rw [if_pos (show iI w < 10 from lt_i (b := 10) h10 (by omega) (by omega))]
          · rw [if_neg (show ¬ iI w < 10 from nlt_i (b := 10) (by omega) (by omega) (by omega))]
            by_cases h40 : 40 ≤ w
            · rw [if_pos (show (40 : Int32) ≤ iI w from le_i (a := 40) h40 (by omega) (by omega))]
            · rw [if_neg (show ¬ (40 : Int32) ≤ iI w from nl_i (a := 40) (by omega) (by omega) (by omega))]
              obtain ⟨k, rfl⟩ : ∃ k : Nat, w = k := ⟨w.toNat, by omega⟩
              rw [show iI (k : Int) - iI (k : Int) / 10 * 10 = iI ((k % 10 : Nat) : Int) from mod_n (d := 10) (by omega) (by omega) (by omega), isTold_out (by omega) (by omega) (fun h => nb (k / 10) (k % 10) (by omega) (by omega) (by omega) (by omega)), hb1_some, if_pos rfl]
        refine ⟨-1, M, M, ?_, rR, hP, oth_rf _ _⟩
        rw [eC, tC, hb1_some, if_pos rfl]
  · refine ⟨-1, M, M, ?_, ?_, hP, oth_rf _ _⟩
    · rw [f_X11_tried]
      by_cases h : z < 1
      · rw [if_pos (show iI z < 1 from lt_i (b := 1) h (by omega) (by omega))]
      · rw [if_neg (show ¬ iI z < 1 from nlt_i (b := 1) (by omega) (by omega) (by omega)), if_pos (show (100 : Int32) < iI z from lt_i (a := 100) (by omega) (by omega) (by omega))]
    · rw [f_X12_tried, i1, if_neg hz, if_pos rfl]

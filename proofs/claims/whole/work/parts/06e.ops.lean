theorem fa_byte_low (x : Int32) : (x &&& 255).toInt8 = x.toInt8 := by
  apply Int8.toBitVec_inj.1
  apply BitVec.eq_of_getLsbD_eq
  intro i hi
  have h2 : (255 : Int32).toBitVec.getLsbD i = true := by
    have : ∀ j : Fin 8, (255 : Int32).toBitVec.getLsbD j.val = true := by decide +kernel
    exact this ⟨i, hi⟩
  have h4 : (x &&& 255).toBitVec.getLsbD i = x.toBitVec.getLsbD i := by
    show (x.toBitVec &&& (255 : Int32).toBitVec).getLsbD i = _
    rw [BitVec.getLsbD_and, h2, Bool.and_true]
  have h3 : i < 32 := by omega
  first
    | (show (((x &&& 255).toBitVec).signExtend 8).getLsbD i = (x.toBitVec.signExtend 8).getLsbD i; rw [BitVec.getLsbD_signExtend, BitVec.getLsbD_signExtend, if_pos h3, if_pos h3, h4])
    | (show (((x &&& 255).toBitVec).setWidth 8).getLsbD i = (x.toBitVec.setWidth 8).getLsbD i; rw [BitVec.getLsbD_setWidth, BitVec.getLsbD_setWidth, h4])
    | (simp [hi, h3, h4]; done)
theorem nI_iI (n : Nat) : nI n = iI n := by
  apply Int32.toBitVec_inj.mp
  show BitVec.ofNat 32 n = BitVec.ofInt 32 (n : Int)
  rw [BitVec.ofInt_natCast]
theorem byte_low (x : Int32) : x.toInt8.toInt32 &&& 255 = x &&& 255 := by
  have h1 := pk_and x (m := 255) 8 (by decide +kernel)
  rw [← fa_byte_low x, h1]
  exact sc_k8 _ (Nat.mod_lt _ (by decide))
theorem byte_low2 (x : Int32) : (Int8.toInt32 (Int32.toInt8 (Int8.toInt32 (Int32.toInt8 x)))) &&& 255 = x &&& 255 := by
  rw [byte_low, byte_low]
theorem byte_nat (x : Int32) : ∃ b : Nat, b < 256 ∧ x &&& 255 = iI b := by
  refine ⟨x.toBitVec.toNat % 2 ^ 8, Nat.mod_lt _ (by decide), ?_⟩
  rw [pk_and x (m := 255) 8 (by decide +kernel), nI_iI]
theorem hset_put_ne (M : HMem) {k k' : Nat} (j : Nat) (f : Nat → Int32) (v : Int32) (h : k ≠ k') : hset (hput M k' f) k j v = hput (hset M k j v) k' f := by
  funext a
  by_cases h1 : a = k
  · subst h1; simp [hset, hput, h]
  · by_cases h2 : a = k'
    · subst h2; simp [hset, hput, h1]
    · simp [hset, hput, h1, h2]
theorem upd_upd (f : Nat → Int32) (k : Nat) (x y : Int32) : upd (upd f k x) k y = upd f k y := by
  funext j; simp only [upd]; split <;> rfl
def bt (v : Int32) (z : Int) : Int32 := (v >>> (iI z &&& 31)) &&& 255
def rb (v : Int32) (z : Int) : Int32 := Int8.toInt32 (Int32.toInt8 (Int8.toInt32 (Int32.toInt8 (v >>> (iI z &&& 31)))))
theorem rb_bt (v : Int32) (z : Int) : rb v z &&& 255 = bt v z := byte_low2 _
theorem app_step {n k s : Nat} {v : Int32} {M : HMem} {g h : Nat → Int32} {z : Int} (hs : h 1 = iI s) (h1 : s < 260) (z0 : 0 ≤ z) (z1 : z ≤ 24) : f_X10_append_L3 n v (k + 1) (iI z) (hput (hput M 2 g) 1 h) = f_X10_append_L3 n v k (iI (z - 8)) (hput (hput M 2 (upd g s (bt v z))) 1 (upd h 1 (iI ((s + 1 : Nat) : Int)))) := by
  rw [f_X10_append_L3, if_neg (by rw [q0, iI_lt (by omega) (by omega) (by omega) (by omega)]; omega)]
  simp only [hput_self, hs]
  rw [if_neg (by rw [q260, iI_le (by omega) (by omega) (by omega) (by omega)]; omega), hib_t (by omega) (by omega) (by omega), if_pos rfl, hb1_some, iI_natc (by omega), hset_put_ne _ _ _ _ (by decide), hset_put]
  simp only [hput_self, hs]
  rw [hset_put, iI_s, qm8, iI_add]
  rfl
theorem app_end {n k : Nat} {v : Int32} {M : HMem} : f_X10_append_L3 n v (k + 1) (iI (-8)) M = some M := by
  rw [f_X10_append_L3, if_pos (by decide)]
def p4 (f : Nat → Int32) (s : Nat) (b : Int → Int32) : Nat → Int32 := upd (upd (upd (upd f s (b 24)) (s + 1) (b 16)) (s + 2) (b 8)) (s + 3) (b 0)
theorem append_eq {n s : Nat} {v : Int32} {M : HMem} {g h : Nat → Int32} (hn : 5 ≤ n) (hs : h 1 = iI s) (h1 : s + 4 ≤ 260) : f_X10_append n v (hput (hput M 2 g) 1 h) = some (hput (hput M 2 (p4 g s (bt v))) 1 (upd h 1 (iI ((s + 4 : Nat) : Int)))) := by
  obtain ⟨m, rfl⟩ : ∃ m, n = m + 5 := ⟨n - 5, by omega⟩
  rw [f_X10_append, show (24 : Int32) = iI 24 from rfl, app_step hs (by omega) (by omega) (by omega), app_step (s := s + 1) (upd_self _ _ _) (by omega) (by omega) (by omega), app_step (s := s + 2) (upd_self _ _ _) (by omega) (by omega) (by omega), app_step (s := s + 3) (upd_self _ _ _) (by omega) (by omega) (by omega)]
  rw [show (24 : Int) - 8 - 8 - 8 - 8 = -8 by omega, app_end, upd_upd, upd_upd, upd_upd]
  rfl
theorem typ_step {n k s : Nat} {v : Int32} {M : HMem} {g h : Nat → Int32} {z : Int} (hs : h 12 = iI s) (h1 : s < 260) (z0 : 0 ≤ z) (z1 : z ≤ 3) : f_X12_types_L2 n v (k + 1) (iI z) (hput (hput M 84 g) 74 h) = f_X12_types_L2 n v k (iI (z - 1)) (hput (hput M 84 (upd g s (rb v (8 * z)))) 74 (upd h 12 (iI ((s + 1 : Nat) : Int)))) := by
  rw [f_X12_types_L2, if_neg (by rw [q0, iI_lt (by omega) (by omega) (by omega) (by omega)]; omega)]
  simp only [hput_self, hs]
  rw [hib_t (by omega) (by omega) (by omega), if_pos rfl, hb1_some, iI_natc (by omega), hset_put_ne _ _ _ _ (by decide), hset_put]
  simp only [hput_self, hs]
  rw [hset_put, iI_s, qm1, iI_add, q8, iI_mul]
  rfl
theorem typ_end {n k : Nat} {v : Int32} {M : HMem} : f_X12_types_L2 n v (k + 1) (iI (-1)) M = some M := by
  rw [f_X12_types_L2, if_pos (by decide)]
theorem types_eq {n s : Nat} {v : Int32} {M : HMem} {g h : Nat → Int32} (hn : 5 ≤ n) (hs : h 12 = iI s) (h1 : s + 4 ≤ 260) : f_X12_types n v (hput (hput M 84 g) 74 h) = some (hput (hput M 84 (p4 g s (rb v))) 74 (upd h 12 (iI ((s + 4 : Nat) : Int)))) := by
  obtain ⟨m, rfl⟩ : ∃ m, n = m + 5 := ⟨n - 5, by omega⟩
  rw [f_X12_types, show (3 : Int32) = iI 3 from rfl, typ_step hs (by omega) (by omega) (by omega), typ_step (s := s + 1) (upd_self _ _ _) (by omega) (by omega) (by omega), typ_step (s := s + 2) (upd_self _ _ _) (by omega) (by omega) (by omega), typ_step (s := s + 3) (upd_self _ _ _) (by omega) (by omega) (by omega)]
  rw [show (3 : Int) - 1 - 1 - 1 - 1 = -1 by omega, typ_end, upd_upd, upd_upd, upd_upd]
  rfl
theorem p4_rel {f g : Nat → Int32} (s : Nat) (v : Int32) (h : ∀ j, j < 260 → f j = g j &&& 255) : ∀ j, j < 260 → p4 f s (bt v) j = p4 g s (rb v) j &&& 255 := by
  intro j hj
  simp only [p4, upd]
  split
  · exact (rb_bt _ _).symm
  split
  · exact (rb_bt _ _).symm
  split
  · exact (rb_bt _ _).symm
  split
  · exact (rb_bt _ _).symm
  · exact h j hj
theorem hput2_eta (M : HMem) (a b : Nat) : hput (hput M a (M a)) b (M b) = M := by
  rw [hput_eta, hput_eta]
theorem op_feed (a b c d e : Int32) {n : Nat} (hn : 5 ≤ n) {M : HMem} (h : ITape M) : ∃ r M1 M2, f_X11_feed n a b c d e M = some (r, M1) ∧ f_X12_feed n a b c d e M1 = some (r, M2) ∧ ITape M2 ∧ oth 1 M M2 := by
  obtain ⟨z, z1, z2, z3, z4, z5⟩ := id h
  obtain ⟨s, rfl⟩ : ∃ s : Nat, z = s := ⟨z.toNat, by omega⟩
  by_cases hz : s + 20 ≤ 260
  · have c1 : f_X10_hasRoom 20 M = 1 := by
      rw [f_X10_hasRoom, z3, q20, iI_add, q260, if_neg (by rw [iI_lt (by omega) (by omega) (by omega) (by omega)]; omega)]
    have c2 := append_eq (v := a) (M := M) (g := M 2) (h := M 1) hn z3 (by omega)
    rw [hput2_eta] at c2
    have c3 := append_eq (v := b) (M := M) (g := p4 (M 2) s (bt a)) (h := upd (M 1) 1 (iI ((s + 4 : Nat) : Int))) (s := s + 4) hn (upd_self _ _ _) (by omega)
    have c4 := append_eq (v := c) (M := M) (g := p4 (p4 (M 2) s (bt a)) (s + 4) (bt b)) (h := upd (upd (M 1) 1 (iI ((s + 4 : Nat) : Int))) 1 (iI ((s + 4 + 4 : Nat) : Int))) (s := s + 4 + 4) hn (upd_self _ _ _) (by omega)
    have c5 := append_eq (v := d) (M := M) (g := p4 (p4 (p4 (M 2) s (bt a)) (s + 4) (bt b)) (s + 4 + 4) (bt c)) (h := upd (upd (upd (M 1) 1 (iI ((s + 4 : Nat) : Int))) 1 (iI ((s + 4 + 4 : Nat) : Int))) 1 (iI ((s + 4 + 4 + 4 : Nat) : Int))) (s := s + 4 + 4 + 4) hn (upd_self _ _ _) (by omega)
    have c6 := append_eq (v := e) (M := M) (g := p4 (p4 (p4 (p4 (M 2) s (bt a)) (s + 4) (bt b)) (s + 4 + 4) (bt c)) (s + 4 + 4 + 4) (bt d)) (h := upd (upd (upd (upd (M 1) 1 (iI ((s + 4 : Nat) : Int))) 1 (iI ((s + 4 + 4 : Nat) : Int))) 1 (iI ((s + 4 + 4 + 4 : Nat) : Int))) 1 (iI ((s + 4 + 4 + 4 + 4 : Nat) : Int))) (s := s + 4 + 4 + 4 + 4) hn (upd_self _ _ _) (by omega)
    generalize hN : hput (hput M 2 (p4 (p4 (p4 (p4 (p4 (M 2) s (bt a)) (s + 4) (bt b)) (s + 4 + 4) (bt c)) (s + 4 + 4 + 4) (bt d)) (s + 4 + 4 + 4 + 4) (bt e))) 1 (upd (upd (upd (upd (upd (M 1) 1 (iI ((s + 4 : Nat) : Int))) 1 (iI ((s + 4 + 4 : Nat) : Int))) 1 (iI ((s + 4 + 4 + 4 : Nat) : Int))) 1 (iI ((s + 4 + 4 + 4 + 4 : Nat) : Int))) 1 (iI ((s + 4 + 4 + 4 + 4 + 4 : Nat) : Int))) = N at c6
    have eN : ∀ k, k ≠ 1 → k ≠ 2 → N k = M k := fun k k1 k2 => by rw [← hN, hput_ne _ _ k1, hput_ne _ _ k2]
    have e1 : N 1 1 = iI ((s + 20 : Nat) : Int) := by rw [← hN, hput_self, upd_self]
    have e2 : N 2 = p4 (p4 (p4 (p4 (p4 (M 2) s (bt a)) (s + 4) (bt b)) (s + 4 + 4) (bt c)) (s + 4 + 4 + 4) (bt d)) (s + 4 + 4 + 4 + 4) (bt e) := by rw [← hN, hput_ne _ _ (by decide), hput_self]
    have d2 := types_eq (v := a) (M := N) (g := N 84) (h := N 74) (s := s) hn (by rw [eN 74 (by decide) (by decide)]; exact z4) (by omega)
    rw [hput2_eta] at d2
    have d3 := types_eq (v := b) (M := N) (g := p4 (N 84) s (rb a)) (h := upd (N 74) 12 (iI ((s + 4 : Nat) : Int))) (s := s + 4) hn (upd_self _ _ _) (by omega)
    have d4 := types_eq (v := c) (M := N) (g := p4 (p4 (N 84) s (rb a)) (s + 4) (rb b)) (h := upd (upd (N 74) 12 (iI ((s + 4 : Nat) : Int))) 12 (iI ((s + 4 + 4 : Nat) : Int))) (s := s + 4 + 4) hn (upd_self _ _ _) (by omega)
    have d5 := types_eq (v := d) (M := N) (g := p4 (p4 (p4 (N 84) s (rb a)) (s + 4) (rb b)) (s + 4 + 4) (rb c)) (h := upd (upd (upd (N 74) 12 (iI ((s + 4 : Nat) : Int))) 12 (iI ((s + 4 + 4 : Nat) : Int))) 12 (iI ((s + 4 + 4 + 4 : Nat) : Int))) (s := s + 4 + 4 + 4) hn (upd_self _ _ _) (by omega)
    have d6 := types_eq (v := e) (M := N) (g := p4 (p4 (p4 (p4 (N 84) s (rb a)) (s + 4) (rb b)) (s + 4 + 4) (rb c)) (s + 4 + 4 + 4) (rb d)) (h := upd (upd (upd (upd (N 74) 12 (iI ((s + 4 : Nat) : Int))) 12 (iI ((s + 4 + 4 : Nat) : Int))) 12 (iI ((s + 4 + 4 + 4 : Nat) : Int))) 12 (iI ((s + 4 + 4 + 4 + 4 : Nat) : Int))) (s := s + 4 + 4 + 4 + 4) hn (upd_self _ _ _) (by omega)
    generalize hO : hput (hput N 84 (p4 (p4 (p4 (p4 (p4 (N 84) s (rb a)) (s + 4) (rb b)) (s + 4 + 4) (rb c)) (s + 4 + 4 + 4) (rb d)) (s + 4 + 4 + 4 + 4) (rb e))) 74 (upd (upd (upd (upd (upd (N 74) 12 (iI ((s + 4 : Nat) : Int))) 12 (iI ((s + 4 + 4 : Nat) : Int))) 12 (iI ((s + 4 + 4 + 4 : Nat) : Int))) 12 (iI ((s + 4 + 4 + 4 + 4 : Nat) : Int))) 12 (iI ((s + 4 + 4 + 4 + 4 + 4 : Nat) : Int))) = O at d6
    have eO : ∀ k, k ≠ 74 → k ≠ 84 → O k = N k := fun k k1 k2 => by rw [← hO, hput_ne _ _ k1, hput_ne _ _ k2]
    have f1 : O 74 = upd (N 74) 12 (iI ((s + 20 : Nat) : Int)) := by rw [← hO, hput_self, upd_upd, upd_upd, upd_upd, upd_upd]
    have f2 : O 84 = p4 (p4 (p4 (p4 (p4 (N 84) s (rb a)) (s + 4) (rb b)) (s + 4 + 4) (rb c)) (s + 4 + 4 + 4) (rb d)) (s + 4 + 4 + 4 + 4) (rb e) := by rw [← hO, hput_ne _ _ (by decide), hput_self]
    refine ⟨iI ((s + 20 : Nat) : Int), N, O, ?_, ?_, ⟨((s + 20 : Nat) : Int), by omega, by omega, by rw [eO 1 (by decide) (by decide), e1], by rw [f1, upd_self], ?_⟩, ?_⟩
    · rw [f_X11_feed, c1, if_neg i10, c2, hb1_some, c3, hb1_some, c4, hb1_some, c5, hb1_some, c6, hb1_some, e1]
    · rw [f_X12_feed, eN 74 (by decide) (by decide), z4, q20, iI_add, q260, if_pos (by rw [iI_le (by omega) (by omega) (by omega) (by omega)]; omega), d2, hb1_some, d3, hb1_some, d4, hb1_some, d5, hb1_some, d6, hb1_some, f1, upd_self]
    · rw [eO 2 (by decide) (by decide), e2, f2, eN 84 (by decide) (by decide)]
      exact p4_rel _ _ (p4_rel _ _ (p4_rel _ _ (p4_rel _ _ (p4_rel _ _ z5))))
    · intro k j g0 g1
      by_cases k1 : k = 1
      · subst k1
        by_cases j1 : j = 1
        · subst j1; exact absurd rfl g1
        · simp [grp, j1] at g0
      · by_cases k2 : k = 2
        · subst k2; exact absurd rfl g1
        · by_cases k3 : k = 84
          · subst k3; exact absurd rfl g1
          · by_cases k4 : k = 74
            · subst k4
              by_cases j1 : j = 12
              · subst j1; exact absurd rfl g1
              · rw [f1, upd_ne _ _ j1, eN 74 (by decide) (by decide)]
            · rw [eO k k4 k3, eN k k1 k2]
  · refine ⟨-1, M, M, ?_, ?_, h, oth_rf _ _⟩
    · have c1 : f_X10_hasRoom 20 M = 0 := by
        rw [f_X10_hasRoom, z3, q20, iI_add, q260, if_pos (by rw [iI_lt (by omega) (by omega) (by omega) (by omega)]; omega)]
      rw [f_X11_feed, c1, if_pos rfl]
    · rw [f_X12_feed, z4, q20, iI_add, q260, if_neg (by rw [iI_le (by omega) (by omega) (by omega) (by omega)]; omega)]

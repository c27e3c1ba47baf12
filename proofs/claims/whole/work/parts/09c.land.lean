/-! one line of LAND, then all -/
def LR (A B : HMem) (t : Nat) : Prop := t ≤ 12 ∧ A 11 2 = iI t ∧ B 74 45 = iI t ∧ ∀ p, p < 192 → ∃ a b : Nat, a ≤ 9 ∧ b ≤ 99 ∧ (a ≤ 1 → b = 0) ∧ A 12 p = iI a ∧ B 102 p = iI a ∧ A 13 p = iI b ∧ B 103 p = iI b
def ocL (A A' : HMem) : Prop := ∀ k, k ≠ 1 → k ≠ 11 → k ≠ 12 → k ≠ 13 → A' k = A k
def oBL (B B' : HMem) : Prop := (∀ k, k ≠ 74 → k ≠ 102 → k ≠ 103 → B' k = B k) ∧ ∀ j, j ≠ 13 → j ≠ 15 → j ≠ 16 → j ≠ 45 → B' 74 j = B 74 j
theorem ocL.trans {A A' A2 : HMem} (h : ocL A A') (h2 : ocL A' A2) : ocL A A2 := fun k a b c d => (h2 k a b c d).trans (h k a b c d)
theorem oBL.trans {A A' A2 : HMem} (h : oBL A A') (h2 : oBL A' A2) : oBL A A2 := ⟨fun k a b c => (h2.1 k a b c).trans (h.1 k a b c), fun j a b c d => (h2.2 j a b c d).trans (h.2 j a b c d)⟩
theorem oc1.L {A A' : HMem} (h : oc1 A A') : ocL A A' := fun k a _ _ _ => h k a
theorem oB.L {A A' : HMem} (h : oB A A') : oBL A A' := ⟨fun k a _ _ => h.1 k a, fun j a b c _ => h.2 j a b c⟩
theorem kindOf_eq : ∀ c : Fin 256, f_X4_kindOf (iI ((c : Nat) : Int)) = (if (c : Nat) = 126 ∨ (97 ≤ (c : Nat) ∧ (c : Nat) ≤ 104) then kc c else 0) := by decide +kernel
theorem kc_rg {c : Nat} (h : c = 126 ∨ (97 ≤ c ∧ c ≤ 104)) : ∃ a : Nat, 1 ≤ a ∧ a ≤ 9 ∧ kc c = iI a ∧ (a = 1 ↔ c = 126) := by
  unfold kc
  by_cases e : c = 126
  · rw [if_pos e]; exact ⟨1, by omega, by omega, rfl, by omega⟩
  · rw [if_neg e]; exact ⟨c - 95, by omega, by omega, by congr 1; omega, by omega⟩
/-- the rest of a line of LAND behind its first sign -/
theorem places_L {tb : Nat → Nat} {A B : HMem} {n p N c t : Nat} (hN : 300 ≤ N) (hc : c = 126 ∨ (97 ≤ c ∧ c ≤ 104)) (hA : CP tb A n p) (hB : RP tb B n p) (hR : LR A B t) : ∃ A' B' : HMem, f_X4_readPlaces N (kc c) A = some A' ∧ ocL A A' ∧ oBL B B' ∧ ((∃ p', p ≤ p' ∧ CP tb A' n p' ∧ RP tb B' n p' ∧ LR A' B' t ∧ (hb2 (f_X12_readsWithin N 0 15 44 B) (fun x102 M103 => if x102 = 0 then (some (0, M103)) else (hb2 (f_X12_readsWithin N 0 11 58 M103) (fun x104 M105 => if x104 = 0 then (some (0, M105)) else (hb2 (f_X12_readsWithin N 1 (16 - (M103 74 16)) 120 M105) (fun x106 M107 => if x106 = 0 then (some (0, M107)) else (hb2 (f_X12_readsWithin N 1 (12 - (M105 74 16)) (-1) M107) (fun x108 M109 => if x108 = 0 then (some (0, M109)) else (if iI c = 126 then (f_X12_readsGround_L184 N (iI c) (M103 74 16) (M105 74 16) (M107 74 16) (M109 74 16) N 0 (hset M109 74 16 0)) else (hb2 (f_X12_takes 61 (hset M109 74 16 0)) (fun x110 M111 => if x110 = 0 then (some (0, M111)) else (hb2 (f_X12_readsAmount N M111) (fun x112 M113 => if x112 = 0 then (some (0, M113)) else (f_X12_readsGround_L184 N (iI c) (M103 74 16) (M105 74 16) (M107 74 16) (M109 74 16) N 0 M113)))))))))))))) = some (1, B')) ∨ (FT A' B' ∧ (hb2 (f_X12_readsWithin N 0 15 44 B) (fun x102 M103 => if x102 = 0 then (some (0, M103)) else (hb2 (f_X12_readsWithin N 0 11 58 M103) (fun x104 M105 => if x104 = 0 then (some (0, M105)) else (hb2 (f_X12_readsWithin N 1 (16 - (M103 74 16)) 120 M105) (fun x106 M107 => if x106 = 0 then (some (0, M107)) else (hb2 (f_X12_readsWithin N 1 (12 - (M105 74 16)) (-1) M107) (fun x108 M109 => if x108 = 0 then (some (0, M109)) else (if iI c = 126 then (f_X12_readsGround_L184 N (iI c) (M103 74 16) (M105 74 16) (M107 74 16) (M109 74 16) N 0 (hset M109 74 16 0)) else (hb2 (f_X12_takes 61 (hset M109 74 16 0)) (fun x110 M111 => if x110 = 0 then (some (0, M111)) else (hb2 (f_X12_readsAmount N M111) (fun x112 M113 => if x112 = 0 then (some (0, M113)) else (f_X12_readsGround_L184 N (iI c) (M103 74 16) (M105 74 16) (M107 74 16) (M109 74 16) N 0 M113)))))))))))))) = some (0, B'))) := by
  obtain ⟨a, ka1, ka2, ka3, ka4⟩ := kc_rg hc
  have k1 : (kc c = 1) ↔ c = 126 := by
    rw [ka3, q1, iI_eq (by omega) (by omega) (by omega) (by omega)]; omega
  have k2 : (iI (c : Int) = 126) ↔ c = 126 := by
    rw [show (126 : Int32) = iI 126 from rfl, iI_eq (by omega) (by omega) (by omega) (by omega)]; omega
  have snd0 : ∀ {X : HMem}, ¬ X 1 4 = 0 → f_X10_isSound X = 0 := fun h => by rw [f_X10_isSound, if_neg h]
  have snd1 : ∀ {X : HMem} {p}, CP tb X n p → f_X10_isSound X = 1 := fun h => by rw [f_X10_isSound, if_pos h.2.2.2.2.2]
  have ed : ∀ {X : HMem} (c : Int), ¬ X 1 4 = 0 → 0 ≤ c → c < 300 → f_X10_expect (iI c) X = some X := fun c h a b => expect_dead h a b
  -- what is left of the class's reading when it is dead
  have dd4 : ∀ {X : HMem} (x y w h : Int32), ¬ X 1 4 = 0 → (if kc c = 1 then (if f_X10_isSound X = 0 then some X else f_X4_readPlaces_L94 N (kc c) x y w h 0 N 0 X) else hb2 (f_X4_readCharge N X) (fun x112 M113 => if f_X10_isSound M113 = 0 then some M113 else f_X4_readPlaces_L94 N (kc c) x y w h x112 N 0 M113)) = some X := fun x y w h hX => by
    rw [snd0 hX, if_pos rfl, chg_dead hX, hb2_some, snd0 hX, if_pos rfl, ite_self]
  obtain ⟨x, A1, x1, x2, x3, -, x5⟩ := rbd (N := N) (lo := 0) (hi := 15) (by omega) hA hB (by omega) (by omega) (by omega) (by omega)
  obtain ⟨A2, B2, y1, y2, y3, y4⟩ := x5 44 (by omega) (by omega)
  have x1' : f_X4_readBounded N 0 15 A = some (iI x, A1) := x1
  have y1' : f_X10_expect 44 A1 = some A2 := y1
  rw [f_X4_readPlaces, x1', hb2_some, y1', hb1_some]
  rcases y4 with ⟨l1, l2, p2, l3, l4, l5, l6, l7⟩ | ⟨l1, l2⟩
  · have l7' : f_X12_readsWithin N 0 15 44 B = some (1, B2) := l7
    rw [l7', hb2_some, if_neg i10, l6]
    obtain ⟨y, A3, u1, u2, u3, -, u5⟩ := rbd (N := N) (lo := 0) (hi := 11) (by omega) l4 l5 (by omega) (by omega) (by omega) (by omega)
    obtain ⟨A4, B4, v1, v2, v3, v4⟩ := u5 58 (by omega) (by omega)
    have u1' : f_X4_readBounded N 0 11 A2 = some (iI y, A3) := u1
    have v1' : f_X10_expect 58 A3 = some A4 := v1
    rw [u1', hb2_some, v1', hb1_some]
    rcases v4 with ⟨m1, m2, p4, m3, m4, m5, m6, m7⟩ | ⟨m1, m2⟩
    · have m7' : f_X12_readsWithin N 0 11 58 B2 = some (1, B4) := m7
      rw [m7', hb2_some, if_neg i10, m6]
      have e16 : (16 : Int32) - iI x = iI (16 - x) := iI_sub 16 x
      have e12 : (12 : Int32) - iI y = iI (12 - y) := iI_sub 12 y
      rw [e16, e12]
      obtain ⟨w, A5, s1, s2, s3, -, s5⟩ := rbd (N := N) (lo := 1) (hi := 16 - x) (by omega) m4 m5 (by omega) (by omega) (by omega) (by omega)
      obtain ⟨A6, B6, t1, t2, t3, t4⟩ := s5 120 (by omega) (by omega)
      have s1' : f_X4_readBounded N 1 (iI (16 - x)) A4 = some (iI w, A5) := s1
      have t1' : f_X10_expect 120 A5 = some A6 := t1
      rw [s1', hb2_some, t1', hb1_some]
      rcases t4 with ⟨n1, n2, p6, n3, n4, n5, n6, n7⟩ | ⟨n1, n2⟩
      · have n7' : f_X12_readsWithin N 1 (iI (16 - x)) 120 B4 = some (1, B6) := n7
        rw [n7', hb2_some, if_neg i10, n6]
        obtain ⟨h, A7, o1, o2, o3, ⟨B7, o4, o5⟩, -⟩ := rbd (N := N) (lo := 1) (hi := 12 - y) (by omega) n4 n5 (by omega) (by omega) (by omega) (by omega)
        have o1' : f_X4_readBounded N 1 (iI (12 - y)) A6 = some (iI h, A7) := o1
        rw [o1', hb2_some]
        have cA7 : oc1 A A7 := (((y2.trans v2).trans t2)).trans o3
        have cB7 : oB B B7 := ((y3.trans v3).trans t3).trans o4
        rcases o5 with ⟨r1, r2, p7, r3, r4, r5, r6, r7⟩ | ⟨r1, r2⟩
        · have r7' : f_X12_readsWithin N 1 (iI (12 - y)) (-1) B6 = some (1, B7) := r7
          rw [r7', hb2_some, if_neg i10, r6]
          -- all four numbers stand; the charge, and the painting
          have paint : ∀ (AX BX : HMem) (q v : Nat), CP tb AX n q → RP tb BX n q → oc1 A AX → oBL B BX → (∀ k, k ≠ 74 → BX k = B k) → BX 74 45 = B 74 45 → BX 74 16 = iI v → v ≤ 99 → (c = 126 → v = 0) → p ≤ q → ∃ A' B', f_X4_readPlaces_L94 N (kc c) (iI x) (iI y) (iI w) (iI h) (iI v) N 0 AX = some A' ∧ f_X12_readsGround_L184 N (iI c) (iI x) (iI y) (iI w) (iI h) N 0 BX = some (1, B') ∧ ocL A A' ∧ oBL B B' ∧ CP tb A' n q ∧ RP tb B' n q ∧ LR A' B' t := by
            intro AX BX q v hAX hBX oA oBx oB2 e45 ev v99 v0 pq
            obtain ⟨gk, gp, g1, g2, g3⟩ := cov_2 (A := AX) (N := N) (x := x) (y := y) (w := w) (h := h) (K := kc c) (C := iI v) (g0 := AX 12) (g1 := AX 13) hN (by omega) (by omega) N 0 (AX 12) (AX 13) (by omega) (by omega) (fun p hp => by rw [if_neg (by simp [rcD]; omega)]) (fun p hp => by rw [if_neg (by simp [rcD]; omega)])
            rw [hput_eta, hput_eta] at g3
            obtain ⟨bk, bp, b1, b2, b3⟩ := cov_R (B := BX) (N := N) (x := x) (y := y) (w := w) (h := h) (v := v) (c := c) (g0 := BX 102) (g1 := BX 103) (by omega) (by omega) ev (by omega) N 0 (BX 102) (BX 103) (by omega) (by omega) (fun p hp => by rw [if_neg (by omega)]) (fun p hp => by rw [if_neg (by omega)])
            rw [hput_eta, hput_eta] at b3
            refine ⟨_, _, g3, b3, fun k a1 a2 a3 a4 => ?_, ⟨fun k a1 a2 a3 => ?_, fun j a1 a2 a3 a4 => ?_⟩, ?_, ?_, ?_⟩
            · rw [hput_ne _ _ a4, hput_ne _ _ a3]; exact oA k a1
            · rw [hput_ne _ _ a3, hput_ne _ _ a2]; exact oB2 k a1
            · rw [hput_ne _ _ (by decide), hput_ne _ _ (by decide)]; exact oBx.2 j a1 a2 a3 a4
            · exact hAX.cg (by rw [hput_ne _ _ (by decide), hput_ne _ _ (by decide)]) (by rw [hput_ne _ _ (by decide), hput_ne _ _ (by decide)])
            · exact hBX.cg (by rw [hput_ne _ _ (by decide), hput_ne _ _ (by decide)]) (by rw [hput_ne _ _ (by decide), hput_ne _ _ (by decide)]) (by rw [hput_ne _ _ (by decide), hput_ne _ _ (by decide)])
            · obtain ⟨z1, z2, z3, z4⟩ := hR
              refine ⟨z1, ?_, ?_, fun p hp => ?_⟩
              · rw [hput_ne _ _ (by decide), hput_ne _ _ (by decide), oA 11 (by decide)]; exact z2
              · rw [hput_ne _ _ (by decide), hput_ne _ _ (by decide), e45]; exact z3
              · rw [hput_ne _ gp (show 12 ≠ 13 by decide), hput_self, hput_self, hput_ne _ bp (show 102 ≠ 103 by decide), hput_self, hput_self, g1 p hp, g2 p hp, b1 p hp, b2 p hp]
                by_cases e : rcB x y w h p = true
                · refine ⟨a, v, ka2, v99, fun ha => v0 (ka4.mp (by omega)), ?_⟩
                  rw [if_pos e, if_pos e, if_pos e, if_pos e]
                  exact ⟨ka3, ka3, rfl, rfl⟩
                · rw [if_neg e, if_neg e, if_neg e, if_neg e, oA 12 (by decide), oA 13 (by decide), oB2 102 (by decide), oB2 103 (by decide)]
                  exact z4 p hp
          by_cases e : c = 126
          · rw [if_pos (k1.mpr e), snd1 r4, if_neg i10, if_pos (k2.mpr e)]
            have hB9 : RP tb (hset B7 74 16 0) n p7 := r5.cg (hset_nek _ _ _ (by decide)) (hset_nej _ _ (by decide)) (hset_nej _ _ (by decide))
            obtain ⟨A', B', i1, i2, i3, i4, i5, i6, i7⟩ := paint A7 (hset B7 74 16 0) p7 0 r4 hB9 cA7 (cB7.trans (oB_set _ _ (by decide))).L (fun k hk => by rw [hset_nek _ _ _ hk]; exact cB7.1 k hk) (by rw [hset_nej _ _ (by decide)]; exact cB7.2 45 (by decide) (by decide) (by decide)) (hset_self _ _ _ _) (by omega) (fun _ => rfl) (by omega)
            have i1' : f_X4_readPlaces_L94 N (kc c) (iI x) (iI y) (iI w) (iI h) 0 N 0 A7 = some A' := i1
            exact ⟨A', B', i1', i3, i4, Or.inl ⟨p7, by omega, i5, i6, i7, i2⟩⟩
          · rw [if_neg (fun h => e (k1.mp h)), if_neg (fun h => e (k2.mp h))]
            have hB9 : RP tb (hset B7 74 16 0) n p7 := r5.cg (hset_nek _ _ _ (by decide)) (hset_nej _ _ (by decide)) (hset_nej _ _ (by decide))
            have cB9 : oB B (hset B7 74 16 0) := cB7.trans (oB_set _ _ (by decide))
            obtain ⟨A8, B8, f1, f2, f3, f4, f5⟩ := ex_tk (c := 61) r4 hB9 (by omega) (by omega)
            have f1' : f_X10_expect 61 A7 = some A8 := f1
            rw [f_X4_readCharge, f1', hb1_some]
            rcases f5 with ⟨f5, f6, f7, f8⟩ | ⟨f5, f6⟩
            · have f5' : f_X12_takes 61 (hset B7 74 16 0) = some (1, B8) := f5
              rw [f5', hb2_some, if_neg i10]
              obtain ⟨v, A9, B9, j1, j2, j3, j4, j5⟩ := numA (show 10 ≤ N by omega) f7 f8
              rw [j1, hb2_some, hb2_some]
              have cA9 := (cA7.trans f2).trans j3
              have cB10 := (cB9.trans f3).trans j4
              rcases j5 with ⟨p9, j6, j7, j8, j9, j10⟩ | ⟨j6, j7⟩
              · rw [j10, hb2_some, if_neg i10, snd1 j7, if_neg i10]
                obtain ⟨A', B', i1, i2, i3, i4, i5, i6, i7⟩ := paint A9 B9 p9 v j7 j8 cA9 cB10.L cB10.1 (cB10.2 45 (by decide) (by decide) (by decide)) j9 j2 (fun h => absurd h e) (by omega)
                exact ⟨A', B', i1, i3, i4, Or.inl ⟨p9, by omega, i5, i6, i7, i2⟩⟩
              · rw [j7, hb2_some, if_pos rfl, snd0 j6.dead, if_pos rfl]
                exact ⟨A9, B9, rfl, cA9.L, cB10.L, Or.inr ⟨j6, rfl⟩⟩
            · have f5' : f_X12_takes 61 (hset B7 74 16 0) = some (0, B8) := f5
              rw [f5', hb2_some, if_pos rfl, number_dead _ f6.dead, hb2_some, hb2_some, snd0 f6.dead, if_pos rfl]
              exact ⟨A8, B8, rfl, (cA7.trans f2).L, (cB9.trans f3).L, Or.inr ⟨f6, rfl⟩⟩
        · have r2' : f_X12_readsWithin N 1 (iI (12 - y)) (-1) B6 = some (0, B7) := r2
          rw [r2', hb2_some, if_pos rfl, dd4 _ _ _ _ r1.dead]
          exact ⟨A7, B7, rfl, cA7.L, cB7.L, Or.inr ⟨r1, rfl⟩⟩
      · have n2' : f_X12_readsWithin N 1 (iI (16 - x)) 120 B4 = some (0, B6) := n2
        rw [n2', hb2_some, if_pos rfl, rbd_dead _ _ n1.dead, hb2_some, dd4 _ _ _ _ n1.dead]
        exact ⟨A6, B6, rfl, ((y2.trans v2).trans t2).L, ((y3.trans v3).trans t3).L, Or.inr ⟨n1, rfl⟩⟩
    · have m2' : f_X12_readsWithin N 0 11 58 B2 = some (0, B4) := m2
      rw [m2', hb2_some, if_pos rfl, rbd_dead _ _ m1.dead, hb2_some, show (120 : Int32) = iI 120 from rfl, ed 120 m1.dead (by omega) (by omega), hb1_some, rbd_dead _ _ m1.dead, hb2_some, dd4 _ _ _ _ m1.dead]
      exact ⟨A4, B4, rfl, (y2.trans v2).L, (y3.trans v3).L, Or.inr ⟨m1, rfl⟩⟩
  · have l2' : f_X12_readsWithin N 0 15 44 B = some (0, B2) := l2
    rw [l2', hb2_some, if_pos rfl, rbd_dead _ _ l1.dead, hb2_some, show (58 : Int32) = iI 58 from rfl, ed 58 l1.dead (by omega) (by omega), hb1_some, rbd_dead _ _ l1.dead, hb2_some, show (120 : Int32) = iI 120 from rfl, ed 120 l1.dead (by omega) (by omega), hb1_some, rbd_dead _ _ l1.dead, hb2_some, dd4 _ _ _ _ l1.dead]
    exact ⟨A2, B2, rfl, y2.L, y3.L, Or.inr ⟨l1, rfl⟩⟩

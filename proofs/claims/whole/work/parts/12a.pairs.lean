/-! ALL CALLS: the invariant is kept, and both answer alike -/
def Inv (M : HMem) : Prop := ITape M ∧ IFade M ∧ ILines M ∧ ILand M ∧ ILaw M ∧ PR 35 75 M ∧ IKept M
theorem Inv.o {G : Nat} {M M2 : HMem} (h : Inv M) (o : oth G M M2) : (G ≠ 1 → ITape M2) ∧ (G ≠ 2 → IFade M2) ∧ (G ≠ 3 → ILines M2) ∧ (G ≠ 4 → ILand M2) ∧ (G ≠ 5 → ILaw M2) ∧ (G ≠ 6 → PR 35 75 M2) ∧ (G ≠ 7 → IKept M2) := by
  obtain ⟨i1, i2, i3, i4, i5, i6, i7⟩ := h
  exact ⟨fun g => i1.congr (fun k j e => o k j (by omega) (by omega)), fun g => i2.congr (fun k j e => o k j (by omega) (by omega)), fun g => i3.congr (fun k j e => o k j (by omega) (by omega)), fun g => i4.congr (fun k j e => o k j (by omega) (by omega)), fun g => i5.congr (fun k j e => o k j (by omega) (by omega)), fun g => PRn.congr i6 (fun k j e => o k j (by omega) (by omega)), fun g => i7.congr (fun k j e => o k j (by omega) (by omega))⟩
theorem Inv.t {G : Nat} {M M2 : HMem} (h : Inv M) (o : othT G M M2) : (G ≠ 2 → IFade M2) ∧ (G ≠ 3 → ILines M2) ∧ (G ≠ 4 → ILand M2) ∧ (G ≠ 5 → ILaw M2) ∧ (G ≠ 6 → PR 35 75 M2) ∧ (G ≠ 7 → IKept M2) := by
  obtain ⟨i1, i2, i3, i4, i5, i6, i7⟩ := h
  exact ⟨fun g => i2.congr (fun k j e => o k j (by omega) (by omega) (by omega)), fun g => i3.congr (fun k j e => o k j (by omega) (by omega) (by omega)), fun g => i4.congr (fun k j e => o k j (by omega) (by omega) (by omega)), fun g => i5.congr (fun k j e => o k j (by omega) (by omega) (by omega)), fun g => PRn.congr i6 (fun k j e => o k j (by omega) (by omega) (by omega)), fun g => i7.congr (fun k j e => o k j (by omega) (by omega) (by omega))⟩
theorem Inv.put33 {M M1 : HMem} (h : Inv M) (e : M1 = M ∨ ∃ g, M1 = hput M 33 g) : Inv M1 := by
  rcases e with rfl | ⟨g, rfl⟩
  · exact h
  · obtain ⟨c1, c2, c3, c4, c5, c6, c7⟩ := h.o (oth_put (G := 0) (M := M) (k0 := 33) (f := g) (fun _ => Or.inr rfl))
    exact ⟨c1 (by decide), c2 (by decide), c3 (by decide), c4 (by decide), c5 (by decide), c6 (by decide), c7 (by decide)⟩
def dH : Nat := 80
def PRX (I J : HI) (av : List HV) (M : HMem) : Prop := ∃ (r : Int32) (M1 M2 : HMem), MC I dH (.inr (some 0) :: av) M (some (.inl r), M1) ∧ MC J dH (.inr (some 74) :: av) M1 (some (.inl r), M2) ∧ Inv M2
theorem pr_hound (a1 a2 a3 : Int32) {M : HMem} (h : Inv M) : PRX iX11_hound iX12_hound [.inl a1, .inl a2, .inl a3] M := by
  obtain ⟨i1, i2, i3, i4, i5, i6, i7⟩ := id h
  obtain ⟨r, M1, M2, g1, g2, g3, g4⟩ := op_hound a1 a2 a3 i6
  obtain ⟨c1, c2, c3, c4, c5, c6, c7⟩ := h.o g4
  exact ⟨r, M1, M2, (c_X11_hound dH (by decide) a1 a2 a3 M) (r, M1) g1, (c_X12_hound dH (by decide) a1 a2 a3 M1) (r, M2) g2, c1 (by decide), c2 (by decide), c3 (by decide), c4 (by decide), c5 (by decide), g3, c7 (by decide)⟩
theorem pr_fading (a1 : Int32) {M : HMem} (h : Inv M) : PRX iX11_fading iX12_fading [.inl a1] M := by
  obtain ⟨i1, i2, i3, i4, i5, i6, i7⟩ := id h
  obtain ⟨r, M1, M2, g1, g2, g3, g4⟩ := op_fading a1 i2
  obtain ⟨c1, c2, c3, c4, c5, c6, c7⟩ := h.o g4
  exact ⟨r, M1, M2, (c_X11_fading dH (by decide) a1 M) (r, M1) g1, (c_X12_fading dH (by decide) a1 M1) (r, M2) g2, c1 (by decide), g3, c3 (by decide), c4 (by decide), c5 (by decide), c6 (by decide), c7 (by decide)⟩
theorem pr_time (a1 : Int32) {M : HMem} (h : Inv M) : PRX iX11_time iX12_time [.inl a1] M := by
  obtain ⟨i1, i2, i3, i4, i5, i6, i7⟩ := id h
  obtain ⟨r, M1, M2, g1, g2, g3, g4⟩ := op_time a1 i6
  obtain ⟨c1, c2, c3, c4, c5, c6, c7⟩ := h.o g4
  exact ⟨r, M1, M2, (c_X11_time dH (by decide) a1 M) (r, M1) g1, (c_X12_time dH (by decide) a1 M1) (r, M2) g2, c1 (by decide), c2 (by decide), c3 (by decide), c4 (by decide), c5 (by decide), g3, c7 (by decide)⟩
theorem pr_feed (a1 a2 a3 a4 a5 : Int32) {M : HMem} (h : Inv M) : PRX iX11_feed iX12_feed [.inl a1, .inl a2, .inl a3, .inl a4, .inl a5] M := by
  obtain ⟨i1, i2, i3, i4, i5, i6, i7⟩ := id h
  obtain ⟨r, M1, M2, g1, g2, g3, g4⟩ := op_feed a1 a2 a3 a4 a5 (by decide : _ ≤ 400) i1
  obtain ⟨c1, c2, c3, c4, c5, c6, c7⟩ := h.o g4
  exact ⟨r, M1, M2, (c_X11_feed dH (by decide) 400 a1 a2 a3 a4 a5 M) (r, M1) g1, (c_X12_feed dH (by decide) 400 a1 a2 a3 a4 a5 M1) (r, M2) g2, g3, c2 (by decide), c3 (by decide), c4 (by decide), c5 (by decide), c6 (by decide), c7 (by decide)⟩
theorem pr_law (a1 : Int32) {M : HMem} (h : Inv M) : PRX iX11_law iX12_law [.inl a1] M := by
  obtain ⟨i1, i2, i3, i4, i5, i6, i7⟩ := id h
  obtain ⟨r, M1, M2, g1, g2, g3, g4, g5⟩ := op_law a1 (by decide : _ ≤ 400) i1 i5
  obtain ⟨c2, c3, c4, c5, c6, c7⟩ := h.t g5
  exact ⟨r, M1, M2, (c_X11_law dH (by decide) 400 a1 M) (r, M1) g1, (c_X12_law dH (by decide) 400 a1 M1) (r, M2) g2, g3, c2 (by decide), c3 (by decide), c4 (by decide), g4, c6 (by decide), c7 (by decide)⟩
theorem pr_line (a1 a2 a3 a4 a5 : Int32) {M : HMem} (h : Inv M) : PRX iX11_line iX12_line [.inl a1, .inl a2, .inl a3, .inl a4, .inl a5] M := by
  obtain ⟨i1, i2, i3, i4, i5, i6, i7⟩ := id h
  obtain ⟨r, M1, M2, g1, g2, g3, g4, g5⟩ := op_line a1 a2 a3 a4 a5 (by decide : _ ≤ 400) i1 i3
  obtain ⟨c2, c3, c4, c5, c6, c7⟩ := h.t g5
  exact ⟨r, M1, M2, (c_X11_line dH (by decide) 400 a1 a2 a3 a4 a5 M) (r, M1) g1, (c_X12_line dH (by decide) 400 a1 a2 a3 a4 a5 M1) (r, M2) g2, g3, c2 (by decide), g4, c4 (by decide), c5 (by decide), c6 (by decide), c7 (by decide)⟩
theorem pr_land (a1 : Int32) {M : HMem} (h : Inv M) : PRX iX11_land iX12_land [.inl a1] M := by
  obtain ⟨i1, i2, i3, i4, i5, i6, i7⟩ := id h
  obtain ⟨r, M1, M2, g1, g2, g3, g4, g5⟩ := op_land a1 (by decide : _ ≤ 400) i1 i4
  obtain ⟨c2, c3, c4, c5, c6, c7⟩ := h.t g5
  exact ⟨r, M1, M2, (c_X11_land dH (by decide) 400 a1 M) (r, M1) g1, (c_X12_land dH (by decide) 400 a1 M1) (r, M2) g2, g3, c2 (by decide), c3 (by decide), g4, c5 (by decide), c6 (by decide), c7 (by decide)⟩
theorem pr_moments (a1 : Int32) {M : HMem} (h : Inv M) : PRX iX11_moments iX12_moments [.inl a1] M := by
  obtain ⟨i1, i2, i3, i4, i5, i6, i7⟩ := id h
  obtain ⟨r, M1, M2, g1, g2, g3, g4⟩ := op_moments a1 (by decide : _ ≤ 400) i2 i3 i4 i5 i6
  obtain ⟨c1, c2, c3, c4, c5, c6, c7⟩ := h.o g4
  exact ⟨r, M1, M2, (c_X11_moments dH (by decide) 400 a1 M) (r, M1) g1, (c_X12_moments dH (by decide) 400 a1 M1) (r, M2) g2, c1 (by decide), c2 (by decide), c3 (by decide), c4 (by decide), c5 (by decide), g3, c7 (by decide)⟩
theorem pr_tried (a1 a2 : Int32) {M : HMem} (h : Inv M) : PRX iX11_tried iX12_tried [.inl a1, .inl a2] M := by
  obtain ⟨i1, i2, i3, i4, i5, i6, i7⟩ := id h
  obtain ⟨r, M1, M2, g1, g2, g3, g4⟩ := op_tried a1 a2 (by decide : _ ≤ 400) i2 i3 i4 i5 i6
  obtain ⟨c1, c2, c3, c4, c5, c6, c7⟩ := h.o g4
  exact ⟨r, M1, M2, (c_X11_tried dH (by decide) 400 a1 a2 M) (r, M1) g1, (c_X12_tried dH (by decide) 400 a1 a2 M1) (r, M2) g2, c1 (by decide), c2 (by decide), c3 (by decide), c4 (by decide), c5 (by decide), g3, c7 (by decide)⟩
theorem pr_houndIs (a1 a2 : Int32) {M : HMem} (h : Inv M) : PRX iX11_houndIs iX12_houndIs [.inl a1, .inl a2] M := by
  obtain ⟨i1, i2, i3, i4, i5, i6, i7⟩ := id h
  obtain ⟨r, g1, g2⟩ := op_houndIs a1 a2 i6
  exact ⟨r, M, M, (c_X11_houndIs dH (by decide) a1 a2 M) r g1, (c_X12_houndIs dH (by decide) a1 a2 M) r g2, h⟩
theorem pr_where (a1 a2 : Int32) {M : HMem} (h : Inv M) : PRX iX11_where iX12_where [.inl a1, .inl a2] M := by
  obtain ⟨i1, i2, i3, i4, i5, i6, i7⟩ := id h
  obtain ⟨r, g1, g2⟩ := op_where a1 a2 i3
  exact ⟨r, M, M, (c_X11_where dH (by decide) a1 a2 M) r g1, (c_X12_where dH (by decide) a1 a2 M) r g2, h⟩
theorem pr_freshest (a1 a2 a3 : Int32) {M : HMem} (h : Inv M) : PRX iX11_freshest iX12_freshest [.inl a1, .inl a2, .inl a3] M := by
  obtain ⟨i1, i2, i3, i4, i5, i6, i7⟩ := id h
  obtain ⟨r, g1, g2⟩ := op_freshest a1 a2 a3 (by decide : _ ≤ 400) i3 i4 i2 i6
  exact ⟨r, M, M, (c_X11_freshest dH (by decide) 400 a1 a2 a3 M) r g1, (c_X12_freshest dH (by decide) 400 a1 a2 a3 M) r g2, h⟩
theorem pr_firstHome (a1 a2 : Int32) {M : HMem} (h : Inv M) : PRX iX11_firstHome iX12_firstHome [.inl a1, .inl a2] M := by
  obtain ⟨i1, i2, i3, i4, i5, i6, i7⟩ := id h
  obtain ⟨r, M1, M2, g1, g2, g3, g4⟩ := op_firstHome a1 a2 (by decide : _ ≤ 400) i2 i3 i4 i5 i6
  obtain ⟨c1, c2, c3, c4, c5, c6, c7⟩ := h.o g4
  exact ⟨r, M1, M2, (c_X11_firstHome dH (by decide) 400 a1 a2 M) (r, M1) g1, (c_X12_firstHome dH (by decide) 400 a1 a2 M1) (r, M2) g2, c1 (by decide), c2 (by decide), c3 (by decide), c4 (by decide), c5 (by decide), g3, c7 (by decide)⟩
theorem pr_two (a1 a2 a3 : Int32) {M : HMem} (h : Inv M) : PRX iX11_two iX12_two [.inl a1, .inl a2, .inl a3] M := by
  obtain ⟨i1, i2, i3, i4, i5, i6, i7⟩ := id h
  obtain ⟨r, M1, g1, g2, g3⟩ := op_two a1 a2 a3 (by decide : _ ≤ 400) i3
  exact ⟨r, M1, M1, (c_X11_two dH (by decide) 400 a1 a2 a3 M) (r, M1) g1, (c_X12_two dH (by decide) 400 a1 a2 a3 M1) r g2, h.put33 g3⟩
theorem pr_together (a1 a2 a3 : Int32) {M : HMem} (h : Inv M) : PRX iX11_together iX12_together [.inl a1, .inl a2, .inl a3] M := by
  obtain ⟨i1, i2, i3, i4, i5, i6, i7⟩ := id h
  obtain ⟨r, g1, g2⟩ := op_together a1 a2 a3 (by decide : _ ≤ 400) i3
  exact ⟨r, M, M, (c_X11_together dH (by decide) 400 a1 a2 a3 M) r g1, (c_X12_together dH (by decide) 400 a1 a2 a3 M) r g2, h⟩
theorem pr_crowd (a1 a2 : Int32) {M : HMem} (h : Inv M) : PRX iX11_crowd iX12_crowd [.inl a1, .inl a2] M := by
  obtain ⟨i1, i2, i3, i4, i5, i6, i7⟩ := id h
  obtain ⟨r, g1, g2⟩ := op_crowd a1 a2 (by decide : _ ≤ 400) i3
  exact ⟨r, M, M, (c_X11_crowd dH (by decide) 400 a1 a2 M) r g1, (c_X12_crowd dH (by decide) 400 a1 a2 M) r g2, h⟩
theorem pr_stayed (a1 a2 : Int32) {M : HMem} (h : Inv M) : PRX iX11_stayed iX12_stayed [.inl a1, .inl a2] M := by
  obtain ⟨i1, i2, i3, i4, i5, i6, i7⟩ := id h
  obtain ⟨r, M1, g1, g2, g3⟩ := op_stayed a1 a2 (by decide : _ ≤ 400) i3
  exact ⟨r, M1, M1, (c_X11_stayed dH (by decide) 400 a1 a2 M) (r, M1) g1, (c_X12_stayed dH (by decide) 400 a1 a2 M1) r g2, h.put33 g3⟩
theorem pr_unlooped (a1 a2 : Int32) {M : HMem} (h : Inv M) : PRX iX11_unlooped iX12_unlooped [.inl a1, .inl a2] M := by
  obtain ⟨i1, i2, i3, i4, i5, i6, i7⟩ := id h
  obtain ⟨r, M1, M2, g1, g2, g4⟩ := op_unlooped a1 a2 (by decide : _ ≤ 400) i3
  obtain ⟨c1, c2, c3, c4, c5, c6, c7⟩ := h.o g4
  exact ⟨r, M1, M2, (c_X11_unlooped dH (by decide) 400 a1 a2 M) (r, M1) g1, (c_X12_unlooped dH (by decide) 400 a1 a2 M1) (r, M2) g2, c1 (by decide), c2 (by decide), c3 (by decide), c4 (by decide), c5 (by decide), c6 (by decide), c7 (by decide)⟩
theorem pr_charges (a1 a2 : Int32) {M : HMem} (h : Inv M) : PRX iX11_charges iX12_charges [.inl a1, .inl a2] M := by
  obtain ⟨i1, i2, i3, i4, i5, i6, i7⟩ := id h
  obtain ⟨r, M2, g1, g2, g4⟩ := op_charges a1 a2 (by decide : _ ≤ 400) i3 i4
  obtain ⟨c1, c2, c3, c4, c5, c6, c7⟩ := h.o g4
  exact ⟨r, M, M2, (c_X11_charges dH (by decide) 400 a1 a2 M) r g1, (c_X12_charges dH (by decide) 400 a1 a2 M) (r, M2) g2, c1 (by decide), c2 (by decide), c3 (by decide), c4 (by decide), c5 (by decide), c6 (by decide), c7 (by decide)⟩
theorem pr_round (a1 a2 : Int32) {M : HMem} (h : Inv M) : PRX iX11_round iX12_round [.inl a1, .inl a2] M := by
  obtain ⟨i1, i2, i3, i4, i5, i6, i7⟩ := id h
  obtain ⟨r, M1, M2, g1, g2, g4⟩ := op_round a1 a2 (by decide : _ ≤ 400) i4
  obtain ⟨c1, c2, c3, c4, c5, c6, c7⟩ := h.o g4
  exact ⟨r, M1, M2, (c_X11_round dH (by decide) 400 a1 a2 M) (r, M1) g1, (c_X12_round dH (by decide) 400 a1 a2 M1) (r, M2) g2, c1 (by decide), c2 (by decide), c3 (by decide), c4 (by decide), c5 (by decide), c6 (by decide), c7 (by decide)⟩
theorem pr_cast (a1 : Int32) {M : HMem} (h : Inv M) : PRX iX11_cast iX12_cast [.inl a1] M := by
  obtain ⟨i1, i2, i3, i4, i5, i6, i7⟩ := id h
  obtain ⟨r, g1, g2⟩ := op_cast a1 (by decide : _ ≤ 400) i3 i4 i2 i6
  exact ⟨r, M, M, (c_X11_cast dH (by decide) 400 a1 M) r g1, (c_X12_cast dH (by decide) 400 a1 M) r g2, h⟩
theorem pr_huntable (a1 : Int32) {M : HMem} (h : Inv M) : PRX iX11_huntable iX12_huntable [.inl a1] M := by
  obtain ⟨i1, i2, i3, i4, i5, i6, i7⟩ := id h
  obtain ⟨r, M1, M2, g1, g2, g4⟩ := op_huntable a1 (by decide : _ ≤ 400) i3 i4 i2 i6
  obtain ⟨c1, c2, c3, c4, c5, c6, c7⟩ := h.o g4
  exact ⟨r, M1, M2, (c_X11_huntable dH (by decide) 400 a1 M) (r, M1) g1, (c_X12_huntable dH (by decide) 400 a1 M1) (r, M2) g2, c1 (by decide), c2 (by decide), c3 (by decide), c4 (by decide), c5 (by decide), c6 (by decide), c7 (by decide)⟩
theorem pr_couldBe (a1 a2 : Int32) {M : HMem} (h : Inv M) : PRX iX11_couldBe iX12_couldBe [.inl a1, .inl a2] M := by
  obtain ⟨i1, i2, i3, i4, i5, i6, i7⟩ := id h
  obtain ⟨r, M1, M2, g1, g2, g3, g4⟩ := op_couldBe a1 a2 (by decide : _ ≤ 400) i1 i3
  obtain ⟨c1, c2, c3, c4, c5, c6, c7⟩ := h.o g4
  exact ⟨r, M1, M2, (c_X11_couldBe dH (by decide) 400 a1 a2 M) (r, M1) g1, (c_X12_couldBe dH (by decide) 400 a1 a2 M1) (r, M2) g2, g3, c2 (by decide), c3 (by decide), c4 (by decide), c5 (by decide), c6 (by decide), c7 (by decide)⟩
theorem pr_heldIn (a1 : Int32) {M : HMem} (h : Inv M) : PRX iX11_heldIn iX12_heldIn [.inl a1] M := by
  obtain ⟨i1, i2, i3, i4, i5, i6, i7⟩ := id h
  obtain ⟨r, M1, M2, g1, g2, g4⟩ := op_heldIn a1 (by decide : _ ≤ 400) i3
  obtain ⟨c1, c2, c3, c4, c5, c6, c7⟩ := h.o g4
  exact ⟨r, M1, M2, (c_X11_heldIn dH (by decide) 400 a1 M) (r, M1) g1, (c_X12_heldIn dH (by decide) 400 a1 M1) (r, M2) g2, c1 (by decide), c2 (by decide), c3 (by decide), c4 (by decide), c5 (by decide), c6 (by decide), c7 (by decide)⟩
theorem pr_lineIs (a1 a2 : Int32) {M : HMem} (h : Inv M) : PRX iX11_lineIs iX12_lineIs [.inl a1, .inl a2] M := by
  obtain ⟨i1, i2, i3, i4, i5, i6, i7⟩ := id h
  obtain ⟨r, M1, g1, g2, g3⟩ := op_lineIs a1 a2 (by decide : _ ≤ 400) i3
  exact ⟨r, M1, M1, (c_X11_lineIs dH (by decide) 400 a1 a2 M) (r, M1) g1, (c_X12_lineIs dH (by decide) 400 a1 a2 M1) r g2, h.put33 g3⟩
theorem pr_landAt (a1 a2 : Int32) {M : HMem} (h : Inv M) : PRX iX11_landAt iX12_landAt [.inl a1, .inl a2] M := by
  obtain ⟨i1, i2, i3, i4, i5, i6, i7⟩ := id h
  obtain ⟨r, g1, g2⟩ := op_landAt a1 a2 i4
  exact ⟨r, M, M, (c_X11_landAt dH (by decide) a1 a2 M) r g1, (c_X12_landAt dH (by decide) a1 a2 M) r g2, h⟩
theorem pr_seed (a1 : Int32) {M : HMem} (h : Inv M) : PRX iX11_seed iX12_seed [.inl a1] M := by
  obtain ⟨i1, i2, i3, i4, i5, i6, i7⟩ := id h
  obtain ⟨r, M1, M2, g1, g2, g3, g4⟩ := op_seed a1 i6
  obtain ⟨c1, c2, c3, c4, c5, c6, c7⟩ := h.o g4
  exact ⟨r, M1, M2, (c_X11_seed dH (by decide) a1 M) (r, M1) g1, (c_X12_seed dH (by decide) a1 M1) (r, M2) g2, c1 (by decide), c2 (by decide), c3 (by decide), c4 (by decide), c5 (by decide), g3, c7 (by decide)⟩
theorem pr_keep {M : HMem} (h : Inv M) : PRX iX11_keep iX12_keep [] M := by
  obtain ⟨i1, i2, i3, i4, i5, i6, i7⟩ := id h
  obtain ⟨r, M1, M2, g1, g2, g3, g4⟩ := op_keep (by decide : _ ≤ 400) i6
  obtain ⟨c1, c2, c3, c4, c5, c6, c7⟩ := h.o g4
  exact ⟨r, M1, M2, (c_X11_keep dH (by decide)  M) (r, M1) g1, (c_X12_keep dH (by decide) 400  M1) (r, M2) g2, c1 (by decide), c2 (by decide), c3 (by decide), c4 (by decide), c5 (by decide), c6 (by decide), g3⟩
theorem pr_undo {M : HMem} (h : Inv M) : PRX iX11_undo iX12_undo [] M := by
  obtain ⟨i1, i2, i3, i4, i5, i6, i7⟩ := id h
  obtain ⟨r, M1, M2, g1, g2, g3, g4⟩ := op_undo (by decide : _ ≤ 400) i6 i7
  obtain ⟨c1, c2, c3, c4, c5, c6, c7⟩ := h.o g4
  exact ⟨r, M1, M2, (c_X11_undo dH (by decide)  M) (r, M1) g1, (c_X12_undo dH (by decide) 400  M1) (r, M2) g2, c1 (by decide), c2 (by decide), c3 (by decide), c4 (by decide), c5 (by decide), g3, c7 (by decide)⟩
theorem pr_check (a1 : Int32) {M : HMem} (h : Inv M) : PRX iX11_check iX12_check [.inl a1] M := by
  obtain ⟨i1, i2, i3, i4, i5, i6, i7⟩ := id h
  obtain ⟨r, M1, M2, g1, g2, g3, g4⟩ := op_check a1 (by decide : _ ≤ 400) i1 i6
  obtain ⟨c1, c2, c3, c4, c5, c6, c7⟩ := h.o g4
  exact ⟨r, M1, M2, (c_X11_check dH (by decide) 400 a1 M) (r, M1) g1, (c_X12_check dH (by decide) 400 a1 M1) (r, M2) g2, g3, c2 (by decide), c3 (by decide), c4 (by decide), c5 (by decide), c6 (by decide), c7 (by decide)⟩
theorem pr_count (a1 : Int32) {M : HMem} (h : Inv M) : PRX iX11_count iX12_count [.inl a1] M := by
  obtain ⟨i1, i2, i3, i4, i5, i6, i7⟩ := id h
  obtain ⟨r, g1, g2⟩ := op_count a1 (by decide : _ ≤ 400) i1 i2 i3 i4 i5.C i6
  exact ⟨r, M, M, (c_X11_count dH (by decide) 400 a1 M) r g1, (c_X12_count dH (by decide) 400 a1 M) r g2, h⟩

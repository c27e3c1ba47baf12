/-! how near two came -/
theorem and15 : ∀ p : Fin 192, (iI ((p : Nat) : Int) &&& 15) = iI (((p : Nat) % 16 : Nat) : Int) ∧ (iI ((p : Nat) : Int) >>> ((4 : Int32) &&& 31)) = iI (((p : Nat) / 16 : Nat) : Int) ∧ iI ((p : Nat) : Int) / 16 = iI (((p : Nat) / 16 : Nat) : Int) ∧ iI ((p : Nat) : Int) - iI ((p : Nat) : Int) / 16 * 16 = iI (((p : Nat) % 16 : Nat) : Int) := by decide +kernel
def ab (z : Int) : Int := if 0 ≤ z then z else -z
def ap (p q : Nat) : Int := ab (((p % 16 : Nat) : Int) - ((q % 16 : Nat) : Int)) + ab (((p / 16 : Nat) : Int) - ((q / 16 : Nat) : Int))
theorem ap_rg {p q : Nat} (hp : p < 192) (hq : q < 192) : 0 ≤ ap p q ∧ ap p q ≤ 26 := by
  unfold ap ab
  have a1 := Nat.mod_lt p (show 16 > 0 by decide)
  have a2 := Nat.mod_lt q (show 16 > 0 by decide)
  have a3 : p / 16 < 12 := by omega
  have a4 : q / 16 < 12 := by omega
  constructor <;> (split <;> split <;> omega)
theorem habs_eq {z : Int} (h1 : -2147483648 < z) (h2 : z < 2147483648) : habs (iI z) = iI (ab z) := by
  rw [habs, q0, iI_sub, ab]
  simp (disch := omega) only [iI_le]
  split
  · rfl
  · rw [Int.zero_sub]
theorem acal {p q : Nat} (hp : p < 192) (hq : q < 192) : f_X11_across (iI p) (iI q) + f_X11_along (iI p) (iI q) = iI (ap p q) := by
  obtain ⟨a1, a2, -, -⟩ := and15 ⟨p, hp⟩
  obtain ⟨b1, b2, -, -⟩ := and15 ⟨q, hq⟩
  dsimp only at a1 a2 b1 b2
  rw [f_X11_across, f_X11_along, a1, b1, a2, b2, iI_sub, iI_sub, habs_eq (by omega) (by omega), habs_eq (by omega) (by omega), iI_add]
  rfl
theorem racal {p q : Nat} (hp : p < 192) (hq : q < 192) : f_X12_size ((iI p - iI p / 16 * 16) - (iI q - iI q / 16 * 16)) + f_X12_size (iI p / 16 - iI q / 16) = iI (ap p q) := by
  obtain ⟨-, -, a1, a2⟩ := and15 ⟨p, hp⟩
  obtain ⟨-, -, b1, b2⟩ := and15 ⟨q, hq⟩
  dsimp only at a1 a2 b1 b2
  rw [a2, b2, a1, b1, iI_sub, iI_sub, size_eq (by omega) (by omega), size_eq (by omega) (by omega), iI_add]
  rfl
/-- how far both are at time t -/
def apt (M : HMem) (c d : Nat) (fr fr' t : Int) : Int := ap (pl M c (t - fr).toNat) (pl M d (t - fr').toNat)
theorem apt_rg {M : HMem} {c d : Nat} {fr ln fr' ln' t : Int} (h : LN M c fr ln) (h' : LN M d fr' ln') (h1 : fr ≤ t ∧ t ≤ fr + ln) (h2 : fr' ≤ t ∧ t ≤ fr' + ln') : 0 ≤ apt M c d fr fr' t ∧ apt M c d fr fr' t ≤ 26 := ap_rg (h.pb (by omega)) (h'.pb (by omega))
theorem stepsApart_eq {M : HMem} {c d : Nat} {fr ln fr' ln' t : Int} (h : LN M c fr ln) (h' : LN M d fr' ln') (h1 : fr ≤ t ∧ t ≤ fr + ln) (h2 : fr' ≤ t ∧ t ≤ fr' + ln') : f_X9_stepsApart (50 + 3 * c) (50 + 3 * d) (iI t) M = some (iI (apt M c d fr fr' t)) := by
  rw [f_X9_stepsApart, placeAt_t h h1, placeAt_t h' h2, hb1_some, hb1_some, acal (h.pb (by omega)) (h'.pb (by omega))]
  rfl
theorem apartAt_in {M : HMem} {c d : Nat} {fr ln fr' ln' t : Int} (h : LN M c fr ln) (h' : LN M d fr' ln') (h1 : fr ≤ t ∧ t ≤ fr + ln) (h2 : fr' ≤ t ∧ t ≤ fr' + ln') : f_X12_apartAt (iI c) (iI d) (iI t) M = some (iI (apt M c d fr fr' t)) := by
  rw [f_X12_apartAt, whereAt_t h h1, whereAt_t h' h2, hb1_some, hb1_some, if_neg (pl_ne h (by omega)), if_neg (pl_ne h' (by omega)), racal (h.pb (by omega)) (h'.pb (by omega))]
  rfl
theorem apartAt_out {M : HMem} {c d : Nat} {fr ln fr' ln' t : Int} (h : LN M c fr ln) (h' : LN M d fr' ln') (h1 : fr ≤ t ∧ t ≤ fr + ln) (h2 : ¬ (fr' ≤ t ∧ t ≤ fr' + ln')) : f_X12_apartAt (iI c) (iI d) (iI t) M = some (-1) := by
  have hr := h.rg
  rw [f_X12_apartAt, whereAt_t h h1, whereAt_out h' (by omega) (by omega) h2, hb1_some, hb1_some, if_neg (pl_ne h (by omega)), if_pos rfl]
-- together
theorem tog_L {M : HMem} {c d n : Nat} {fr ln fr' ln' far : Int} (h : LN M c fr ln) (h' : LN M d fr' ln') (f0 : 0 ≤ far) (f1 : far ≤ 26) : ∀ (k k2 : Nat) (t : Int) (w : Nat), max fr fr' ≤ t → min (fr + ln) (fr' + ln') - t + 1 < k → 0 < k → t ≤ 20000 → (w : Int) + (min (fr + ln) (fr' + ln') - t + 1) ≤ 200 → w ≤ 200 → fr + ln - t + 1 < k2 → 0 < k2 → ∃ r, f_X9_timesWithin_L29 n (50 + 3 * c) (50 + 3 * d) (iI far) (iI (min (fr + ln) (fr' + ln'))) M k (iI w) (iI t) = some r ∧ f_X12_together_L32 n (iI c) (iI d) (iI far) M k2 (iI w) (iI t) = some r := by
  have hr := h.rg
  have hr' := h'.rg
  have hc := h.c8
  obtain ⟨g3, g4, g5, g6⟩ := h.cf
  -- behind the common end the reference counts nothing
  have tail : ∀ (k2 : Nat) (t : Int) (w : Nat), max fr fr' ≤ t → min (fr + ln) (fr' + ln') < t → t ≤ 20000 → fr + ln - t + 1 < k2 → 0 < k2 → f_X12_together_L32 n (iI c) (iI d) (iI far) M k2 (iI w) (iI t) = some (iI w) := by
    intro k2
    induction k2 with
    | zero => intro t w _ _ _ _ h; omega
    | succ k2 ih =>
      intro t w t1 t2 t3 t4 _
      rw [f_X12_together_L32, hib_t (by omega) (by omega) (by omega), if_pos rfl, if_pos rfl, iI_natc (by omega), g5, g6, iI_add]
      by_cases ht : fr + ln < t
      · rw [if_pos (by rw [iI_lt (by omega) (by omega) (by omega) (by omega)]; omega)]
      · rw [if_neg (by rw [iI_lt (by omega) (by omega) (by omega) (by omega)]; omega), apartAt_out h h' (by omega) (by omega), hb1_some, if_pos rfl, iI_1]
        exact ih (t + 1) w (by omega) (by omega) (by omega) (by omega) (by omega)
  intro k
  induction k with
  | zero => intro k2 t w _ _ h; omega
  | succ k ih =>
    intro k2 t w t1 t2 t3 t4 t5 t6 t7 t8
    rw [f_X9_timesWithin_L29]
    by_cases ht : min (fr + ln) (fr' + ln') < t
    · rw [if_pos (by rw [iI_lt (by omega) (by omega) (by omega) (by omega)]; omega), tail k2 t w t1 ht t4 t7 t8]
      exact ⟨_, rfl, rfl⟩
    · obtain ⟨k2, rfl⟩ : ∃ q, k2 = q + 1 := ⟨k2 - 1, by omega⟩
      have ha := apt_rg h h' (t := t) (by omega) (by omega)
      have e0 : ¬ iI (fr + ln) < iI t := by rw [iI_lt (by omega) (by omega) (by omega) (by omega)]; omega
      rw [if_neg (by rw [iI_lt (by omega) (by omega) (by omega) (by omega)]; omega), stepsApart_eq h h' (by omega) (by omega), hb1_some, f_X12_together_L32, hib_t (by omega) (by omega) (by omega), if_pos rfl, if_pos rfl, iI_natc (by omega), g5, g6, iI_add, if_neg e0, apartAt_in h h' (by omega) (by omega), hb1_some, hb1_some, if_neg (iI_m1 ha.1 (by omega)), iI_1, iI_s]
      by_cases hf : far < apt M c d fr fr' t
      · have e : iI far < iI (apt M c d fr fr' t) := by rw [iI_lt (by omega) (by omega) (by omega) (by omega)]; exact hf
        rw [if_pos e, if_pos e]
        exact ih k2 (t + 1) w (by omega) (by omega) (by omega) (by omega) (by omega) (by omega) (by omega) (by omega)
      · have e : ¬ iI far < iI (apt M c d fr fr' t) := by rw [iI_lt (by omega) (by omega) (by omega) (by omega)]; exact hf
        rw [if_neg e, if_neg e]
        exact ih k2 (t + 1) (w + 1) (by omega) (by omega) (by omega) (by omega) (by omega) (by omega) (by omega) (by omega)
/-- ahead of the common beginning the reference counts nothing -/
theorem tog_head {M : HMem} {c d n : Nat} {fr ln fr' ln' : Int} {far' : Int32} (h : LN M c fr ln) (h' : LN M d fr' ln') (w : Int32) : ∀ (k : Nat) (t : Int), fr ≤ t → t ≤ fr' → t ≤ fr + ln + 1 → fr + ln - t + 1 < k → ((fr' ≤ fr + ln + 1) → ∃ k2 : Nat, fr + ln - fr' + 1 < k2 ∧ 0 < k2 ∧ f_X12_together_L32 n (iI c) (iI d) far' M k (w) (iI t) = f_X12_together_L32 n (iI c) (iI d) far' M k2 w (iI fr')) ∧ (fr + ln + 1 < fr' → f_X12_together_L32 n (iI c) (iI d) far' M k w (iI t) = some w) := by
  have hr := h.rg
  have hr' := h'.rg
  have hc := h.c8
  obtain ⟨g3, g4, g5, g6⟩ := h.cf
  intro k
  induction k with
  | zero => intro t _ _ _ h; omega
  | succ k ih =>
    intro t t1 t2 t3 t4
    by_cases he : t = fr'
    · subst he
      exact ⟨fun _ => ⟨k + 1, by omega, by omega, rfl⟩, fun q => by omega⟩
    · rw [f_X12_together_L32, hib_t (by omega) (by omega) (by omega), if_pos rfl, if_pos rfl, iI_natc (by omega), g5, g6, iI_add]
      by_cases ht : fr + ln < t
      · rw [if_pos (by rw [iI_lt (by omega) (by omega) (by omega) (by omega)]; omega)]
        exact ⟨fun q => by omega, fun _ => rfl⟩
      · rw [if_neg (by rw [iI_lt (by omega) (by omega) (by omega) (by omega)]; omega), apartAt_out h h' (by omega) (by omega), hb1_some, if_pos rfl, iI_1]
        exact ih (t + 1) (by omega) (by omega) (by omega) (by omega)

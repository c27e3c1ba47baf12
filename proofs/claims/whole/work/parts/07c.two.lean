theorem areTwo_eq {M : HMem} {v w : Int32} {a b : Int32} (h1 : f_X12_hasLine v M = some a) (h2 : f_X12_hasLine w M = some b) : f_X12_areTwo v w M = some (if a = 0 then 0 else if b = 0 then 0 else if v = w then 0 else 1) := by
  rw [f_X12_areTwo, h1, h2, hb1_some, hb1_some]
  split
  · rfl
  split
  · rfl
  split <;> rfl
theorem op_together (v w x : Int32) {n : Nat} (hn : 200 ≤ n) {M : HMem} (hL : ILines M) : ∃ r, f_X11_together n v w x M = some r ∧ f_X12_together n v w x M = some r := by
  obtain ⟨far, f1, f2, rfl⟩ := iI_of x
  rcases lineV hL v with ⟨h1, h2⟩ | ⟨c, fr, ln, rfl, h, h1, h2⟩
  · have e : f_X12_together n v w (iI far) M = some (-1) := by
      obtain ⟨b, hb⟩ : ∃ b, f_X12_hasLine w M = some b := by
        rcases lineV hL w with ⟨-, k⟩ | ⟨_, _, _, -, -, -, k⟩ <;> exact ⟨_, k⟩
      rw [f_X12_together, areTwo_eq h2 hb, if_pos rfl, hb1_some, if_pos rfl]
    rcases lineV hL w with ⟨h3, -⟩ | ⟨_, _, _, -, -, h3, -⟩
    · exact ⟨-1, by rw [f_X11_together, h1, hb1_some]; simp only [h3, hb1_some], e⟩
    · exact ⟨-1, by rw [f_X11_together, h1, hb1_some]; simp only [h3, hb1_some], e⟩
  · rcases lineV hL w with ⟨h3, h4⟩ | ⟨d, fr', ln', rfl, h', h3, h4⟩
    · exact ⟨-1, by rw [f_X11_together, h1, hb1_some]; simp only [h3, hb1_some], by rw [f_X12_together, areTwo_eq h2 h4, if_neg i10, if_pos rfl, hb1_some, if_pos rfl]⟩
    · have hr := h.rg
      have hr' := h'.rg
      have hc := h.c8
      rw [f_X11_together, h1, hb1_some, f_X12_together, areTwo_eq h2 h4, if_neg i10, if_neg i10, hb1_some]
      simp only [h3, hb1_some]
      by_cases hcd : iI (c : Int) = iI (d : Int)
      · rw [if_pos hcd, if_pos hcd, if_pos rfl]
        exact ⟨_, rfl, rfl⟩
      · rw [if_neg hcd, if_neg hcd, if_neg i10, q26]
        by_cases hf : 0 ≤ far ∧ far ≤ 26
        · rw [isWithin_1 hf.1 hf.2 (by omega), if_neg i10, in01 hf.1 hf.2 (by omega), if_neg i10, hib_t (by omega) (by omega) (by omega), if_pos rfl, iI_natc (by omega), h.cf.2.2.2, f_X9_timesWithin, last_eq h, last_eq h', hmin_eq (by omega) (by omega) (by omega) (by omega), h.cf.1, h'.cf.1, hmax_eq (by omega) (by omega) (by omega) (by omega)]
          have fin : ∀ k2 : Nat, fr + ln - (max fr fr') + 1 < k2 → 0 < k2 → max fr fr' ≤ fr + ln + 1 → ∃ r, hb1 (f_X9_timesWithin_L29 n (50 + 3 * c) (50 + 3 * d) (iI far) (iI (min (fr + ln) (fr' + ln'))) M n 0 (iI (max fr fr'))) (fun x107 => some x107) = some r ∧ f_X12_together_L32 n (iI c) (iI d) (iI far) M k2 0 (iI (max fr fr')) = some r := by
            intro k2 k1 k0 km
            obtain ⟨r, a1, a2⟩ := tog_L (n := n) h h' hf.1 hf.2 n k2 (max fr fr') 0 (by omega) (by omega) (by omega) (by omega) (by omega) (by omega) k1 k0
            exact ⟨r, by rw [show (0 : Int32) = iI ((0 : Nat) : Int) from rfl, a1, hb1_some], a2⟩
          by_cases hff : fr' ≤ fr
          · have := fin n (by omega) (by omega) (by omega)
            rw [show max fr fr' = fr by omega] at this ⊢
            exact this
          · obtain ⟨g1, g2⟩ := tog_head (n := n) (far' := iI far) h h' 0 n fr (by omega) (by omega) (by omega) (by omega)
            by_cases hm : fr' ≤ fr + ln + 1
            · obtain ⟨k2, a1, a2, a3⟩ := g1 hm
              rw [a3]
              have := fin k2 (by omega) a2 (by omega)
              rw [show max fr fr' = fr' by omega] at this ⊢
              exact this
            · rw [g2 (by omega)]
              obtain ⟨n', rfl⟩ : ∃ n', n = n' + 1 := ⟨n - 1, by omega⟩
              refine ⟨0, ?_, rfl⟩
              rw [f_X9_timesWithin_L29, if_pos (by rw [iI_lt (by omega) (by omega) (by omega) (by omega)]; omega), hb1_some]
        · rw [isWithin_0 hf f1 f2 (by omega) (by omega), if_pos rfl, in00 hf f1 f2 (by omega) (by omega), if_pos rfl]
          exact ⟨_, rfl, rfl⟩
-- nearest
theorem near_L {M : HMem} {c d n : Nat} {fr ln fr' ln' : Int} (h : LN M c fr ln) (h' : LN M d fr' ln') : ∀ (k : Nat) (t m : Int), max fr fr' < t → t ≤ min (fr + ln) (fr' + ln') + 1 → min (fr + ln) (fr' + ln') - t + 1 < k → 0 ≤ m → m ≤ 26 → (∃ u, max fr fr' ≤ u ∧ u < t ∧ apt M c d fr fr' u = m) → (∀ u, max fr fr' ≤ u → u < t → m ≤ apt M c d fr fr' u) → ∃ m', f_X9_nearest_L29 n (50 + 3 * c) (50 + 3 * d) (iI (min (fr + ln) (fr' + ln'))) M k (iI m) (iI t) = some (iI m') ∧ 0 ≤ m' ∧ m' ≤ 26 ∧ (∃ u, max fr fr' ≤ u ∧ u ≤ min (fr + ln) (fr' + ln') ∧ apt M c d fr fr' u = m') ∧ (∀ u, max fr fr' ≤ u → u ≤ min (fr + ln) (fr' + ln') → m' ≤ apt M c d fr fr' u) := by
  have hr := h.rg
  have hr' := h'.rg
  intro k
  induction k with
  | zero => intro t m _ _ h; omega
  | succ k ih =>
    intro t m t1 t2 t3 m1 m2 e1 e2
    rw [f_X9_nearest_L29]
    by_cases ht : min (fr + ln) (fr' + ln') < t
    · rw [if_pos (by rw [iI_lt (by omega) (by omega) (by omega) (by omega)]; omega)]
      obtain ⟨u, u1, u2, u3⟩ := e1
      exact ⟨m, rfl, m1, m2, ⟨u, u1, by omega, u3⟩, fun u a b => e2 u a (by omega)⟩
    · have ha := apt_rg h h' (t := t) (by omega) (by omega)
      rw [if_neg (by rw [iI_lt (by omega) (by omega) (by omega) (by omega)]; omega), stepsApart_eq h h' (by omega) (by omega), hb1_some, if_neg (by rw [qm2, iI_eq (by omega) (by omega) (by omega) (by omega)]; omega), iI_1]
      by_cases hm : m ≤ apt M c d fr fr' t
      · rw [if_pos (by rw [iI_le (by omega) (by omega) (by omega) (by omega)]; omega)]
        obtain ⟨u, u1, u2, u3⟩ := e1
        refine ih (t + 1) m (by omega) (by omega) (by omega) m1 m2 ⟨u, u1, by omega, u3⟩ (fun u a b => ?_)
        by_cases e : u = t
        · rw [e]; exact hm
        · exact e2 u a (by omega)
      · rw [if_neg (by rw [iI_le (by omega) (by omega) (by omega) (by omega)]; omega)]
        refine ih (t + 1) _ (by omega) (by omega) (by omega) ha.1 ha.2 ⟨t, by omega, by omega, rfl⟩ (fun u a b => ?_)
        by_cases e : u = t
        · rw [e]; omega
        · have := e2 u a (by omega); omega
theorem nearest_eq {M : HMem} {c d n : Nat} {fr ln fr' ln' : Int} (h : LN M c fr ln) (h' : LN M d fr' ln') (hn : 200 ≤ n) : (min (fr + ln) (fr' + ln') < max fr fr' ∧ f_X9_nearest n (50 + 3 * c) (50 + 3 * d) M = some (-2)) ∨ ∃ m', f_X9_nearest n (50 + 3 * c) (50 + 3 * d) M = some (iI m') ∧ 0 ≤ m' ∧ m' ≤ 26 ∧ (∃ u, max fr fr' ≤ u ∧ u ≤ min (fr + ln) (fr' + ln') ∧ apt M c d fr fr' u = m') ∧ (∀ u, max fr fr' ≤ u → u ≤ min (fr + ln) (fr' + ln') → m' ≤ apt M c d fr fr' u) := by
  have hr := h.rg
  have hr' := h'.rg
  obtain ⟨n', rfl⟩ : ∃ n', n = n' + 1 := ⟨n - 1, by omega⟩
  rw [f_X9_nearest, last_eq h, last_eq h', hmin_eq (by omega) (by omega) (by omega) (by omega), h.cf.1, h'.cf.1, hmax_eq (by omega) (by omega) (by omega) (by omega), f_X9_nearest_L29]
  by_cases ht : min (fr + ln) (fr' + ln') < max fr fr'
  · rw [if_pos (by rw [iI_lt (by omega) (by omega) (by omega) (by omega)]; omega)]
    exact Or.inl ⟨ht, rfl⟩
  · have ha := apt_rg h h' (t := max fr fr') (by omega) (by omega)
    rw [if_neg (by rw [iI_lt (by omega) (by omega) (by omega) (by omega)]; omega), stepsApart_eq h h' (by omega) (by omega), hb1_some, if_pos rfl, iI_1]
    refine Or.inr (near_L h h' n' (max fr fr' + 1) _ (by omega) (by omega) (by omega) ha.1 ha.2 ⟨max fr fr', by omega, by omega, rfl⟩ (fun u a b => ?_))
    rw [show u = max fr fr' by omega]; omega
theorem firstW_L {M : HMem} {c d n : Nat} {fr ln fr' ln' far : Int} (h : LN M c fr ln) (h' : LN M d fr' ln') (f1 : -100 ≤ far) (f2 : far ≤ 100) : ∀ (k : Nat) (t : Int), 0 < k → max fr fr' ≤ t → t ≤ 20000 → min (fr + ln) (fr' + ln') - t + 1 < k → ∃ r, f_X9_firstWithin_L26 n (50 + 3 * c) (50 + 3 * d) (iI far) (iI (min (fr + ln) (fr' + ln'))) M k (iI t) = some r ∧ ((r = -2 ∧ ∀ u, t ≤ u → u ≤ min (fr + ln) (fr' + ln') → far < apt M c d fr fr' u) ∨ ∃ u, r = iI u ∧ t ≤ u ∧ u ≤ min (fr + ln) (fr' + ln') ∧ apt M c d fr fr' u ≤ far ∧ ∀ u', t ≤ u' → u' < u → far < apt M c d fr fr' u') := by
  have hr := h.rg
  have hr' := h'.rg
  intro k
  induction k with
  | zero => intro t h; omega
  | succ k ih =>
    intro t t0 t1 t2 t3
    rw [f_X9_firstWithin_L26]
    by_cases ht : min (fr + ln) (fr' + ln') < t
    · rw [if_pos (by rw [iI_lt (by omega) (by omega) (by omega) (by omega)]; omega)]
      exact ⟨-2, rfl, Or.inl ⟨rfl, fun u a b => by omega⟩⟩
    · have ha := apt_rg h h' (t := t) (by omega) (by omega)
      rw [if_neg (by rw [iI_lt (by omega) (by omega) (by omega) (by omega)]; omega), stepsApart_eq h h' (by omega) (by omega), hb1_some, iI_1]
      by_cases hm : far < apt M c d fr fr' t
      · rw [if_pos (by rw [iI_lt (by omega) (by omega) (by omega) (by omega)]; omega)]
        obtain ⟨r, a1, a2⟩ := ih (t + 1) (by omega) (by omega) (by omega) (by omega)
        refine ⟨r, a1, ?_⟩
        rcases a2 with ⟨a2, a3⟩ | ⟨u, a2, a3, a4, a5, a6⟩
        · refine Or.inl ⟨a2, fun u b1 b2 => ?_⟩
          by_cases e : u = t
          · rw [e]; exact hm
          · exact a3 u (by omega) b2
        · refine Or.inr ⟨u, a2, by omega, a4, a5, fun u' b1 b2 => ?_⟩
          by_cases e : u' = t
          · rw [e]; exact hm
          · exact a6 u' (by omega) b2
      · rw [if_neg (by rw [iI_lt (by omega) (by omega) (by omega) (by omega)]; omega)]
        exact ⟨iI t, rfl, Or.inr ⟨t, rfl, by omega, by omega, by omega, fun u' b1 b2 => by omega⟩⟩
theorem firstW_eq {M : HMem} {c d n : Nat} {fr ln fr' ln' far : Int} (h : LN M c fr ln) (h' : LN M d fr' ln') (hn : 200 ≤ n) (f1 : -100 ≤ far) (f2 : far ≤ 100) : ∃ r, f_X9_firstWithin n (50 + 3 * c) (50 + 3 * d) (iI far) M = some r ∧ ((r = -2 ∧ ∀ u, max fr fr' ≤ u → u ≤ min (fr + ln) (fr' + ln') → far < apt M c d fr fr' u) ∨ ∃ u, r = iI u ∧ max fr fr' ≤ u ∧ u ≤ min (fr + ln) (fr' + ln') ∧ apt M c d fr fr' u ≤ far ∧ ∀ u', max fr fr' ≤ u' → u' < u → far < apt M c d fr fr' u') := by
  have hr := h.rg
  have hr' := h'.rg
  rw [f_X9_firstWithin, last_eq h, last_eq h', hmin_eq (by omega) (by omega) (by omega) (by omega), h.cf.1, h'.cf.1, hmax_eq (by omega) (by omega) (by omega) (by omega)]
  exact firstW_L h h' f1 f2 n (max fr fr') (by omega) (by omega) (by omega) (by omega)
def twoEnd (v3 v4 v5 : Int32) : Int32 := if v3 = 1 then (if v4 = 0 then v5 else -2) else if v3 = 2 then v4 else v5
theorem twoR_L {M : HMem} {c d n : Nat} {fr ln fr' ln' : Int} (h : LN M c fr ln) (h' : LN M d fr' ln') (v3 : Int32) : ∀ (k : Nat) (t : Int) (a b : Int32), fr ≤ t → t ≤ fr + ln + 1 → fr + ln - t + 1 < k → ((a = -2 ∧ b = -2 ∧ ∀ u, max fr fr' ≤ u → u < t → ¬ u ≤ min (fr + ln) (fr' + ln')) ∨ ∃ m u, a = iI m ∧ b = iI u ∧ 0 ≤ m ∧ m ≤ 26 ∧ max fr fr' ≤ u ∧ u < t ∧ u ≤ min (fr + ln) (fr' + ln') ∧ apt M c d fr fr' u = m ∧ (∀ u', max fr fr' ≤ u' → u' < t → u' ≤ min (fr + ln) (fr' + ln') → m ≤ apt M c d fr fr' u') ∧ (∀ u', max fr fr' ≤ u' → u' < u → m < apt M c d fr fr' u')) → ∃ a' b', f_X12_two_L47 n (iI c) (iI d) v3 M k a b (iI t) = some (twoEnd v3 a' b') ∧ ((a' = -2 ∧ b' = -2 ∧ min (fr + ln) (fr' + ln') < max fr fr') ∨ ∃ m u, a' = iI m ∧ b' = iI u ∧ 0 ≤ m ∧ m ≤ 26 ∧ max fr fr' ≤ u ∧ u ≤ min (fr + ln) (fr' + ln') ∧ apt M c d fr fr' u = m ∧ (∀ u', max fr fr' ≤ u' → u' ≤ min (fr + ln) (fr' + ln') → m ≤ apt M c d fr fr' u') ∧ (∀ u', max fr fr' ≤ u' → u' < u → m < apt M c d fr fr' u')) := by
  have hr := h.rg
  have hr' := h'.rg
  have hc := h.c8
  obtain ⟨g3, g4, g5, g6⟩ := h.cf
  intro k
  induction k with
  | zero => intro t a b _ _ h; omega
  | succ k ih =>
    intro t a b t1 t2 t3 hab
    rw [f_X12_two_L47, hib_t (by omega) (by omega) (by omega), if_pos rfl, if_pos rfl, iI_natc (by omega), g5, g6, iI_add]
    by_cases ht : fr + ln < t
    · rw [if_pos (by rw [iI_lt (by omega) (by omega) (by omega) (by omega)]; omega)]
      refine ⟨a, b, by unfold twoEnd; split <;> split <;> rfl, ?_⟩
      rcases hab with ⟨a1, a2, a3⟩ | ⟨m, u, a1, a2, a3, a4, a5, a6, a7, a8, a9, a10⟩
      · refine Or.inl ⟨a1, a2, ?_⟩
        have := a3 (max fr fr')
        omega
      · exact Or.inr ⟨m, u, a1, a2, a3, a4, a5, a7, a8, fun u' b1 b2 => a9 u' b1 (by omega) b2, a10⟩
    · have e0 : ¬ iI (fr + ln) < iI t := by rw [iI_lt (by omega) (by omega) (by omega) (by omega)]; omega
      rw [if_neg e0]
      by_cases hin : fr' ≤ t ∧ t ≤ fr' + ln'
      · have ha := apt_rg h h' (t := t) (by omega) hin
        rw [apartAt_in h h' (by omega) hin, hb1_some, if_neg (iI_m1 ha.1 (by omega)), iI_1]
        rcases hab with ⟨a1, a2, a3⟩ | ⟨m, u, a1, a2, a3, a4, a5, a6, a7, a8, a9, a10⟩
        · subst a1 a2
          rw [if_pos rfl]
          refine ih (t + 1) _ _ (by omega) (by omega) (by omega) (Or.inr ⟨_, t, rfl, rfl, ha.1, ha.2, by omega, by omega, by omega, rfl, fun u' b1 b2 b3 => ?_, fun u' b1 b2 => ?_⟩)
          · by_cases e : u' = t
            · rw [e]; omega
            · exact absurd b3 (a3 u' b1 (by omega))
          · exact absurd (by omega) (a3 u' b1 b2)
        · subst a1 a2
          rw [if_neg (by rw [qm2, iI_eq (by omega) (by omega) (by omega) (by omega)]; omega)]
          by_cases hm : apt M c d fr fr' t < m
          · rw [if_pos (by rw [iI_lt (by omega) (by omega) (by omega) (by omega)]; omega)]
            refine ih (t + 1) _ _ (by omega) (by omega) (by omega) (Or.inr ⟨_, t, rfl, rfl, ha.1, ha.2, by omega, by omega, by omega, rfl, fun u' b1 b2 b3 => ?_, fun u' b1 b2 => ?_⟩)
            · by_cases e : u' = t
              · rw [e]; omega
              · have := a9 u' b1 (by omega) b3; omega
            · have := a9 u' b1 (by omega) (by omega); omega
          · rw [if_neg (by rw [iI_lt (by omega) (by omega) (by omega) (by omega)]; omega)]
            refine ih (t + 1) _ _ (by omega) (by omega) (by omega) (Or.inr ⟨m, u, rfl, rfl, a3, a4, a5, by omega, a7, a8, fun u' b1 b2 b3 => ?_, a10⟩)
            by_cases e : u' = t
            · rw [e]; omega
            · exact a9 u' b1 (by omega) b3
      · rw [apartAt_out h h' (by omega) hin, hb1_some, if_pos rfl, iI_1]
        refine ih (t + 1) a b (by omega) (by omega) (by omega) ?_
        rcases hab with ⟨a1, a2, a3⟩ | ⟨m, u, a1, a2, a3, a4, a5, a6, a7, a8, a9, a10⟩
        · refine Or.inl ⟨a1, a2, fun u b1 b2 => ?_⟩
          by_cases e : u = t
          · rw [e]; omega
          · exact a3 u b1 (by omega)
        · refine Or.inr ⟨m, u, a1, a2, a3, a4, a5, by omega, a7, a8, fun u' b1 b2 b3 => ?_, a10⟩
          exact a9 u' b1 (by omega) b3
theorem op_two (v w x : Int32) {n : Nat} (hn : 200 ≤ n) {M : HMem} (hL : ILines M) : ∃ r M1, f_X11_two n v w x M = some (r, M1) ∧ f_X12_two n v w x M1 = some r ∧ (M1 = M ∨ ∃ g, M1 = hput M 33 g) := by
  obtain ⟨y, y1, y2, rfl⟩ := iI_of x
  rcases lineV hL v with ⟨h1, h2⟩ | ⟨c, fr, ln, rfl, h, h1, h2⟩
  · have e : f_X12_two n v w (iI y) M = some (-1) := by
      obtain ⟨b, hb⟩ : ∃ b, f_X12_hasLine w M = some b := by
        rcases lineV hL w with ⟨-, k⟩ | ⟨_, _, _, -, -, -, k⟩ <;> exact ⟨_, k⟩
      rw [f_X12_two, areTwo_eq h2 hb, if_pos rfl, hb1_some, if_pos rfl]
    rcases lineV hL w with ⟨h3, -⟩ | ⟨_, _, _, -, -, h3, -⟩
    · exact ⟨-1, M, by rw [f_X11_two, h1, hb1_some]; simp only [h3, hb1_some], e, Or.inl rfl⟩
    · exact ⟨-1, M, by rw [f_X11_two, h1, hb1_some]; simp only [h3, hb1_some], e, Or.inl rfl⟩
  · rcases lineV hL w with ⟨h3, h4⟩ | ⟨d, fr', ln', rfl, h', h3, h4⟩
    · exact ⟨-1, M, by rw [f_X11_two, h1, hb1_some]; simp only [h3, hb1_some], by rw [f_X12_two, areTwo_eq h2 h4, if_neg i10, if_pos rfl, hb1_some, if_pos rfl], Or.inl rfl⟩
    · have hr := h.rg
      have hr' := h'.rg
      have hc := h.c8
      have hcc : f_X11_two n (iI c) (iI d) (iI y) M = if iI (c : Int) = iI (d : Int) then some (-1, M) else (if iI y = 0 then hb2 (f_X9_crossings n (50 + 3 * c) (50 + 3 * d) M) (fun a b => some (a, b)) else if iI y = 1 then hb1 (f_X9_firstWithin n (50 + 3 * c) (50 + 3 * d) 0 M) (fun a => some (a, M)) else if iI y = 2 then hb1 (f_X9_nearest n (50 + 3 * c) (50 + 3 * d) M) (fun a => some (a, M)) else if iI y = 3 then hb1 (f_X9_nearest n (50 + 3 * c) (50 + 3 * d) M) (fun a => hb1 (f_X9_firstWithin n (50 + 3 * c) (50 + 3 * d) a M) (fun b => some (b, M))) else some (-1, M)) := by
        rw [f_X11_two, h1, hb1_some]; simp only [h3, hb1_some]
      rw [hcc]
      by_cases hcd : iI (c : Int) = iI (d : Int)
      · rw [if_pos hcd]
        exact ⟨-1, M, rfl, by rw [f_X12_two, areTwo_eq h2 h4, if_neg i10, if_neg i10, if_pos hcd, hb1_some, if_pos rfl], Or.inl rfl⟩
      · rw [if_neg hcd]
        by_cases hy : 0 ≤ y ∧ y ≤ 3
        · by_cases h0 : y = 0
          · subst h0
            obtain ⟨g, hg⟩ := crossings_eq h h' hn
            have hm := h.put g (k0 := 33) (fun j => by rw [grp33]; decide)
            have hm' := h'.put g (k0 := 33) (fun j => by rw [grp33]; decide)
            have k2 := hasLine_1 hm.c8 hm.cf.2.2.1 hr.1 hr.2.1
            have k4 := hasLine_1 hm'.c8 hm'.cf.2.2.1 hr'.1 hr'.2.1
            rw [if_pos q0.symm, hg, hb2_some]
            refine ⟨_, _, rfl, ?_, Or.inr ⟨g, rfl⟩⟩
            rw [f_X12_two, areTwo_eq k2 k4, if_neg i10, if_neg i10, if_neg hcd, hb1_some, if_neg i10, show (3 : Int32) = iI 3 from rfl, in01 (by omega) (by omega) (by omega), if_neg i10, if_pos q0.symm, crossedBy_eq hm hm' hn, hb1_some]
            have e1 : pl (hput M 33 g) c = pl M c := funext fun k => pl_put _ hm.c8 (fun j => by rw [grp33]; decide) k
            have e2 : pl (hput M 33 g) d = pl M d := funext fun k => pl_put _ hm'.c8 (fun j => by rw [grp33]; decide) k
            rw [e1, e2]
          · have hi0 : ¬ iI y = 0 := by rw [q0, iI_eq (by omega) (by omega) (by omega) (by omega)]; exact h0
            have hR : f_X12_two n (iI c) (iI d) (iI y) M = f_X12_two_L47 n (iI c) (iI d) (iI y) M n (-2) (-2) (iI fr) := by
              rw [f_X12_two, areTwo_eq h2 h4, if_neg i10, if_neg i10, if_neg hcd, hb1_some, if_neg i10, show (3 : Int32) = iI 3 from rfl, in01 (by omega) (by omega) (by omega), if_neg i10, if_neg hi0, hib_t (by omega) (by omega) (by omega), if_pos rfl, iI_natc (by omega), h.cf.2.2.2]
            obtain ⟨a', b', e1, e2⟩ := twoR_L (n := n) h h' (iI y) n fr (-2) (-2) (by omega) (by omega) (by omega) (Or.inl ⟨rfl, rfl, fun u a b => by omega⟩)
            have hne2 : ∀ m u, a' = iI m → b' = iI u → 0 ≤ m → m ≤ 26 → max fr fr' ≤ u → u ≤ min (fr + ln) (fr' + ln') → ¬ min (fr + ln) (fr' + ln') < max fr fr' := fun _ _ _ _ _ _ _ _ => by omega
            rw [if_neg hi0]
            rcases (show y = 1 ∨ y = 2 ∨ y = 3 by omega) with rfl | rfl | rfl
            · rw [if_pos q1.symm]
              obtain ⟨r, k1, k2⟩ := firstW_eq (far := 0) h h' hn (by omega) (by omega)
              refine ⟨r, M, by rw [q0, k1, hb1_some], ?_, Or.inl rfl⟩
              rw [hR, e1, twoEnd, if_pos q1.symm]
              rcases e2 with ⟨a1, a2, a3⟩ | ⟨m, u, a1, a2, a3, a4, a5, a7, a8, a9, a10⟩
              · rw [a1, if_neg (by decide)]
                rcases k2 with ⟨k2, -⟩ | ⟨u, _, k3, k4, _⟩
                · rw [k2]
                · omega
              · by_cases hm : m = 0
                · rw [if_pos (by rw [a1, hm]; rfl), a2]
                  rcases k2 with ⟨k2, k3⟩ | ⟨u', k2, k3, k4, k5, k6⟩
                  · have := k3 u a5 a7; omega
                  · rw [k2]
                    congr 2
                    rcases Int.lt_trichotomy u u' with q | q | q
                    · have := k6 u a5 q; omega
                    · exact q
                    · have := a10 u' k3 q; omega
                · rw [if_neg (by rw [a1, q0, iI_eq (by omega) (by omega) (by omega) (by omega)]; exact hm)]
                  rcases k2 with ⟨k2, k3⟩ | ⟨u', k2, k3, k4, k5, k6⟩
                  · rw [k2]
                  · have := a9 u' k3 k4; omega
            · rw [if_neg (by decide), if_pos q2.symm]
              rcases nearest_eq h h' hn with ⟨k1, k2⟩ | ⟨m', k1, k2, k3, ⟨u', k4, k5, k6⟩, k7⟩
              · refine ⟨-2, M, by rw [k2, hb1_some], ?_, Or.inl rfl⟩
                rw [hR, e1, twoEnd, if_neg (by decide), if_pos q2.symm]
                rcases e2 with ⟨a1, a2, a3⟩ | ⟨m, u, a1, a2, a3, a4, a5, a7, a8, a9, a10⟩
                · rw [a1]
                · omega
              · refine ⟨iI m', M, by rw [k1, hb1_some], ?_, Or.inl rfl⟩
                rw [hR, e1, twoEnd, if_neg (by decide), if_pos q2.symm]
                rcases e2 with ⟨a1, a2, a3⟩ | ⟨m, u, a1, a2, a3, a4, a5, a7, a8, a9, a10⟩
                · omega
                · have b1 := a9 u' k4 k5
                  have b2 := k7 u a5 a7
                  rw [a1, show m = m' by omega]
            · rw [if_neg (by decide), if_neg (by decide), if_pos (by decide)]
              rcases nearest_eq h h' hn with ⟨k1, k2⟩ | ⟨m', k1, k2, k3, ⟨u', k4, k5, k6⟩, k7⟩
              · obtain ⟨r, l1, l2⟩ := firstW_eq (far := -2) h h' hn (by omega) (by omega)
                refine ⟨r, M, by rw [k2, hb1_some, qm2, l1, hb1_some], ?_, Or.inl rfl⟩
                rw [hR, e1, twoEnd, if_neg (by decide), if_neg (by decide)]
                rcases e2 with ⟨a1, a2, a3⟩ | ⟨m, u, a1, a2, a3, a4, a5, a7, a8, a9, a10⟩
                · rcases l2 with ⟨l2, -⟩ | ⟨u, _, l3, l4, _⟩
                  · rw [a2, l2]
                  · omega
                · omega
              · obtain ⟨r, l1, l2⟩ := firstW_eq (far := m') h h' hn (by omega) (by omega)
                refine ⟨r, M, by rw [k1, hb1_some, l1, hb1_some], ?_, Or.inl rfl⟩
                rw [hR, e1, twoEnd, if_neg (by decide), if_neg (by decide)]
                rcases e2 with ⟨a1, a2, a3⟩ | ⟨m, u, a1, a2, a3, a4, a5, a7, a8, a9, a10⟩
                · omega
                · have b1 := a9 u' k4 k5
                  have b2 := k7 u a5 a7
                  rcases l2 with ⟨l2, l3⟩ | ⟨z, l2, l3, l4, l5, l6⟩
                  · have := l3 u a5 a7; omega
                  · rw [a2, l2]
                    congr 2
                    rcases Int.lt_trichotomy u z with q | q | q
                    · have := l6 u a5 q; omega
                    · exact q
                    · have := a10 z l3 q; omega
        · refine ⟨-1, M, ?_, ?_, Or.inl rfl⟩
          · simp (disch := omega) only [q0, q1, q2, show (3 : Int32) = iI 3 from rfl, iI_eq]
            rw [if_neg (by omega), if_neg (by omega), if_neg (by omega), if_neg (by omega)]
          · rw [f_X12_two, areTwo_eq h2 h4, if_neg i10, if_neg i10, if_neg hcd, hb1_some, if_neg i10, show (3 : Int32) = iI 3 from rfl, in00 hy y1 y2 (by omega) (by omega), if_pos rfl]

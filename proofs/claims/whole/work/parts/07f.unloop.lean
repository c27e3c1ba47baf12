/-! unlooped -/
def fnA (r : Nat → Nat) (p : Nat) : Nat → Nat → Nat
  | 0, i => i
  | q + 1, i => if r i = p then i else fnA r p q (i + 1)
def fnd (r : Nat → Nat) (m p : Nat) : Nat := fnA r p m 0
theorem fnA_spec (r : Nat → Nat) (p : Nat) : ∀ (q i : Nat), i ≤ fnA r p q i ∧ fnA r p q i ≤ i + q ∧ (∀ j, i ≤ j → j < fnA r p q i → r j ≠ p) ∧ (fnA r p q i < i + q → r (fnA r p q i) = p)
  | 0, i => ⟨Nat.le_refl _, Nat.le_refl _, fun j a b => by simp only [fnA] at b; omega, fun h => by simp only [fnA] at h; omega⟩
  | q + 1, i => by
    obtain ⟨h1, h2, h3, h4⟩ := fnA_spec r p q (i + 1)
    simp only [fnA]
    by_cases e : r i = p
    · rw [if_pos e]
      exact ⟨Nat.le_refl _, by omega, fun j a b => by omega, fun _ => e⟩
    · rw [if_neg e]
      refine ⟨by omega, by omega, fun j a b => ?_, fun h => h4 (by omega)⟩
      by_cases z : j = i
      · rw [z]; exact e
      · exact h3 j (by omega) b
theorem fnd_spec (r : Nat → Nat) (m p : Nat) : fnd r m p ≤ m ∧ (∀ j, j < fnd r m p → r j ≠ p) ∧ (fnd r m p < m → r (fnd r m p) = p) := by
  obtain ⟨h1, h2, h3, h4⟩ := fnA_spec r p m 0
  exact ⟨by unfold fnd; omega, fun j a => h3 j (by omega) a, fun h => h4 (by unfold fnd at h; omega)⟩
def un (f : Nat → Nat) : Nat → Nat × (Nat → Nat)
  | 0 => (0, fun _ => 0)
  | i + 1 => (fnd (un f i).2 (un f i).1 (f i) + 1, fun j => if j = fnd (un f i).2 (un f i).1 (f i) then f i else (un f i).2 j)
theorem un_le (f : Nat → Nat) : ∀ i, (un f i).1 ≤ i
  | 0 => Nat.le_refl _
  | i + 1 => by
    have h := un_le f i
    have h2 := (fnd_spec (un f i).2 (un f i).1 (f i)).1
    show fnd (un f i).2 (un f i).1 (f i) + 1 ≤ i + 1
    omega
theorem un_in (f : Nat → Nat) (N : Nat) (hf : ∀ k, k < N → f k < 192) : ∀ i, i ≤ N → (∀ j, j < (un f i).1 → (un f i).2 j < 192) ∧ (∀ j l, j < l → l < (un f i).1 → (un f i).2 j ≠ (un f i).2 l)
  | 0, _ => ⟨fun j h => absurd h (Nat.not_lt_zero _), fun j l _ h => absurd h (Nat.not_lt_zero _)⟩
  | i + 1, hi => by
    obtain ⟨h1, h2⟩ := un_in f N hf i (by omega)
    obtain ⟨a1, a2, a3⟩ := fnd_spec (un f i).2 (un f i).1 (f i)
    simp only [un]
    refine ⟨fun j hj => ?_, fun j l hjl hl => ?_⟩
    · by_cases e : j = fnd (un f i).2 (un f i).1 (f i)
      · rw [if_pos e]; exact hf i (by omega)
      · rw [if_neg e]; exact h1 j (by omega)
    · have e1 : j ≠ fnd (un f i).2 (un f i).1 (f i) := by omega
      rw [if_neg e1]
      by_cases e : l = fnd (un f i).2 (un f i).1 (f i)
      · rw [if_pos e]; exact a2 j (by omega)
      · rw [if_neg e]; exact h2 j l hjl (by omega)
theorem grp104 (j : Nat) : grp 104 j = 0 := rfl
theorem un_s1 (f : Nat → Nat) (i : Nat) : (un f (i + 1)).1 = fnd (un f i).2 (un f i).1 (f i) + 1 := rfl
theorem un_s2 (f : Nat → Nat) (i j : Nat) : (un f (i + 1)).2 j = if j = fnd (un f i).2 (un f i).1 (f i) then f i else (un f i).2 j := rfl
-- the reference
theorem unR_in {M : HMem} {c n : Nat} {fr ln : Int} (h : LN M c fr ln) {g : Nat → Int32} {r : Nat → Nat} {m i : Nat} (hi : (i : Int) ≤ ln) (hm : m ≤ i) (hr : ∀ j, j < m → r j < 192 ∧ g j = iI (r j : Nat)) (rec : Int32 → Int32 → HMem → Option (Int32 × HMem)) (v2 : Int32) : ∀ (k q a : Nat), a + q = m → q < k → f_X12_unlooped_L45 n rec (iI c) v2 (iI m) (iI i) (hput M 104 g) k (iI a) = rec (iI ((fnA r (pl M c i) q a + 1 : Nat) : Int)) (iI ((i + 1 : Nat) : Int)) (hput M 104 (upd g (fnA r (pl M c i) q a) (iI (pl M c i : Nat)))) := by
  have hrg := h.rg
  have hc := h.c8
  have hm2 := h.put g (k0 := 104) (fun j => by rw [grp104]; decide)
  have ep : pl (hput M 104 g) c i = pl M c i := pl_put _ hc (fun j => by rw [grp104]; decide) i
  have hq := h.pb (k := i) hi
  have e81 : hput M 104 g 81 (97 * c + i) = iI (pl M c i : Nat) := by rw [hput_ne _ _ (by decide)]; exact (h.p1 hi).2
  have hJ : ∀ a : Nat, a ≤ m → f_X12_unlooped_J82 n rec (iI c) v2 (iI i) (iI a) (hput M 104 g) = rec (iI ((a + 1 : Nat) : Int)) (iI ((i + 1 : Nat) : Int)) (hput M 104 (upd g a (iI (pl M c i : Nat)))) := by
    intro a ha
    rw [f_X12_unlooped_J82, q97, iI_mul, iI_add, hib_t (by omega) (by omega) (by omega), if_pos rfl, hib_t (by omega) (by omega) (by omega), if_pos rfl, iI_natc (k := a) (by omega), iI_nat (by omega) (by omega), show (97 * (c : Int) + (i : Int)).toNat = 97 * c + i by omega, e81, hset_put, iI_s, iI_s]
  intro k
  induction k with
  | zero => intro q a _ h; omega
  | succ k ih =>
    intro q a haq hk
    rw [f_X12_unlooped_L45]
    cases q with
    | zero =>
      rw [if_pos (by rw [iI_le (by omega) (by omega) (by omega) (by omega)]; omega), hJ a (by omega)]
      rfl
    | succ q =>
      rw [if_neg (by rw [iI_le (by omega) (by omega) (by omega) (by omega)]; omega), hib_t (by omega) (by omega) (by omega), if_pos rfl, q97, iI_mul, iI_add, hib_t (by omega) (by omega) (by omega), if_pos rfl, iI_natc (k := a) (by omega), iI_nat (by omega) (by omega), show (97 * (c : Int) + (i : Int)).toNat = 97 * c + i by omega, e81, hput_self]
      obtain ⟨r1, r2⟩ := hr a (by omega)
      rw [r2, fnA]
      by_cases e : r a = pl M c i
      · rw [if_pos (by rw [e]), hJ a (by omega), if_pos e]
      · rw [if_neg (by rw [iI_eq (by omega) (by omega) (by omega) (by omega)]; omega), if_neg e, iI_s]
        exact ih q (a + 1) (by omega) (by omega)
def unA (f : Nat → Nat) (N : Nat) (v : Int32) : Int32 := if v = 100 then iI ((un f N).1 : Nat) else if iI ((un f N).1 : Nat) ≤ v then -4 else iI ((un f N).2 v.toNatClampNeg : Nat)
theorem unR_L {M : HMem} {c n : Nat} {fr ln : Int} (h : LN M c fr ln) (hn : 200 ≤ n) {y : Int} (hy : (0 ≤ y ∧ y ≤ 96) ∨ y = 100) : ∀ (k i : Nat) (g : Nat → Int32), (i : Int) ≤ ln + 1 → ln + 1 - i < k → (∀ j, j < (un (pl M c) i).1 → g j = iI ((un (pl M c) i).2 j : Nat)) → ∃ g', f_X12_unlooped_L31 n (iI c) (iI y) k (iI ((un (pl M c) i).1 : Nat)) (iI i) (hput M 104 g) = some (unA (pl M c) (nP ln) (iI y), hput M 104 g') := by
  have hrg := h.rg
  have hc := h.c8
  have hN := nP_i hrg.1 hrg.2.1
  intro k
  induction k with
  | zero => intro i g _ h; omega
  | succ k ih =>
    intro i g i1 i2 hg
    have hm2 := h.put g (k0 := 104) (fun j => by rw [grp104]; decide)
    have hle := un_le (pl M c) i
    obtain ⟨u1, u2⟩ := un_in (pl M c) (nP ln) (fun k hk => h.pb (by omega)) i (by omega)
    rw [f_X12_unlooped_L31, hib_t (z := (c : Int)) (by omega) (by omega) (by omega), if_pos rfl, iI_natc (k := c) (by omega), hm2.cf.2.2.1]
    by_cases hi : ln < i
    · rw [if_pos (by rw [iI_lt (by omega) (by omega) (by omega) (by omega)]; exact hi), unA, show nP ln = i by unfold nP; omega]
      refine ⟨g, ?_⟩
      by_cases y0 : iI y = 100
      · rw [if_pos y0, if_pos y0]
      · rw [if_neg y0, if_neg y0]
        by_cases y1 : iI ((un (pl M c) i).1 : Nat) ≤ iI y
        · rw [if_pos y1, if_pos y1]
        · rw [if_neg y1, if_neg y1]
          have hy2 : 0 ≤ y ∧ y ≤ 96 := by
            rcases hy with q | q
            · exact q
            · rw [q] at y0; exact absurd rfl y0
          rw [iI_le (by omega) (by omega) (by omega) (by omega)] at y1
          rw [hib_t (by omega) (by omega) (by omega), if_pos rfl, iI_nat (by omega) (by omega), hput_self, hg y.toNat (by omega)]
    · have e0 : ¬ iI ln < iI (i : Int) := by rw [iI_lt (by omega) (by omega) (by omega) (by omega)]; exact hi
      rw [if_neg e0]
      have e := unR_in (n := n) h (g := g) (r := (un (pl M c) i).2) (m := (un (pl M c) i).1) (i := i) (by omega) hle (fun j hj => ⟨u1 j hj, hg j hj⟩) (f_X12_unlooped_L31 n (iI c) (iI y) k) (iI y) n (un (pl M c) i).1 0 (by omega) (by omega)
      rw [show iI ((0 : Nat) : Int) = 0 from rfl, show fnA (un (pl M c) i).2 (pl M c i) (un (pl M c) i).1 0 = fnd (un (pl M c) i).2 (un (pl M c) i).1 (pl M c i) from rfl] at e
      rw [e, ← un_s1]
      have hfs := (fnd_spec (un (pl M c) i).2 (un (pl M c) i).1 (pl M c i)).1
      exact ih (i + 1) (upd g (fnd (un (pl M c) i).2 (un (pl M c) i).1 (pl M c i)) (iI (pl M c i : Nat))) (by omega) (by omega) (fun j hj => by
        rw [un_s1] at hj
        rw [un_s2]
        simp only [upd]
        by_cases z : j = fnd (un (pl M c) i).2 (un (pl M c) i).1 (pl M c i)
        · rw [if_pos z, if_pos z]
        · rw [if_neg z, if_neg z]
          exact hg j (by omega))
-- the class
theorem rowAt_in {M : HMem} {j : Nat} (hj : j < 192) : f_X9_rowAt (iI j) M = some (M 34 j) := by
  rw [f_X9_rowAt, if_neg (by rw [q0, iI_lt (by omega) (by omega) (by omega) (by omega)]; omega), if_neg (by rw [q192, iI_le (by omega) (by omega) (by omega) (by omega)]; omega), hib_t (by omega) (by omega) (by omega), if_pos rfl, iI_natc (by omega)]
/-- marks over a row r of m places -/
def mkd (g : Nat → Int32) (r : Nat → Nat) (m : Nat) : Prop := ∀ p, p < 192 → (∃ j, j < m ∧ r j = p ∧ g p = iI ((j + 1 : Nat) : Int)) ∨ ((∀ j, j < m → r j ≠ p) ∧ g p = 0)
theorem unC_clear {M : HMem} {n kp : Nat} {r : Nat → Nat} {h : Nat → Int32} (hk0 : 0 < kp) (rec : Int32 → Int32 → HMem → Option (Int32 × HMem)) (o1 : Nat) (v2 v3 v4 : Int32) : ∀ (k m : Nat) (g : Nat → Int32), kp ≤ m → m ≤ 190 → m < k → (∀ j, j < m → r j < 192 ∧ h j = iI (r j : Nat)) → (∀ j l, j < l → l < m → r j ≠ r l) → mkd g r m → ∃ g', mkd g' r kp ∧ f_X9_unloop_L43 n rec o1 v2 v3 v4 (iI kp) k (iI ((m : Int) - 1)) (hput (hput M 34 h) 33 g) = rec (iI kp) (v3 + 1) (hput (hput M 34 h) 33 g') := by
  intro k
  induction k with
  | zero => intro m g _ _ h; omega
  | succ k ih =>
    intro m g m1 m2 m3 hr hinj hg
    rw [f_X9_unloop_L43]
    by_cases e : m = kp
    · subst e
      rw [if_pos (by rw [iI_lt (by omega) (by omega) (by omega) (by omega)]; omega), f_X9_unloop_J72, if_neg (by rw [q0, iI_le (by omega) (by omega) (by omega) (by omega)]; omega)]
      exact ⟨g, hg, rfl⟩
    · obtain ⟨m', rfl⟩ : ∃ m', m = m' + 1 := ⟨m - 1, by omega⟩
      obtain ⟨r1, r2⟩ := hr m' (by omega)
      rw [if_neg (by rw [iI_lt (by omega) (by omega) (by omega) (by omega)]; omega), if_neg (by rw [q0, iI_le (by omega) (by omega) (by omega) (by omega)]; omega), show ((m' + 1 : Nat) : Int) - 1 = (m' : Int) by omega, rowAt_in (by omega), hb1_some, hput_ne _ _ (by decide), hput_self, r2, markPlace_in r1, hb1_some, hset_put, qm1, iI_add, show (m' : Int) + -1 = (m' : Int) - 1 by omega]
      refine ih m' (upd g (r m') 0) (by omega) (by omega) (by omega) (fun j hj => hr j (by omega)) (fun j l a b => hinj j l a (by omega)) (fun p hp => ?_)
      simp only [upd]
      by_cases z : p = r m'
      · rw [if_pos z]
        exact Or.inr ⟨fun j hj => by rw [z]; exact hinj j m' (by omega) (by omega), rfl⟩
      · rw [if_neg z]
        rcases hg p hp with ⟨j, j1, j2, j3⟩ | ⟨j1, j2⟩
        · refine Or.inl ⟨j, ?_, j2, j3⟩
          by_cases w : j = m'
          · rw [w] at j2; exact absurd j2.symm z
          · omega
        · exact Or.inr ⟨fun j hj => j1 j (by omega), j2⟩
theorem unC_L {M : HMem} {c n : Nat} {fr ln : Int} (h : LN M c fr ln) (hn : 200 ≤ n) : ∀ (k i : Nat) (g w : Nat → Int32), (i : Int) ≤ ln + 1 → ln + 1 - i < k → (∀ j, j < (un (pl M c) i).1 → w j = iI ((un (pl M c) i).2 j : Nat)) → mkd g (un (pl M c) i).2 (un (pl M c) i).1 → ∃ g' w', f_X9_unloop_L15 n (50 + 3 * c) k (iI ((un (pl M c) i).1 : Nat)) (iI (fr + i)) (hput (hput M 34 w) 33 g) = some (iI ((un (pl M c) (nP ln)).1 : Nat), hput (hput M 34 w') 33 g') ∧ ∀ j, j < (un (pl M c) (nP ln)).1 → w' j = iI ((un (pl M c) (nP ln)).2 j : Nat) := by
  have hrg := h.rg
  have hc := h.c8
  have hN := nP_i hrg.1 hrg.2.1
  intro k
  induction k with
  | zero => intro i g w _ h; omega
  | succ k ih =>
    intro i g w i1 i2 hw hg
    have hm := (h.put w (k0 := 34) (fun j => by rw [grp34]; decide)).put g (k0 := 33) (fun j => by rw [grp33]; decide)
    have hle := un_le (pl M c) i
    obtain ⟨u1, u2⟩ := un_in (pl M c) (nP ln) (fun k hk => h.pb (by omega)) i (by omega)
    rw [f_X9_unloop_L15, last_eq hm]
    by_cases hi : ln < i
    · rw [if_pos (by rw [iI_lt (by omega) (by omega) (by omega) (by omega)]; omega), show nP ln = i by unfold nP; omega]
      exact ⟨g, w, rfl, hw⟩
    · have hq := h.pb (k := i) (by omega)
      obtain ⟨a1, a2, a3⟩ := fnd_spec (un (pl M c) i).2 (un (pl M c) i).1 (pl M c i)
      rw [if_neg (by rw [iI_lt (by omega) (by omega) (by omega) (by omega)]; omega), placeAt_in hm (by omega), hb1_some, pl_put _ hc (fun j => by rw [grp33]; decide), pl_put _ hc (fun j => by rw [grp34]; decide), markAt_in hq, hb1_some, hput_self]
      rcases hg _ hq with ⟨j, j1, j2, j3⟩ | ⟨j1, j2⟩
      · have hf : fnd (un (pl M c) i).2 (un (pl M c) i).1 (pl M c i) = j := by
          rcases Nat.lt_trichotomy (fnd (un (pl M c) i).2 (un (pl M c) i).1 (pl M c i)) j with q | q | q
          · exact absurd ((a3 (by omega)).trans j2.symm) (u2 _ _ q j1)
          · exact q
          · exact absurd j2 (a2 j q)
        rw [j3, q1, iI_sub]
        obtain ⟨g', b1, b2⟩ := unC_clear (M := M) (n := n) (kp := j + 1) (r := (un (pl M c) i).2) (h := w) (by omega) (f_X9_unloop_L15 n (50 + 3 * c) k) (50 + 3 * c) (iI ((un (pl M c) i).1 : Nat)) (iI (fr + i)) (iI (pl M c i : Nat)) n (un (pl M c) i).1 g (by omega) (by omega) (by omega) (fun l hl => ⟨u1 l hl, hw l hl⟩) u2 hg
        rw [b2, iI_t]
        have hun : un (pl M c) (i + 1) = (j + 1, (un (pl M c) i).2) := by
          simp only [un, hf]
          refine Prod.ext rfl (funext fun l => ?_)
          dsimp only
          by_cases z : l = j
          · rw [if_pos z, z, j2]
          · rw [if_neg z]
        have := ih (i + 1) g' w (by omega) (by omega) (by rw [hun]; exact fun l hl => hw l (by dsimp only at hl; omega)) (by rw [hun]; exact b1)
        rw [hun] at this
        exact this
      · have hf : fnd (un (pl M c) i).2 (un (pl M c) i).1 (pl M c i) = (un (pl M c) i).1 := by
          rcases Nat.lt_or_ge (fnd (un (pl M c) i).2 (un (pl M c) i).1 (pl M c i)) (un (pl M c) i).1 with q | q
          · exact absurd (a3 q) (j1 _ q)
          · omega
        have hJ : f_X9_unloop_L43 n (f_X9_unloop_L15 n (50 + 3 * c) k) (50 + 3 * c) (iI ((un (pl M c) i).1 : Nat)) (iI (fr + i)) (iI (pl M c i : Nat)) (g (pl M c i)) n (iI ((un (pl M c) i).1 : Nat) - 1) (hput (hput M 34 w) 33 g) = f_X9_unloop_J72 n (f_X9_unloop_L15 n (50 + 3 * c) k) (50 + 3 * c) (iI ((un (pl M c) i).1 : Nat)) (iI (fr + i)) (iI (pl M c i : Nat)) (g (pl M c i)) (hput (hput M 34 w) 33 g) := by
          obtain ⟨n', rfl⟩ : ∃ n', n = n' + 1 := ⟨n - 1, by omega⟩
          rw [f_X9_unloop_L43, j2, if_pos (show (0 : Int32) ≤ 0 by decide), ite_self]
        rw [hJ, f_X9_unloop_J72, j2, if_pos (by decide), if_neg (by rw [q192, iI_le (by omega) (by omega) (by omega) (by omega)]; omega), hib_t (by omega) (by omega) (by omega), if_pos rfl, iI_natc (by omega), hset_put_ne _ _ _ _ (by decide), hset_put, markPlace_in hq, hb1_some, hset_put, iI_t, iI_s]
        have hun : un (pl M c) (i + 1) = ((un (pl M c) i).1 + 1, fun l => if l = (un (pl M c) i).1 then pl M c i else (un (pl M c) i).2 l) := by
          simp only [un, hf]
        have := ih (i + 1) (upd g (pl M c i) (iI (((un (pl M c) i).1 + 1 : Nat) : Int))) (upd w (un (pl M c) i).1 (iI (pl M c i : Nat))) (by omega) (by omega) (by
          rw [hun]
          intro l hl
          dsimp only at hl ⊢
          simp only [upd]
          by_cases z : l = (un (pl M c) i).1
          · rw [if_pos z, if_pos z]
          · rw [if_neg z, if_neg z]; exact hw l (by omega)) (by
          rw [hun]
          intro p hp
          dsimp only
          simp only [upd]
          by_cases z : p = pl M c i
          · rw [if_pos z]
            exact Or.inl ⟨(un (pl M c) i).1, by omega, by rw [if_pos rfl, z], rfl⟩
          · rw [if_neg z]
            rcases hg p hp with ⟨j, k1, k2, k3⟩ | ⟨k1, k2⟩
            · exact Or.inl ⟨j, by omega, by rw [if_neg (by omega)]; exact k2, k3⟩
            · refine Or.inr ⟨fun j hj => ?_, k2⟩
              by_cases y : j = (un (pl M c) i).1
              · rw [if_pos y]; exact fun q => z q.symm
              · rw [if_neg y]; exact k1 j (by omega))
        rw [hun] at this
        exact this
theorem op_unlooped (v w : Int32) {n : Nat} (hn : 200 ≤ n) {M : HMem} (hL : ILines M) : ∃ r M1 M2, f_X11_unlooped n v w M = some (r, M1) ∧ f_X12_unlooped n v w M1 = some (r, M2) ∧ oth 0 M M2 := by
  obtain ⟨y, y1, y2, rfl⟩ := iI_of w
  rcases lineV hL v with ⟨h1, h2⟩ | ⟨c, fr, ln, rfl, h, h1, h2⟩
  · exact ⟨-1, M, M, by rw [f_X11_unlooped, h1, hb1_some], by rw [f_X12_unlooped, h2, hb1_some, if_pos rfl], oth_rf _ _⟩
  · have hrg := h.rg
    have hc := h.c8
    have hN := nP_i hrg.1 hrg.2.1
    have hC : f_X11_unlooped n (iI c) (iI y) M = if f_X11_isWithin (iI y) 96 = 0 then (if iI y = 100 then f_X11_unlooped_J30 n (iI y) (50 + 3 * c) M else some (-1, M)) else f_X11_unlooped_J30 n (iI y) (50 + 3 * c) M := by
      rw [f_X11_unlooped, h1, hb1_some]
    by_cases hy : (0 ≤ y ∧ y ≤ 96) ∨ y = 100
    · obtain ⟨g', w', e1, e2⟩ := unC_L (n := n) h hn n 0 (fun j => if j < 192 then 0 else M 33 j) (M 34) (by omega) (by omega) (fun j hj => absurd hj (Nat.not_lt_zero _)) (fun p hp => Or.inr ⟨fun j hj => absurd hj (Nat.not_lt_zero _), if_pos hp⟩)
      have hle := un_le (pl M c) (nP ln)
      rw [show iI (((un (pl M c) 0).1 : Nat) : Int) = 0 from rfl, show fr + ((0 : Nat) : Int) = fr by omega, hput_eta] at e1
      have eU : f_X9_unloop n (50 + 3 * c) M = some (iI ((un (pl M c) (nP ln)).1 : Nat), hput (hput M 34 w') 33 g') := by
        rw [f_X9_unloop, fill_eq (by omega) (by omega), hb1_some, hput_ne _ _ (by omega), h.cf.1, e1]
      have eJ : f_X11_unlooped_J30 n (iI y) (50 + 3 * c) M = some (unA (pl M c) (nP ln) (iI y), hput (hput M 34 w') 33 g') := by
        rw [f_X11_unlooped_J30, eU, hb2_some, unA]
        by_cases y0 : iI y = 100
        · rw [if_pos y0, if_pos y0]
        · rw [if_neg y0, if_neg y0]
          by_cases y1 : iI ((un (pl M c) (nP ln)).1 : Nat) ≤ iI y
          · rw [if_pos y1, if_pos y1]
          · rw [if_neg y1, if_neg y1]
            have hy2 : 0 ≤ y ∧ y ≤ 96 := by
              rcases hy with q | q
              · exact q
              · rw [q] at y0; exact absurd rfl y0
            rw [iI_le (by omega) (by omega) (by omega) (by omega)] at y1
            have := rowAt_in (M := hput (hput M 34 w') 33 g') (j := y.toNat) (by omega)
            rw [show ((y.toNat : Nat) : Int) = y by omega] at this
            rw [this, hb1_some, hput_ne _ _ (by decide), hput_self, e2 y.toNat (by omega), iI_nat (by omega) (by omega)]
      have hm := (h.put w' (k0 := 34) (fun j => by rw [grp34]; decide)).put g' (k0 := 33) (fun j => by rw [grp33]; decide)
      have ep : pl (hput (hput M 34 w') 33 g') c = pl M c := funext fun k => by rw [pl_put _ hc (fun j => by rw [grp33]; decide), pl_put _ hc (fun j => by rw [grp34]; decide)]
      obtain ⟨g2, e3⟩ := unR_L (n := n) hm hn hy n 0 (hput (hput M 34 w') 33 g' 104) (by omega) (by omega) (fun j hj => absurd hj (Nat.not_lt_zero _))
      rw [ep, hput_eta, show iI (((un (pl M c) 0).1 : Nat) : Int) = 0 from rfl, show iI ((0 : Nat) : Int) = 0 from rfl] at e3
      have k2 := hasLine_1 hm.c8 hm.cf.2.2.1 hrg.1 hrg.2.1
      refine ⟨unA (pl M c) (nP ln) (iI y), hput (hput M 34 w') 33 g', hput (hput (hput M 34 w') 33 g') 104 g2, ?_, ?_, oth.trans (oth.trans (oth_put (f := w') (fun j => Or.inl (grp34 j))) (oth_put (f := g') (fun j => Or.inl (grp33 j)))) (oth_put (k0 := 104) (f := g2) (fun j => Or.inl rfl))⟩
      · rw [hC]
        rcases hy with q | q
        · rw [q96, isWithin_1 q.1 q.2 (by omega), if_neg i10, eJ]
        · rw [q96, isWithin_0 (by omega) y1 y2 (by omega) (by omega), if_pos rfl, if_pos (by rw [q]; rfl), eJ]
      · rw [f_X12_unlooped, k2, hb1_some, if_neg i10, q96]
        rcases hy with q | q
        · rw [in01 q.1 q.2 (by omega), if_neg i10, e3]
        · rw [in00 (by omega) y1 y2 (by omega) (by omega), if_pos rfl, if_pos (by rw [q]; rfl), e3]
    · have hy1 : ¬ (0 ≤ y ∧ y ≤ 96) := fun q => hy (Or.inl q)
      have hy2 : ¬ iI y = 100 := by rw [q100, iI_eq (by omega) (by omega) (by omega) (by omega)]; exact fun q => hy (Or.inr q)
      exact ⟨-1, M, M, by rw [hC, q96, isWithin_0 hy1 y1 y2 (by omega) (by omega), if_pos rfl, if_neg hy2], by rw [f_X12_unlooped, h2, hb1_some, if_neg i10, q96, in00 hy1 y1 y2 (by omega) (by omega), if_pos rfl, if_neg hy2], oth_rf _ _⟩

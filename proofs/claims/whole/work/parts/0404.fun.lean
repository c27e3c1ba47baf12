-- X7_readSteps
def f_X7_readSteps_L13 (n : Nat) (cb : Nat → Int32 → HMem → Option HMem) (v1 : Int32) (v2 : Int32) : Nat → Int32 → HMem → Option HMem
  | 0, _, _ => none
  | k + 1, v3, M =>
    if 60 < v3 then
      (some M)
    else
      (hb1 (cb 1 v1 M) (fun M101 =>
      if (f_X10_isSound  M101) = 0 then
        (some M101)
      else
        (hb1 (f_X10_isAt v2 M101) (fun x102 =>
        if x102 = 0 then
          (f_X7_readSteps_L13 n cb v1 v2 k (v3 + 1) M101)
        else
          (some M101)))))
set_option maxRecDepth 20000 in
theorem w_X7_readSteps_L13 (d : Nat) (hd : 2 ≤ d) (n : Nat) (cb : Nat → Int32 → HMem → Option HMem) (hc0 : ∀ a M, MX iX7_readSteps (d - 1) [.inr (some 8), .inl a] M eV (cb 0 a M)) (hc1 : ∀ a M, MX iX7_readOne (d - 1) [.inr (some 8), .inl a] M eV (cb 1 a M)) (hc2 : ∀ a M, MX iX7_readRound (d - 1) [.inr (some 8), .inl a] M eV (cb 2 a M)) (v1 : Int32) (v2 : Int32) : ∀ (k : Nat) (v3 : Int32) (M : HMem), GX iX7_readSteps d eV (f_X7_readSteps_L13 n cb v1 v2 k v3 M) 13 [some (.inr (some 8)), some (.inl v1), some (.inl v2), some (.inl v3)] [] M := by
  intro k
  induction k with
  | zero => intro v3 M; exact gx_none
  | succ k ih =>
    intro v3 M
    rw [f_X7_readSteps_L13]
    refine gx_iload_n dX7_readSteps_13 rfl ?_
    refine gx_bipush (x := 60) (by decide) dX7_readSteps_14 ?_
    refine gx_icmp_gt (tgt := 52) dX7_readSteps_16 (by decide) ?_ ?_
    · exact gx_vret rfl rfl dX7_readSteps_52
    refine gx_aload_n dX7_readSteps_19 rfl ?_
    refine gx_iload_n dX7_readSteps_20 rfl ?_
    refine gx_cV_vm (av := [.inl v1]) (st := []) ml_X7_29 (by omega) sh8 (hc1 v1 M) rfl rfl (Nat.le_of_ble_eq_true rfl) dX7_readSteps_21 (fun M101 => ?_)
    refine gx_aload_n dX7_readSteps_24 rfl ?_
    refine gx_getR fl_X7_19 sh8 rfl dX7_readSteps_25 ?_
    refine gx_cV_it (av := []) (st := []) ml_X7_32 (by omega) sh1 (c_X10_isSound (d - 1) (by omega)  M101) rfl rfl (Nat.le_of_ble_eq_true rfl) dX7_readSteps_28 ?_
    refine gx_if_eq (tgt := 45) dX7_readSteps_31 (by decide) ?_ ?_
    · exact gx_vret rfl rfl dX7_readSteps_45
    refine gx_aload_n dX7_readSteps_34 rfl ?_
    refine gx_getR fl_X7_19 sh8 rfl dX7_readSteps_35 ?_
    refine gx_iload_n dX7_readSteps_38 rfl ?_
    refine gx_cV_ip (av := [.inl v2]) (st := []) ml_X7_36 (by omega) sh1 (c_X10_isAt (d - 1) (by omega) v2 M101) rfl rfl (Nat.le_of_ble_eq_true rfl) dX7_readSteps_39 (fun x102 => ?_)
    refine gx_if_eq (tgt := 46) dX7_readSteps_42 (by decide) ?_ ?_
    · refine gx_iinc (y := v3 + 1) (lv' := [some (.inr (some 8)), some (.inl v1), some (.inl v2), some (.inl (v3 + 1))]) dX7_readSteps_46 rfl rfl (by decide) rfl ?_
      refine gx_goto (tgt := 13) dX7_readSteps_49 (by decide) ?_
      refine gx_mk (lv' := [some (.inr (some 8)), some (.inl v1), some (.inl v2), some (.inl (v3 + 1))]) [true, true, true, true] rfl ?_
      exact ih (v3 + 1) M101
    exact gx_vret rfl rfl dX7_readSteps_45
def f_X7_readSteps (n : Nat) (cb : Nat → Int32 → HMem → Option HMem) (v1 : Int32) (M : HMem) : Option HMem :=
  if v1 = 0 then
    (f_X7_readSteps_L13 n cb v1 (-1) n 0 M)
  else
    (f_X7_readSteps_L13 n cb v1 41 n 0 M)
set_option maxRecDepth 20000 in
theorem w_X7_readSteps (d : Nat) (hd : 2 ≤ d) (n : Nat) (cb : Nat → Int32 → HMem → Option HMem) (hc0 : ∀ a M, MX iX7_readSteps (d - 1) [.inr (some 8), .inl a] M eV (cb 0 a M)) (hc1 : ∀ a M, MX iX7_readOne (d - 1) [.inr (some 8), .inl a] M eV (cb 1 a M)) (hc2 : ∀ a M, MX iX7_readRound (d - 1) [.inr (some 8), .inl a] M eV (cb 2 a M)) (v1 : Int32) (M : HMem) : GX iX7_readSteps d eV (f_X7_readSteps n cb v1 M) 0 [some (.inr (some 8)), some (.inl v1), none, none] [] M := by
  rw [f_X7_readSteps]
  refine gx_iload_n dX7_readSteps_0 rfl ?_
  refine gx_if_ne (tgt := 8) dX7_readSteps_1 (by decide) ?_ ?_
  · refine gx_bipush (x := 41) (by decide) dX7_readSteps_8 ?_
    refine gx_istore_n (lv' := [some (.inr (some 8)), some (.inl v1), some (.inl 41), none]) dX7_readSteps_10 (by decide) rfl ?_
    refine gx_iconst (x := 0) (by decide) dX7_readSteps_11 ?_
    refine gx_istore_n (lv' := [some (.inr (some 8)), some (.inl v1), some (.inl 41), some (.inl 0)]) dX7_readSteps_12 (by decide) rfl ?_
    refine gx_mk (lv' := [some (.inr (some 8)), some (.inl v1), some (.inl 41), some (.inl 0)]) [true, true, true, true] rfl ?_
    exact w_X7_readSteps_L13 d hd n cb hc0 hc1 hc2 v1 41 n 0 M
  refine gx_iconst (x := (-1)) (by decide) dX7_readSteps_4 ?_
  refine gx_goto (tgt := 10) dX7_readSteps_5 (by decide) ?_
  refine gx_istore_n (lv' := [some (.inr (some 8)), some (.inl v1), some (.inl (-1)), none]) dX7_readSteps_10 (by decide) rfl ?_
  refine gx_iconst (x := 0) (by decide) dX7_readSteps_11 ?_
  refine gx_istore_n (lv' := [some (.inr (some 8)), some (.inl v1), some (.inl (-1)), some (.inl 0)]) dX7_readSteps_12 (by decide) rfl ?_
  refine gx_mk (lv' := [some (.inr (some 8)), some (.inl v1), some (.inl (-1)), some (.inl 0)]) [true, true, true, true] rfl ?_
  exact w_X7_readSteps_L13 d hd n cb hc0 hc1 hc2 v1 (-1) n 0 M
theorem c_X7_readSteps (d : Nat) (hd : 2 ≤ d) (n : Nat) (cb : Nat → Int32 → HMem → Option HMem) (hc0 : ∀ a M, MX iX7_readSteps (d - 1) [.inr (some 8), .inl a] M eV (cb 0 a M)) (hc1 : ∀ a M, MX iX7_readOne (d - 1) [.inr (some 8), .inl a] M eV (cb 1 a M)) (hc2 : ∀ a M, MX iX7_readRound (d - 1) [.inr (some 8), .inl a] M eV (cb 2 a M)) (v1 : Int32) (M : HMem) : MX iX7_readSteps d [.inr (some 8), .inl v1] M eV (f_X7_readSteps n cb v1 M) := mx_of (by decide +kernel) (Nat.le_of_ble_eq_true rfl) rfl (w_X7_readSteps d hd n cb hc0 hc1 hc2 v1 M)
def g_X7 (n : Nat) : Nat → Nat → Int32 → HMem → Option HMem
  | 0, _, _, _ => none
  | q + 1, tag, a, M => if tag = 0 then f_X7_readSteps n (g_X7 n q) a M else if tag = 1 then f_X7_readOne n (g_X7 n q) a M else if tag = 2 then f_X7_readRound n (g_X7 n q) a M else none
theorem c_g_X7 (n : Nat) : ∀ (q d : Nat), q + 2 ≤ d → (∀ a M, MX iX7_readSteps d [.inr (some 8), .inl a] M eV (g_X7 n q 0 a M)) ∧ (∀ a M, MX iX7_readOne d [.inr (some 8), .inl a] M eV (g_X7 n q 1 a M)) ∧ (∀ a M, MX iX7_readRound d [.inr (some 8), .inl a] M eV (g_X7 n q 2 a M))
  | 0, d, _ => ⟨(fun _ _ _ h => by cases h), (fun _ _ _ h => by cases h), (fun _ _ _ h => by cases h)⟩
  | q + 1, d, hd => by
    have ih := c_g_X7 n q (d - 1) (by omega)
    refine ⟨?_, ?_, ?_⟩
    · intro a M
      have h := c_X7_readSteps d (by omega) n (g_X7 n q) (ih.1) (ih.2.1) (ih.2.2) a M
      rw [show g_X7 n (q + 1) 0 a M = f_X7_readSteps n (g_X7 n q) a M from rfl]
      exact h
    · intro a M
      have h := c_X7_readOne d (by omega) n (g_X7 n q) (ih.1) (ih.2.1) (ih.2.2) a M
      rw [show g_X7 n (q + 1) 1 a M = f_X7_readOne n (g_X7 n q) a M from rfl]
      exact h
    · intro a M
      have h := c_X7_readRound d (by omega) n (g_X7 n q) (ih.1) (ih.2.1) (ih.2.2) a M
      rw [show g_X7 n (q + 1) 2 a M = f_X7_readRound n (g_X7 n q) a M from rfl]
      exact h
theorem c_X7_readSteps_g (d : Nat) (hd : 69 ≤ d) (n : Nat) (a : Int32) (M : HMem) : MX iX7_readSteps d [.inr (some 8), .inl a] M eV (g_X7 n 60 0 a M) := ((c_g_X7 n 60 d (by omega)).1) a M
theorem c_X7_readOne_g (d : Nat) (hd : 69 ≤ d) (n : Nat) (a : Int32) (M : HMem) : MX iX7_readOne d [.inr (some 8), .inl a] M eV (g_X7 n 60 1 a M) := ((c_g_X7 n 60 d (by omega)).2.1) a M
theorem c_X7_readRound_g (d : Nat) (hd : 69 ≤ d) (n : Nat) (a : Int32) (M : HMem) : MX iX7_readRound d [.inr (some 8), .inl a] M eV (g_X7 n 60 2 a M) := ((c_g_X7 n 60 d (by omega)).2.2) a M
-- X7_read
def f_X7_read (n : Nat)  (M : HMem) : Option HMem :=
  hb1 (g_X7 n 60 0 0 (hset M 8 2 0)) (fun M101 =>
  some M101)
set_option maxRecDepth 20000 in
theorem w_X7_read (d : Nat) (hd : 71 ≤ d) (n : Nat)  (M : HMem) : GX iX7_read d eV (f_X7_read n  M) 0 [some (.inr (some 8))] [] M := by
  rw [f_X7_read]
  refine gx_aload_n dX7_read_0 rfl ?_
  refine gx_iconst (x := 0) (by decide) dX7_read_1 ?_
  refine gx_putI fl_X7_15 fp_X7_2 sh8 rfl dX7_read_2 ?_
  refine gx_aload_n dX7_read_5 rfl ?_
  refine gx_iconst (x := 0) (by decide) dX7_read_6 ?_
  refine gx_cV_vm (av := [.inl 0]) (st := []) ml_X7_23 (by omega) sh8 (c_X7_readSteps_g (d - 1) (by omega) n 0 (hset M 8 2 0)) rfl rfl (Nat.le_of_ble_eq_true rfl) dX7_read_7 (fun M101 => ?_)
  exact gx_vret rfl rfl dX7_read_10
theorem c_X7_read (d : Nat) (hd : 71 ≤ d) (n : Nat)  (M : HMem) : MX iX7_read d [.inr (some 8)] M eV (f_X7_read n  M) := mx_of (by decide +kernel) (Nat.le_of_ble_eq_true rfl) rfl (w_X7_read d hd n  M)
-- X8_copyFrom
def f_X8_copyFrom (o0 : Nat) (o1 : Nat) (M : HMem) : HMem :=
  hset (hset (hcpy (hcpy (hcpy (hcpy M (o1 + 1) (o0 + 1) 0 0 6) (o1 + 2) (o0 + 2) 0 0 6) (o1 + 3) (o0 + 3) 0 0 6) (o1 + 4) (o0 + 4) 0 0 6) o0 4 ((hcpy (hcpy (hcpy (hcpy M (o1 + 1) (o0 + 1) 0 0 6) (o1 + 2) (o0 + 2) 0 0 6) (o1 + 3) (o0 + 3) 0 0 6) (o1 + 4) (o0 + 4) 0 0 6) o1 4)) o0 5 ((hset (hcpy (hcpy (hcpy (hcpy M (o1 + 1) (o0 + 1) 0 0 6) (o1 + 2) (o0 + 2) 0 0 6) (o1 + 3) (o0 + 3) 0 0 6) (o1 + 4) (o0 + 4) 0 0 6) o0 4 ((hcpy (hcpy (hcpy (hcpy M (o1 + 1) (o0 + 1) 0 0 6) (o1 + 2) (o0 + 2) 0 0 6) (o1 + 3) (o0 + 3) 0 0 6) (o1 + 4) (o0 + 4) 0 0 6) o1 4)) o1 5)
set_option maxRecDepth 20000 in
theorem w_X8_copyFrom (d : Nat) (hd : 1 ≤ d) (o0 : Nat) (h0 : isPk o0) (o1 : Nat) (h1 : isPk o1) (M : HMem) : GX iX8_copyFrom d eV (some (f_X8_copyFrom o0 o1 M)) 0 [some (.inr (some o0)), some (.inr (some o1))] [] M := by
  rw [f_X8_copyFrom]
  refine gx_aload_n dX8_copyFrom_0 rfl ?_
  refine gx_getR fl_X8_9 (shP h1) rfl dX8_copyFrom_1 ?_
  refine gx_iconst (x := 0) (by decide) dX8_copyFrom_4 ?_
  refine gx_aload_n dX8_copyFrom_5 rfl ?_
  refine gx_getR fl_X8_9 (shP h0) rfl dX8_copyFrom_6 ?_
  refine gx_iconst (x := 0) (by decide) dX8_copyFrom_9 ?_
  refine gx_bipush (x := 6) (by decide) dX8_copyFrom_10 ?_
  refine gx_copyL (sp' := 0) (dp' := 0) (n' := 6) mw919 mw665 mw664 mw188 (shP1 h1) (shP1 h0) (by decide) (by decide) (by decide) (by decide) (by omega) (Nat.le_of_ble_eq_true rfl) dX8_copyFrom_12 ?_
  refine gx_aload_n dX8_copyFrom_15 rfl ?_
  refine gx_getR fl_X8_15 (shP h1) rfl dX8_copyFrom_16 ?_
  refine gx_iconst (x := 0) (by decide) dX8_copyFrom_19 ?_
  refine gx_aload_n dX8_copyFrom_20 rfl ?_
  refine gx_getR fl_X8_15 (shP h0) rfl dX8_copyFrom_21 ?_
  refine gx_iconst (x := 0) (by decide) dX8_copyFrom_24 ?_
  refine gx_bipush (x := 6) (by decide) dX8_copyFrom_25 ?_
  refine gx_copyL (sp' := 0) (dp' := 0) (n' := 6) mw919 mw665 mw664 mw188 (shP2 h1) (shP2 h0) (by decide) (by decide) (by decide) (by decide) (by omega) (Nat.le_of_ble_eq_true rfl) dX8_copyFrom_27 ?_
  refine gx_aload_n dX8_copyFrom_30 rfl ?_
  refine gx_getR fl_X8_18 (shP h1) rfl dX8_copyFrom_31 ?_
  refine gx_iconst (x := 0) (by decide) dX8_copyFrom_34 ?_
  refine gx_aload_n dX8_copyFrom_35 rfl ?_
  refine gx_getR fl_X8_18 (shP h0) rfl dX8_copyFrom_36 ?_
  refine gx_iconst (x := 0) (by decide) dX8_copyFrom_39 ?_
  refine gx_bipush (x := 6) (by decide) dX8_copyFrom_40 ?_
  refine gx_copyL (sp' := 0) (dp' := 0) (n' := 6) mw919 mw665 mw664 mw188 (shP3 h1) (shP3 h0) (by decide) (by decide) (by decide) (by decide) (by omega) (Nat.le_of_ble_eq_true rfl) dX8_copyFrom_42 ?_
  refine gx_aload_n dX8_copyFrom_45 rfl ?_
  refine gx_getR fl_X8_21 (shP h1) rfl dX8_copyFrom_46 ?_
  refine gx_iconst (x := 0) (by decide) dX8_copyFrom_49 ?_
  refine gx_aload_n dX8_copyFrom_50 rfl ?_
  refine gx_getR fl_X8_21 (shP h0) rfl dX8_copyFrom_51 ?_
  refine gx_iconst (x := 0) (by decide) dX8_copyFrom_54 ?_
  refine gx_bipush (x := 6) (by decide) dX8_copyFrom_55 ?_
  refine gx_copyL (sp' := 0) (dp' := 0) (n' := 6) mw919 mw665 mw664 mw188 (shP4 h1) (shP4 h0) (by decide) (by decide) (by decide) (by decide) (by omega) (Nat.le_of_ble_eq_true rfl) dX8_copyFrom_57 ?_
  refine gx_aload_n dX8_copyFrom_60 rfl ?_
  refine gx_aload_n dX8_copyFrom_61 rfl ?_
  refine gx_getI fl_X8_24 (shP h1) rfl dX8_copyFrom_62 ?_
  refine gx_putI fl_X8_24 fp_X8_4 (shP h0) rfl dX8_copyFrom_65 ?_
  refine gx_aload_n dX8_copyFrom_68 rfl ?_
  refine gx_aload_n dX8_copyFrom_69 rfl ?_
  refine gx_getI fl_X8_28 (shP h1) rfl dX8_copyFrom_70 ?_
  refine gx_putI fl_X8_28 fp_X8_5 (shP h0) rfl dX8_copyFrom_73 ?_
  exact gx_vret rfl rfl dX8_copyFrom_76
theorem c_X8_copyFrom (d : Nat) (hd : 1 ≤ d) (o0 : Nat) (h0 : isPk o0) (o1 : Nat) (h1 : isPk o1) (M : HMem) : MX iX8_copyFrom d [.inr (some o0), .inr (some o1)] M eV (some (f_X8_copyFrom o0 o1 M)) := mx_of (by decide +kernel) (Nat.le_of_ble_eq_true rfl) rfl (w_X8_copyFrom d hd o0 h0 o1 h1 M)
-- X8_tell
def f_X8_tell (o0 : Nat) (v1 : Int32) (v2 : Int32) (M : HMem) : Option HMem :=
  if (f_X11_isWithin v1 5) = 0 then
    (some M)
  else
    (if hib v1 6 then
    if hib v1 6 then
    if hib v1 6 then
    if hib v1 6 then
    some (hset (hset (hset (hset M (o0 + 1) (Int32.toNatClampNeg v1) v2) (o0 + 2) (Int32.toNatClampNeg v1) 10000) (o0 + 3) (Int32.toNatClampNeg v1) 0) (o0 + 4) (Int32.toNatClampNeg v1) 0)
    else none
    else none
    else none
    else none)
set_option maxRecDepth 20000 in
theorem w_X8_tell (d : Nat) (hd : 1 ≤ d) (o0 : Nat) (h0 : isPk o0) (v1 : Int32) (v2 : Int32) (M : HMem) : GX iX8_tell d eV (f_X8_tell o0 v1 v2 M) 0 [some (.inr (some o0)), some (.inl v1), some (.inl v2)] [] M := by
  rw [f_X8_tell]
  refine gx_iload_n dX8_tell_0 rfl ?_
  refine gx_iconst (x := 5) (by decide) dX8_tell_1 ?_
  refine gx_cS_it (av := [.inl v1, .inl 5]) (st := []) ml_X8_43 (by omega) (c_X11_isWithin (d - 1) (by omega) v1 5 M) rfl rfl (Nat.le_of_ble_eq_true rfl) dX8_tell_2 ?_
  refine gx_if_eq (tgt := 38) dX8_tell_5 (by decide) ?_ ?_
  · exact gx_vret rfl rfl dX8_tell_38
  refine gx_aload_n dX8_tell_8 rfl ?_
  refine gx_getR fl_X8_9 (shP h0) rfl dX8_tell_9 ?_
  refine gx_iload_n dX8_tell_12 rfl ?_
  refine gx_iload_n dX8_tell_13 rfl ?_
  refine gx_iastore (shP1 h0) dX8_tell_14 ?_
  refine gx_aload_n dX8_tell_15 rfl ?_
  refine gx_getR fl_X8_15 (shP h0) rfl dX8_tell_16 ?_
  refine gx_iload_n dX8_tell_19 rfl ?_
  refine gx_sipush (x := 10000) (by decide) dX8_tell_20 ?_
  refine gx_iastore (shP2 h0) dX8_tell_23 ?_
  refine gx_aload_n dX8_tell_24 rfl ?_
  refine gx_getR fl_X8_18 (shP h0) rfl dX8_tell_25 ?_
  refine gx_iload_n dX8_tell_28 rfl ?_
  refine gx_iconst (x := 0) (by decide) dX8_tell_29 ?_
  refine gx_iastore (shP3 h0) dX8_tell_30 ?_
  refine gx_aload_n dX8_tell_31 rfl ?_
  refine gx_getR fl_X8_21 (shP h0) rfl dX8_tell_32 ?_
  refine gx_iload_n dX8_tell_35 rfl ?_
  refine gx_iconst (x := 0) (by decide) dX8_tell_36 ?_
  refine gx_iastore (shP4 h0) dX8_tell_37 ?_
  exact gx_vret rfl rfl dX8_tell_38
theorem c_X8_tell (d : Nat) (hd : 1 ≤ d) (o0 : Nat) (h0 : isPk o0) (v1 : Int32) (v2 : Int32) (M : HMem) : MX iX8_tell d [.inr (some o0), .inl v1, .inl v2] M eV (f_X8_tell o0 v1 v2 M) := mx_of (by decide +kernel) (Nat.le_of_ble_eq_true rfl) rfl (w_X8_tell d hd o0 h0 v1 v2 M)
-- X8_isTold
def f_X8_isTold (o0 : Nat) (v1 : Int32) (M : HMem) : Option Int32 :=
  hb1 (f_X8_stateOf o0 v1 M) (fun x101 =>
  if x101 = 3 then
    (some 0)
  else
    (some 1))
set_option maxRecDepth 20000 in
theorem w_X8_isTold (d : Nat) (hd : 2 ≤ d) (o0 : Nat) (h0 : isPk o0) (v1 : Int32) (M : HMem) : GX iX8_isTold d (eP M) (f_X8_isTold o0 v1 M) 0 [some (.inr (some o0)), some (.inl v1)] [] M := by
  rw [f_X8_isTold]
  refine gx_aload_n dX8_isTold_0 rfl ?_
  refine gx_iload_n dX8_isTold_1 rfl ?_
  refine gx_cV_ip (av := [.inl v1]) (st := []) ml_X8_47 (by omega) (shP h0) (c_X8_stateOf (d - 1) (by omega) o0 h0 v1 M) rfl rfl (Nat.le_of_ble_eq_true rfl) dX8_isTold_2 (fun x101 => ?_)
  refine gx_iconst (x := 3) (by decide) dX8_isTold_5 ?_
  refine gx_icmp_eq (tgt := 13) dX8_isTold_6 (by decide) ?_ ?_
  · refine gx_iconst (x := 0) (by decide) dX8_isTold_13 ?_
    exact gx_zret rfl (by decide) rfl dX8_isTold_14
  refine gx_iconst (x := 1) (by decide) dX8_isTold_9 ?_
  refine gx_goto (tgt := 14) dX8_isTold_10 (by decide) ?_
  exact gx_zret rfl (by decide) rfl dX8_isTold_14
theorem c_X8_isTold (d : Nat) (hd : 2 ≤ d) (o0 : Nat) (h0 : isPk o0) (v1 : Int32) (M : HMem) : MX iX8_isTold d [.inr (some o0), .inl v1] M (eP M) (f_X8_isTold o0 v1 M) := mx_of (by decide +kernel) (Nat.le_of_ble_eq_true rfl) rfl (w_X8_isTold d hd o0 h0 v1 M)
-- X8_bitsOf
def f_X8_bitsOf_L4 (n : Nat) (o0 : Nat) (v1 : Int32) (M : HMem) : Nat → Int32 → Int32 → Option Int32
  | 0, _, _ => none
  | k + 1, v2, v3 =>
    if 6 ≤ v3 then
      (some v2)
    else
      (if hib v3 6 then
      if (M (o0 + 4) (Int32.toNatClampNeg v3)) = v1 then
        (f_X8_bitsOf_L4 n o0 v1 M k (v2 ||| (1 <<< (v3 &&& 31))) (v3 + 1))
      else
        (f_X8_bitsOf_L4 n o0 v1 M k v2 (v3 + 1))
      else none)
set_option maxRecDepth 20000 in
theorem w_X8_bitsOf_L4 (d : Nat) (hd : 0 ≤ d) (n : Nat) (M : HMem) (o0 : Nat) (h0 : isPk o0) (v1 : Int32) : ∀ (k : Nat) (v2 : Int32) (v3 : Int32), GX iX8_bitsOf d (eP M) (f_X8_bitsOf_L4 n o0 v1 M k v2 v3) 4 [some (.inr (some o0)), some (.inl v1), some (.inl v2), some (.inl v3)] [] M := by
  intro k
  induction k with
  | zero => intro v2 v3; exact gx_none
  | succ k ih =>
    intro v2 v3
    rw [f_X8_bitsOf_L4]
    refine gx_iload_n dX8_bitsOf_4 rfl ?_
    refine gx_bipush (x := 6) (by decide) dX8_bitsOf_5 ?_
    refine gx_icmp_ge (tgt := 32) dX8_bitsOf_7 (by decide) ?_ ?_
    · refine gx_iload_n dX8_bitsOf_32 rfl ?_
      exact gx_iret rfl rfl dX8_bitsOf_33
    refine gx_aload_n dX8_bitsOf_10 rfl ?_
    refine gx_getR fl_X8_21 (shP h0) rfl dX8_bitsOf_11 ?_
    refine gx_iload_n dX8_bitsOf_14 rfl ?_
    refine gx_iaload (shP4 h0) dX8_bitsOf_15 ?_
    refine gx_iload_n dX8_bitsOf_16 rfl ?_
    refine gx_icmp_ne (tgt := 26) dX8_bitsOf_17 (by decide) ?_ ?_
    · refine gx_iinc (y := v3 + 1) (lv' := [some (.inr (some o0)), some (.inl v1), some (.inl v2), some (.inl (v3 + 1))]) dX8_bitsOf_26 rfl rfl (by decide) rfl ?_
      refine gx_goto (tgt := 4) dX8_bitsOf_29 (by decide) ?_
      refine gx_mk (lv' := [some (.inr (some o0)), some (.inl v1), some (.inl v2), some (.inl (v3 + 1))]) [true, true, true, true] rfl ?_
      exact ih v2 (v3 + 1)
    refine gx_iload_n dX8_bitsOf_20 rfl ?_
    refine gx_iconst (x := 1) (by decide) dX8_bitsOf_21 ?_
    refine gx_iload_n dX8_bitsOf_22 rfl ?_
    refine gx_ishl dX8_bitsOf_23 ?_
    refine gx_ior dX8_bitsOf_24 ?_
    refine gx_istore_n (lv' := [some (.inr (some o0)), some (.inl v1), some (.inl (v2 ||| (1 <<< (v3 &&& 31)))), some (.inl v3)]) dX8_bitsOf_25 (by decide) rfl ?_
    refine gx_iinc (y := v3 + 1) (lv' := [some (.inr (some o0)), some (.inl v1), some (.inl (v2 ||| (1 <<< (v3 &&& 31)))), some (.inl (v3 + 1))]) dX8_bitsOf_26 rfl rfl (by decide) rfl ?_
    refine gx_goto (tgt := 4) dX8_bitsOf_29 (by decide) ?_
    refine gx_mk (lv' := [some (.inr (some o0)), some (.inl v1), some (.inl (v2 ||| (1 <<< (v3 &&& 31)))), some (.inl (v3 + 1))]) [true, true, true, true] rfl ?_
    exact ih (v2 ||| (1 <<< (v3 &&& 31))) (v3 + 1)
def f_X8_bitsOf (n : Nat) (o0 : Nat) (v1 : Int32) (M : HMem) : Option Int32 :=
  f_X8_bitsOf_L4 n o0 v1 M n 0 0
set_option maxRecDepth 20000 in
theorem w_X8_bitsOf (d : Nat) (hd : 0 ≤ d) (n : Nat) (o0 : Nat) (h0 : isPk o0) (v1 : Int32) (M : HMem) : GX iX8_bitsOf d (eP M) (f_X8_bitsOf n o0 v1 M) 0 [some (.inr (some o0)), some (.inl v1), none, none] [] M := by
  rw [f_X8_bitsOf]
  refine gx_iconst (x := 0) (by decide) dX8_bitsOf_0 ?_
  refine gx_istore_n (lv' := [some (.inr (some o0)), some (.inl v1), some (.inl 0), none]) dX8_bitsOf_1 (by decide) rfl ?_
  refine gx_iconst (x := 0) (by decide) dX8_bitsOf_2 ?_
  refine gx_istore_n (lv' := [some (.inr (some o0)), some (.inl v1), some (.inl 0), some (.inl 0)]) dX8_bitsOf_3 (by decide) rfl ?_
  refine gx_mk (lv' := [some (.inr (some o0)), some (.inl v1), some (.inl 0), some (.inl 0)]) [true, true, true, true] rfl ?_
  exact w_X8_bitsOf_L4 d hd n M o0 h0 v1 n 0 0
theorem c_X8_bitsOf (d : Nat) (hd : 0 ≤ d) (n : Nat) (o0 : Nat) (h0 : isPk o0) (v1 : Int32) (M : HMem) : MX iX8_bitsOf d [.inr (some o0), .inl v1] M (eP M) (f_X8_bitsOf n o0 v1 M) := mx_of (by decide +kernel) (Nat.le_of_ble_eq_true rfl) rfl (w_X8_bitsOf d hd n o0 h0 v1 M)
-- X8_firstOf
def f_X8_firstOf_L2 (n : Nat) (o0 : Nat) (v1 : Int32) (M : HMem) : Nat → Int32 → Option Int32
  | 0, _ => none
  | k + 1, v2 =>
    if 6 ≤ v2 then
      (some (-1))
    else
      (if hib v2 6 then
      if (M (o0 + 4) (Int32.toNatClampNeg v2)) = v1 then
        (some v2)
      else
        (f_X8_firstOf_L2 n o0 v1 M k (v2 + 1))
      else none)
set_option maxRecDepth 20000 in
theorem w_X8_firstOf_L2 (d : Nat) (hd : 0 ≤ d) (n : Nat) (M : HMem) (o0 : Nat) (h0 : isPk o0) (v1 : Int32) : ∀ (k : Nat) (v2 : Int32), GX iX8_firstOf d (eP M) (f_X8_firstOf_L2 n o0 v1 M k v2) 2 [some (.inr (some o0)), some (.inl v1), some (.inl v2)] [] M := by
  intro k
  induction k with
  | zero => intro v2; exact gx_none
  | succ k ih =>
    intro v2
    rw [f_X8_firstOf_L2]
    refine gx_iload_n dX8_firstOf_2 rfl ?_
    refine gx_bipush (x := 6) (by decide) dX8_firstOf_3 ?_
    refine gx_icmp_ge (tgt := 26) dX8_firstOf_5 (by decide) ?_ ?_
    · refine gx_iconst (x := (-1)) (by decide) dX8_firstOf_26 ?_
      exact gx_iret rfl rfl dX8_firstOf_27
    refine gx_aload_n dX8_firstOf_8 rfl ?_
    refine gx_getR fl_X8_21 (shP h0) rfl dX8_firstOf_9 ?_
    refine gx_iload_n dX8_firstOf_12 rfl ?_
    refine gx_iaload (shP4 h0) dX8_firstOf_13 ?_
    refine gx_iload_n dX8_firstOf_14 rfl ?_
    refine gx_icmp_ne (tgt := 20) dX8_firstOf_15 (by decide) ?_ ?_
    · refine gx_iinc (y := v2 + 1) (lv' := [some (.inr (some o0)), some (.inl v1), some (.inl (v2 + 1))]) dX8_firstOf_20 rfl rfl (by decide) rfl ?_
      refine gx_goto (tgt := 2) dX8_firstOf_23 (by decide) ?_
      refine gx_mk (lv' := [some (.inr (some o0)), some (.inl v1), some (.inl (v2 + 1))]) [true, true, true] rfl ?_
      exact ih (v2 + 1)
    refine gx_iload_n dX8_firstOf_18 rfl ?_
    exact gx_iret rfl rfl dX8_firstOf_19
def f_X8_firstOf (n : Nat) (o0 : Nat) (v1 : Int32) (M : HMem) : Option Int32 :=
  f_X8_firstOf_L2 n o0 v1 M n 0
set_option maxRecDepth 20000 in
theorem w_X8_firstOf (d : Nat) (hd : 0 ≤ d) (n : Nat) (o0 : Nat) (h0 : isPk o0) (v1 : Int32) (M : HMem) : GX iX8_firstOf d (eP M) (f_X8_firstOf n o0 v1 M) 0 [some (.inr (some o0)), some (.inl v1), none] [] M := by
  rw [f_X8_firstOf]
  refine gx_iconst (x := 0) (by decide) dX8_firstOf_0 ?_
  refine gx_istore_n (lv' := [some (.inr (some o0)), some (.inl v1), some (.inl 0)]) dX8_firstOf_1 (by decide) rfl ?_
  refine gx_mk (lv' := [some (.inr (some o0)), some (.inl v1), some (.inl 0)]) [true, true, true] rfl ?_
  exact w_X8_firstOf_L2 d hd n M o0 h0 v1 n 0
theorem c_X8_firstOf (d : Nat) (hd : 0 ≤ d) (n : Nat) (o0 : Nat) (h0 : isPk o0) (v1 : Int32) (M : HMem) : MX iX8_firstOf d [.inr (some o0), .inl v1] M (eP M) (f_X8_firstOf n o0 v1 M) := mx_of (by decide +kernel) (Nat.le_of_ble_eq_true rfl) rfl (w_X8_firstOf d hd n o0 h0 v1 M)
-- X8_toldBits
def f_X8_toldBits (n : Nat) (o0 : Nat) (M : HMem) : Option Int32 :=
  hb1 (f_X8_bitsOf n o0 0 M) (fun x101 =>
  hb1 (f_X8_bitsOf n o0 1 M) (fun x102 =>
  hb1 (f_X8_bitsOf n o0 2 M) (fun x103 =>
  some ((x101 ||| x102) ||| x103))))
set_option maxRecDepth 20000 in
theorem w_X8_toldBits (d : Nat) (hd : 1 ≤ d) (n : Nat) (o0 : Nat) (h0 : isPk o0) (M : HMem) : GX iX8_toldBits d (eP M) (f_X8_toldBits n o0 M) 0 [some (.inr (some o0))] [] M := by
  rw [f_X8_toldBits]
  refine gx_aload_n dX8_toldBits_0 rfl ?_
  refine gx_iconst (x := 0) (by decide) dX8_toldBits_1 ?_
  refine gx_cV_ip (av := [.inl 0]) (st := []) ml_X8_51 (by omega) (shP h0) (c_X8_bitsOf (d - 1) (by omega) n o0 h0 0 M) rfl rfl (Nat.le_of_ble_eq_true rfl) dX8_toldBits_2 (fun x101 => ?_)
  refine gx_aload_n dX8_toldBits_5 rfl ?_
  refine gx_iconst (x := 1) (by decide) dX8_toldBits_6 ?_
  refine gx_cV_ip (av := [.inl 1]) (st := [.inl x101]) ml_X8_51 (by omega) (shP h0) (c_X8_bitsOf (d - 1) (by omega) n o0 h0 1 M) rfl rfl (Nat.le_of_ble_eq_true rfl) dX8_toldBits_7 (fun x102 => ?_)
  refine gx_ior dX8_toldBits_10 ?_
  refine gx_aload_n dX8_toldBits_11 rfl ?_
  refine gx_iconst (x := 2) (by decide) dX8_toldBits_12 ?_
  refine gx_cV_ip (av := [.inl 2]) (st := [.inl (x101 ||| x102)]) ml_X8_51 (by omega) (shP h0) (c_X8_bitsOf (d - 1) (by omega) n o0 h0 2 M) rfl rfl (Nat.le_of_ble_eq_true rfl) dX8_toldBits_13 (fun x103 => ?_)
  refine gx_ior dX8_toldBits_16 ?_
  exact gx_iret rfl rfl dX8_toldBits_17
theorem c_X8_toldBits (d : Nat) (hd : 1 ≤ d) (n : Nat) (o0 : Nat) (h0 : isPk o0) (M : HMem) : MX iX8_toldBits d [.inr (some o0)] M (eP M) (f_X8_toldBits n o0 M) := mx_of (by decide +kernel) (Nat.le_of_ble_eq_true rfl) rfl (w_X8_toldBits d hd n o0 h0 M)
-- X9_markPlace
def f_X9_markPlace (v1 : Int32) (v2 : Int32) (M : HMem) : Option HMem :=
  if (f_X11_isPlace v1) = 0 then
    (some M)
  else
    (if hib v1 192 then
    some (hset M 33 (Int32.toNatClampNeg v1) v2)
    else none)
set_option maxRecDepth 20000 in
theorem w_X9_markPlace (d : Nat) (hd : 1 ≤ d) (v1 : Int32) (v2 : Int32) (M : HMem) : GX iX9_markPlace d eV (f_X9_markPlace v1 v2 M) 0 [some (.inr (some 32)), some (.inl v1), some (.inl v2)] [] M := by
  rw [f_X9_markPlace]
  refine gx_iload_n dX9_markPlace_0 rfl ?_
  refine gx_cS_it (av := [.inl v1]) (st := []) ml_X9_114 (by omega) (c_X11_isPlace (d - 1) (by omega) v1 M) rfl rfl (Nat.le_of_ble_eq_true rfl) dX9_markPlace_1 ?_
  refine gx_if_eq (tgt := 14) dX9_markPlace_4 (by decide) ?_ ?_
  · exact gx_vret rfl rfl dX9_markPlace_14
  refine gx_aload_n dX9_markPlace_7 rfl ?_
  refine gx_getR fl_X9_9 sh32 rfl dX9_markPlace_8 ?_
  refine gx_iload_n dX9_markPlace_11 rfl ?_
  refine gx_iload_n dX9_markPlace_12 rfl ?_
  refine gx_iastore sh33 dX9_markPlace_13 ?_
  exact gx_vret rfl rfl dX9_markPlace_14
theorem c_X9_markPlace (d : Nat) (hd : 1 ≤ d) (v1 : Int32) (v2 : Int32) (M : HMem) : MX iX9_markPlace d [.inr (some 32), .inl v1, .inl v2] M eV (f_X9_markPlace v1 v2 M) := mx_of (by decide +kernel) (Nat.le_of_ble_eq_true rfl) rfl (w_X9_markPlace d hd v1 v2 M)
-- X9_markAt
def f_X9_markAt (v1 : Int32) (M : HMem) : Option Int32 :=
  if (f_X11_isPlace v1) = 0 then
    (some (-1))
  else
    (if hib v1 192 then
    some (M 33 (Int32.toNatClampNeg v1))
    else none)
set_option maxRecDepth 20000 in
theorem w_X9_markAt (d : Nat) (hd : 1 ≤ d) (v1 : Int32) (M : HMem) : GX iX9_markAt d (eP M) (f_X9_markAt v1 M) 0 [some (.inr (some 32)), some (.inl v1)] [] M := by
  rw [f_X9_markAt]
  refine gx_iload_n dX9_markAt_0 rfl ?_
  refine gx_cS_it (av := [.inl v1]) (st := []) ml_X9_114 (by omega) (c_X11_isPlace (d - 1) (by omega) v1 M) rfl rfl (Nat.le_of_ble_eq_true rfl) dX9_markAt_1 ?_
  refine gx_if_eq (tgt := 16) dX9_markAt_4 (by decide) ?_ ?_
  · refine gx_iconst (x := (-1)) (by decide) dX9_markAt_16 ?_
    exact gx_iret rfl rfl dX9_markAt_17
  refine gx_aload_n dX9_markAt_7 rfl ?_
  refine gx_getR fl_X9_9 sh32 rfl dX9_markAt_8 ?_
  refine gx_iload_n dX9_markAt_11 rfl ?_
  refine gx_iaload sh33 dX9_markAt_12 ?_
  refine gx_goto (tgt := 17) dX9_markAt_13 (by decide) ?_
  exact gx_iret rfl rfl dX9_markAt_17
theorem c_X9_markAt (d : Nat) (hd : 1 ≤ d) (v1 : Int32) (M : HMem) : MX iX9_markAt d [.inr (some 32), .inl v1] M (eP M) (f_X9_markAt v1 M) := mx_of (by decide +kernel) (Nat.le_of_ble_eq_true rfl) rfl (w_X9_markAt d hd v1 M)
-- X9_crossings
def f_X9_crossings_L45 (n : Nat) (o2 : Nat) : Nat → Int32 → Int32 → HMem → Option (Int32 × HMem)
  | 0, _, _, _ => none
  | k + 1, v3, v4, M =>
    if (f_X1_last o2 M) < v4 then
      (some (v3, M))
    else
      (hb1 (f_X1_placeAt o2 v4 M) (fun x101 =>
      hb1 (f_X9_markAt x101 M) (fun x102 =>
      if x102 = 1 then
        (hb1 (f_X9_markPlace x101 2 M) (fun M103 =>
        f_X9_crossings_L45 n o2 k (v3 + 1) (v4 + 1) M103))
      else
        (f_X9_crossings_L45 n o2 k v3 (v4 + 1) M))))
set_option maxRecDepth 20000 in
theorem w_X9_crossings_L45 (d : Nat) (hd : 2 ≤ d) (n : Nat) (o2 : Nat) (h2 : isCo o2) : ∀ (k : Nat) (v3 : Int32) (v4 : Int32) (M : HMem), GX iX9_crossings d eI (f_X9_crossings_L45 n o2 k v3 v4 M) 45 [some (.inr (some 32)), none, some (.inr (some o2)), some (.inl v3), some (.inl v4), none] [] M := by
  intro k
  induction k with
  | zero => intro v3 v4 M; exact gx_none
  | succ k ih =>
    intro v3 v4 M
    rw [f_X9_crossings_L45]
    refine gx_iload dX9_crossings_45 rfl ?_
    refine gx_aload_n dX9_crossings_47 rfl ?_
    refine gx_cV_it (av := []) (st := [.inl v4]) ml_X9_34 (by omega) (shC h2) (c_X1_last (d - 1) (by omega) o2 h2 M) rfl rfl (Nat.le_of_ble_eq_true rfl) dX9_crossings_48 ?_
    refine gx_icmp_gt (tgt := 88) dX9_crossings_51 (by decide) ?_ ?_
    · refine gx_iload_n dX9_crossings_88 rfl ?_
      exact gx_iret rfl rfl dX9_crossings_89
    refine gx_aload_n dX9_crossings_54 rfl ?_
    refine gx_iload dX9_crossings_55 rfl ?_
    refine gx_cV_ip (av := [.inl v4]) (st := []) ml_X9_38 (by omega) (shC h2) (c_X1_placeAt (d - 1) (by omega) o2 h2 v4 M) rfl rfl (Nat.le_of_ble_eq_true rfl) dX9_crossings_57 (fun x101 => ?_)
    refine gx_istore (lv' := [some (.inr (some 32)), none, some (.inr (some o2)), some (.inl v3), some (.inl v4), some (.inl x101)]) dX9_crossings_60 (by decide) rfl ?_
    refine gx_aload_n dX9_crossings_62 rfl ?_
    refine gx_iload dX9_crossings_63 rfl ?_
    refine gx_cV_ip (av := [.inl x101]) (st := []) ml_X9_46 (by omega) sh32 (c_X9_markAt (d - 1) (by omega) x101 M) rfl rfl (Nat.le_of_ble_eq_true rfl) dX9_crossings_65 (fun x102 => ?_)
    refine gx_iconst (x := 1) (by decide) dX9_crossings_68 ?_
    refine gx_icmp_ne (tgt := 82) dX9_crossings_69 (by decide) ?_ ?_
    · refine gx_iinc (y := v4 + 1) (lv' := [some (.inr (some 32)), none, some (.inr (some o2)), some (.inl v3), some (.inl (v4 + 1)), some (.inl x101)]) dX9_crossings_82 rfl rfl (by decide) rfl ?_
      refine gx_goto (tgt := 45) dX9_crossings_85 (by decide) ?_
      refine gx_mk (lv' := [some (.inr (some 32)), none, some (.inr (some o2)), some (.inl v3), some (.inl (v4 + 1)), none]) [true, false, true, true, true, false] rfl ?_
      exact ih v3 (v4 + 1) M
    refine gx_iinc (y := v3 + 1) (lv' := [some (.inr (some 32)), none, some (.inr (some o2)), some (.inl (v3 + 1)), some (.inl v4), some (.inl x101)]) dX9_crossings_72 rfl rfl (by decide) rfl ?_
    refine gx_aload_n dX9_crossings_75 rfl ?_
    refine gx_iload dX9_crossings_76 rfl ?_
    refine gx_iconst (x := 2) (by decide) dX9_crossings_78 ?_
    refine gx_cV_vm (av := [.inl x101, .inl 2]) (st := []) ml_X9_42 (by omega) sh32 (c_X9_markPlace (d - 1) (by omega) x101 2 M) rfl rfl (Nat.le_of_ble_eq_true rfl) dX9_crossings_79 (fun M103 => ?_)
    refine gx_iinc (y := v4 + 1) (lv' := [some (.inr (some 32)), none, some (.inr (some o2)), some (.inl (v3 + 1)), some (.inl (v4 + 1)), some (.inl x101)]) dX9_crossings_82 rfl rfl (by decide) rfl ?_
    refine gx_goto (tgt := 45) dX9_crossings_85 (by decide) ?_
    refine gx_mk (lv' := [some (.inr (some 32)), none, some (.inr (some o2)), some (.inl (v3 + 1)), some (.inl (v4 + 1)), none]) [true, false, true, true, true, false] rfl ?_
    exact ih (v3 + 1) (v4 + 1) M103
def f_X9_crossings_L13 (n : Nat) (o1 : Nat) (o2 : Nat) : Nat → Int32 → HMem → Option (Int32 × HMem)
  | 0, _, _ => none
  | k + 1, v3, M =>
    if (f_X1_last o1 M) < v3 then
      (f_X9_crossings_L45 n o2 n 0 (M o2 3) M)
    else
      (hb1 (f_X1_placeAt o1 v3 M) (fun x101 =>
      hb1 (f_X9_markPlace x101 1 M) (fun M102 =>
      f_X9_crossings_L13 n o1 o2 k (v3 + 1) M102)))
set_option maxRecDepth 20000 in
theorem w_X9_crossings_L13 (d : Nat) (hd : 2 ≤ d) (n : Nat) (o1 : Nat) (h1 : isCo o1) (o2 : Nat) (h2 : isCo o2) : ∀ (k : Nat) (v3 : Int32) (M : HMem), GX iX9_crossings d eI (f_X9_crossings_L13 n o1 o2 k v3 M) 13 [some (.inr (some 32)), some (.inr (some o1)), some (.inr (some o2)), some (.inl v3), none, none] [] M := by
  intro k
  induction k with
  | zero => intro v3 M; exact gx_none
  | succ k ih =>
    intro v3 M
    rw [f_X9_crossings_L13]
    refine gx_iload_n dX9_crossings_13 rfl ?_
    refine gx_aload_n dX9_crossings_14 rfl ?_
    refine gx_cV_it (av := []) (st := [.inl v3]) ml_X9_34 (by omega) (shC h1) (c_X1_last (d - 1) (by omega) o1 h1 M) rfl rfl (Nat.le_of_ble_eq_true rfl) dX9_crossings_15 ?_
    refine gx_icmp_gt (tgt := 37) dX9_crossings_18 (by decide) ?_ ?_
    · refine gx_iconst (x := 0) (by decide) dX9_crossings_37 ?_
      refine gx_istore_n (lv' := [some (.inr (some 32)), some (.inr (some o1)), some (.inr (some o2)), some (.inl 0), none, none]) dX9_crossings_38 (by decide) rfl ?_
      refine gx_aload_n dX9_crossings_39 rfl ?_
      refine gx_getI fl_X9_28 (shC h2) rfl dX9_crossings_40 ?_
      refine gx_istore (lv' := [some (.inr (some 32)), some (.inr (some o1)), some (.inr (some o2)), some (.inl 0), some (.inl (M o2 3)), none]) dX9_crossings_43 (by decide) rfl ?_
      refine gx_mk (lv' := [some (.inr (some 32)), none, some (.inr (some o2)), some (.inl 0), some (.inl (M o2 3)), none]) [true, false, true, true, true, false] rfl ?_
      exact w_X9_crossings_L45 d hd n o2 h2 n 0 (M o2 3) M
    refine gx_aload_n dX9_crossings_21 rfl ?_
    refine gx_aload_n dX9_crossings_22 rfl ?_
    refine gx_iload_n dX9_crossings_23 rfl ?_
    refine gx_cV_ip (av := [.inl v3]) (st := [.inr (some 32)]) ml_X9_38 (by omega) (shC h1) (c_X1_placeAt (d - 1) (by omega) o1 h1 v3 M) rfl rfl (Nat.le_of_ble_eq_true rfl) dX9_crossings_24 (fun x101 => ?_)
    refine gx_iconst (x := 1) (by decide) dX9_crossings_27 ?_
    refine gx_cV_vm (av := [.inl x101, .inl 1]) (st := []) ml_X9_42 (by omega) sh32 (c_X9_markPlace (d - 1) (by omega) x101 1 M) rfl rfl (Nat.le_of_ble_eq_true rfl) dX9_crossings_28 (fun M102 => ?_)
    refine gx_iinc (y := v3 + 1) (lv' := [some (.inr (some 32)), some (.inr (some o1)), some (.inr (some o2)), some (.inl (v3 + 1)), none, none]) dX9_crossings_31 rfl rfl (by decide) rfl ?_
    refine gx_goto (tgt := 13) dX9_crossings_34 (by decide) ?_
    refine gx_mk (lv' := [some (.inr (some 32)), some (.inr (some o1)), some (.inr (some o2)), some (.inl (v3 + 1)), none, none]) [true, true, true, true, false, false] rfl ?_
    exact ih (v3 + 1) M102
def f_X9_crossings (n : Nat) (o1 : Nat) (o2 : Nat) (M : HMem) : Option (Int32 × HMem) :=
  hb1 (f_J7_fill_53178 n 33 192 0 M) (fun M101 =>
  f_X9_crossings_L13 n o1 o2 n (M101 o1 3) M101)
set_option maxRecDepth 20000 in
theorem w_X9_crossings (d : Nat) (hd : 2 ≤ d) (n : Nat) (o1 : Nat) (h1 : isCo o1) (o2 : Nat) (h2 : isCo o2) (M : HMem) : GX iX9_crossings d eI (f_X9_crossings n o1 o2 M) 0 [some (.inr (some 32)), some (.inr (some o1)), some (.inr (some o2)), none, none, none] [] M := by
  rw [f_X9_crossings]
  refine gx_aload_n dX9_crossings_0 rfl ?_
  refine gx_getR fl_X9_9 sh32 rfl dX9_crossings_1 ?_
  refine gx_iconst (x := 0) (by decide) dX9_crossings_4 ?_
  refine gx_cS_vm (av := [.inr (some 33), .inl 0]) (st := []) ml_X9_22 (by omega) (c_J7_fill_53178 (d - 1) (by omega) n 33 192 sh33 0 M) rfl rfl (Nat.le_of_ble_eq_true rfl) dX9_crossings_5 (fun M101 => ?_)
  refine gx_aload_n dX9_crossings_8 rfl ?_
  refine gx_getI fl_X9_28 (shC h1) rfl dX9_crossings_9 ?_
  refine gx_istore_n (lv' := [some (.inr (some 32)), some (.inr (some o1)), some (.inr (some o2)), some (.inl (M101 o1 3)), none, none]) dX9_crossings_12 (by decide) rfl ?_
  refine gx_mk (lv' := [some (.inr (some 32)), some (.inr (some o1)), some (.inr (some o2)), some (.inl (M101 o1 3)), none, none]) [true, true, true, true, false, false] rfl ?_
  exact w_X9_crossings_L13 d hd n o1 h1 o2 h2 n (M101 o1 3) M101
theorem c_X9_crossings (d : Nat) (hd : 2 ≤ d) (n : Nat) (o1 : Nat) (h1 : isCo o1) (o2 : Nat) (h2 : isCo o2) (M : HMem) : MX iX9_crossings d [.inr (some 32), .inr (some o1), .inr (some o2)] M eI (f_X9_crossings n o1 o2 M) := mx_of (by decide +kernel) (Nat.le_of_ble_eq_true rfl) rfl (w_X9_crossings d hd n o1 h1 o2 h2 M)
-- X9_stepsApart
def f_X9_stepsApart (o0 : Nat) (o1 : Nat) (v2 : Int32) (M : HMem) : Option Int32 :=
  hb1 (f_X1_placeAt o0 v2 M) (fun x101 =>
  hb1 (f_X1_placeAt o1 v2 M) (fun x102 =>
  some ((f_X11_across x101 x102) + (f_X11_along x101 x102))))
set_option maxRecDepth 20000 in
theorem w_X9_stepsApart (d : Nat) (hd : 2 ≤ d) (o0 : Nat) (h0 : isCo o0) (o1 : Nat) (h1 : isCo o1) (v2 : Int32) (M : HMem) : GX iX9_stepsApart d (eP M) (f_X9_stepsApart o0 o1 v2 M) 0 [some (.inr (some o0)), some (.inr (some o1)), some (.inl v2), none, none] [] M := by
  rw [f_X9_stepsApart]
  refine gx_aload_n dX9_stepsApart_0 rfl ?_
  refine gx_iload_n dX9_stepsApart_1 rfl ?_
  refine gx_cV_ip (av := [.inl v2]) (st := []) ml_X9_38 (by omega) (shC h0) (c_X1_placeAt (d - 1) (by omega) o0 h0 v2 M) rfl rfl (Nat.le_of_ble_eq_true rfl) dX9_stepsApart_2 (fun x101 => ?_)
  refine gx_istore_n (lv' := [some (.inr (some o0)), some (.inr (some o1)), some (.inl v2), some (.inl x101), none]) dX9_stepsApart_5 (by decide) rfl ?_
  refine gx_aload_n dX9_stepsApart_6 rfl ?_
  refine gx_iload_n dX9_stepsApart_7 rfl ?_
  refine gx_cV_ip (av := [.inl v2]) (st := []) ml_X9_38 (by omega) (shC h1) (c_X1_placeAt (d - 1) (by omega) o1 h1 v2 M) rfl rfl (Nat.le_of_ble_eq_true rfl) dX9_stepsApart_8 (fun x102 => ?_)
  refine gx_istore (lv' := [some (.inr (some o0)), some (.inr (some o1)), some (.inl v2), some (.inl x101), some (.inl x102)]) dX9_stepsApart_11 (by decide) rfl ?_
  refine gx_iload_n dX9_stepsApart_13 rfl ?_
  refine gx_iload dX9_stepsApart_14 rfl ?_
  refine gx_cS_it (av := [.inl x101, .inl x102]) (st := []) ml_X9_117 (by omega) (c_X11_across (d - 1) (by omega) x101 x102 M) rfl rfl (Nat.le_of_ble_eq_true rfl) dX9_stepsApart_16 ?_
  refine gx_iload_n dX9_stepsApart_19 rfl ?_
  refine gx_iload dX9_stepsApart_20 rfl ?_
  refine gx_cS_it (av := [.inl x101, .inl x102]) (st := [.inl (f_X11_across x101 x102)]) ml_X9_120 (by omega) (c_X11_along (d - 1) (by omega) x101 x102 M) rfl rfl (Nat.le_of_ble_eq_true rfl) dX9_stepsApart_22 ?_
  refine gx_iadd dX9_stepsApart_25 ?_
  exact gx_iret rfl rfl dX9_stepsApart_26
theorem c_X9_stepsApart (d : Nat) (hd : 2 ≤ d) (o0 : Nat) (h0 : isCo o0) (o1 : Nat) (h1 : isCo o1) (v2 : Int32) (M : HMem) : MX iX9_stepsApart d [.inr (some o0), .inr (some o1), .inl v2] M (eP M) (f_X9_stepsApart o0 o1 v2 M) := mx_of (by decide +kernel) (Nat.le_of_ble_eq_true rfl) rfl (w_X9_stepsApart d hd o0 h0 o1 h1 v2 M)
-- X9_nearest
def f_X9_nearest_L29 (n : Nat) (o1 : Nat) (o2 : Nat) (v4 : Int32) (M : HMem) : Nat → Int32 → Int32 → Option Int32
  | 0, _, _ => none
  | k + 1, v3, v5 =>
    if v4 < v5 then
      (some v3)
    else
      (hb1 (f_X9_stepsApart o1 o2 v5 M) (fun x101 =>
      if v3 = (-2) then
        (f_X9_nearest_L29 n o1 o2 v4 M k x101 (v5 + 1))
      else
        (if v3 ≤ x101 then
          (f_X9_nearest_L29 n o1 o2 v4 M k v3 (v5 + 1))
        else
          (f_X9_nearest_L29 n o1 o2 v4 M k x101 (v5 + 1)))))
set_option maxRecDepth 20000 in
theorem w_X9_nearest_L29 (d : Nat) (hd : 3 ≤ d) (n : Nat) (M : HMem) (o1 : Nat) (h1 : isCo o1) (o2 : Nat) (h2 : isCo o2) (v4 : Int32) : ∀ (k : Nat) (v3 : Int32) (v5 : Int32), GX iX9_nearest d (eP M) (f_X9_nearest_L29 n o1 o2 v4 M k v3 v5) 29 [none, some (.inr (some o1)), some (.inr (some o2)), some (.inl v3), some (.inl v4), some (.inl v5), none] [] M := by
  intro k
  induction k with
  | zero => intro v3 v5; exact gx_none
  | succ k ih =>
    intro v3 v5
    rw [f_X9_nearest_L29]
    refine gx_iload dX9_nearest_29 rfl ?_
    refine gx_iload dX9_nearest_31 rfl ?_
    refine gx_icmp_gt (tgt := 66) dX9_nearest_33 (by decide) ?_ ?_
    · refine gx_iload_n dX9_nearest_66 rfl ?_
      exact gx_iret rfl rfl dX9_nearest_67
    refine gx_aload_n dX9_nearest_36 rfl ?_
    refine gx_aload_n dX9_nearest_37 rfl ?_
    refine gx_iload dX9_nearest_38 rfl ?_
    refine gx_cS_ip (av := [.inr (some o1), .inr (some o2), .inl v5]) (st := []) ml_X9_58 (by omega) (c_X9_stepsApart (d - 1) (by omega) o1 h1 o2 h2 v5 M) rfl rfl (Nat.le_of_ble_eq_true rfl) dX9_nearest_40 (fun x101 => ?_)
    refine gx_istore (lv' := [none, some (.inr (some o1)), some (.inr (some o2)), some (.inl v3), some (.inl v4), some (.inl v5), some (.inl x101)]) dX9_nearest_43 (by decide) rfl ?_
    refine gx_iload_n dX9_nearest_45 rfl ?_
    refine gx_bipush (x := (-2)) (by decide) dX9_nearest_46 ?_
    refine gx_icmp_eq (tgt := 57) dX9_nearest_48 (by decide) ?_ ?_
    · refine gx_iload dX9_nearest_57 rfl ?_
      refine gx_istore_n (lv' := [none, some (.inr (some o1)), some (.inr (some o2)), some (.inl x101), some (.inl v4), some (.inl v5), some (.inl x101)]) dX9_nearest_59 (by decide) rfl ?_
      refine gx_iinc (y := v5 + 1) (lv' := [none, some (.inr (some o1)), some (.inr (some o2)), some (.inl x101), some (.inl v4), some (.inl (v5 + 1)), some (.inl x101)]) dX9_nearest_60 rfl rfl (by decide) rfl ?_
      refine gx_goto (tgt := 29) dX9_nearest_63 (by decide) ?_
      refine gx_mk (lv' := [none, some (.inr (some o1)), some (.inr (some o2)), some (.inl x101), some (.inl v4), some (.inl (v5 + 1)), none]) [false, true, true, true, true, true, false] rfl ?_
      exact ih x101 (v5 + 1)
    refine gx_iload dX9_nearest_51 rfl ?_
    refine gx_iload_n dX9_nearest_53 rfl ?_
    refine gx_icmp_ge (tgt := 60) dX9_nearest_54 (by decide) ?_ ?_
    · refine gx_iinc (y := v5 + 1) (lv' := [none, some (.inr (some o1)), some (.inr (some o2)), some (.inl v3), some (.inl v4), some (.inl (v5 + 1)), some (.inl x101)]) dX9_nearest_60 rfl rfl (by decide) rfl ?_
      refine gx_goto (tgt := 29) dX9_nearest_63 (by decide) ?_
      refine gx_mk (lv' := [none, some (.inr (some o1)), some (.inr (some o2)), some (.inl v3), some (.inl v4), some (.inl (v5 + 1)), none]) [false, true, true, true, true, true, false] rfl ?_
      exact ih v3 (v5 + 1)
    refine gx_iload dX9_nearest_57 rfl ?_
    refine gx_istore_n (lv' := [none, some (.inr (some o1)), some (.inr (some o2)), some (.inl x101), some (.inl v4), some (.inl v5), some (.inl x101)]) dX9_nearest_59 (by decide) rfl ?_
    refine gx_iinc (y := v5 + 1) (lv' := [none, some (.inr (some o1)), some (.inr (some o2)), some (.inl x101), some (.inl v4), some (.inl (v5 + 1)), some (.inl x101)]) dX9_nearest_60 rfl rfl (by decide) rfl ?_
    refine gx_goto (tgt := 29) dX9_nearest_63 (by decide) ?_
    refine gx_mk (lv' := [none, some (.inr (some o1)), some (.inr (some o2)), some (.inl x101), some (.inl v4), some (.inl (v5 + 1)), none]) [false, true, true, true, true, true, false] rfl ?_
    exact ih x101 (v5 + 1)
def f_X9_nearest (n : Nat) (o1 : Nat) (o2 : Nat) (M : HMem) : Option Int32 :=
  f_X9_nearest_L29 n o1 o2 (hmin (f_X1_last o1 M) (f_X1_last o2 M)) M n (-2) (hmax (M o1 3) (M o2 3))
set_option maxRecDepth 20000 in
theorem w_X9_nearest (d : Nat) (hd : 3 ≤ d) (n : Nat) (o1 : Nat) (h1 : isCo o1) (o2 : Nat) (h2 : isCo o2) (M : HMem) : GX iX9_nearest d (eP M) (f_X9_nearest n o1 o2 M) 0 [some (.inr (some 32)), some (.inr (some o1)), some (.inr (some o2)), none, none, none, none] [] M := by
  rw [f_X9_nearest]
  refine gx_bipush (x := (-2)) (by decide) dX9_nearest_0 ?_
  refine gx_istore_n (lv' := [some (.inr (some 32)), some (.inr (some o1)), some (.inr (some o2)), some (.inl (-2)), none, none, none]) dX9_nearest_2 (by decide) rfl ?_
  refine gx_aload_n dX9_nearest_3 rfl ?_
  refine gx_cV_it (av := []) (st := []) ml_X9_34 (by omega) (shC h1) (c_X1_last (d - 1) (by omega) o1 h1 M) rfl rfl (Nat.le_of_ble_eq_true rfl) dX9_nearest_4 ?_
  refine gx_aload_n dX9_nearest_7 rfl ?_
  refine gx_cV_it (av := []) (st := [.inl (f_X1_last o1 M)]) ml_X9_34 (by omega) (shC h2) (c_X1_last (d - 1) (by omega) o2 h2 M) rfl rfl (Nat.le_of_ble_eq_true rfl) dX9_nearest_8 ?_
  refine gx_min mw999 mw717 mw189 mcode_min (by omega) (Nat.le_of_ble_eq_true rfl) dX9_nearest_11 ?_
  refine gx_istore (lv' := [some (.inr (some 32)), some (.inr (some o1)), some (.inr (some o2)), some (.inl (-2)), some (.inl (hmin (f_X1_last o1 M) (f_X1_last o2 M))), none, none]) dX9_nearest_14 (by decide) rfl ?_
  refine gx_aload_n dX9_nearest_16 rfl ?_
  refine gx_getI fl_X9_28 (shC h1) rfl dX9_nearest_17 ?_
  refine gx_aload_n dX9_nearest_20 rfl ?_
  refine gx_getI fl_X9_28 (shC h2) rfl dX9_nearest_21 ?_
  refine gx_max mw1000 mw832 mw189 mcode_max (by omega) (Nat.le_of_ble_eq_true rfl) dX9_nearest_24 ?_
  refine gx_istore (lv' := [some (.inr (some 32)), some (.inr (some o1)), some (.inr (some o2)), some (.inl (-2)), some (.inl (hmin (f_X1_last o1 M) (f_X1_last o2 M))), some (.inl (hmax (M o1 3) (M o2 3))), none]) dX9_nearest_27 (by decide) rfl ?_
  refine gx_mk (lv' := [none, some (.inr (some o1)), some (.inr (some o2)), some (.inl (-2)), some (.inl (hmin (f_X1_last o1 M) (f_X1_last o2 M))), some (.inl (hmax (M o1 3) (M o2 3))), none]) [false, true, true, true, true, true, false] rfl ?_
  exact w_X9_nearest_L29 d hd n M o1 h1 o2 h2 (hmin (f_X1_last o1 M) (f_X1_last o2 M)) n (-2) (hmax (M o1 3) (M o2 3))
theorem c_X9_nearest (d : Nat) (hd : 3 ≤ d) (n : Nat) (o1 : Nat) (h1 : isCo o1) (o2 : Nat) (h2 : isCo o2) (M : HMem) : MX iX9_nearest d [.inr (some 32), .inr (some o1), .inr (some o2)] M (eP M) (f_X9_nearest n o1 o2 M) := mx_of (by decide +kernel) (Nat.le_of_ble_eq_true rfl) rfl (w_X9_nearest d hd n o1 h1 o2 h2 M)
-- X9_firstWithin
def f_X9_firstWithin_L26 (n : Nat) (o1 : Nat) (o2 : Nat) (v3 : Int32) (v4 : Int32) (M : HMem) : Nat → Int32 → Option Int32
  | 0, _ => none
  | k + 1, v5 =>
    if v4 < v5 then
      (some (-2))
    else
      (hb1 (f_X9_stepsApart o1 o2 v5 M) (fun x101 =>
      if v3 < x101 then
        (f_X9_firstWithin_L26 n o1 o2 v3 v4 M k (v5 + 1))
      else
        (some v5)))
set_option maxRecDepth 20000 in
theorem w_X9_firstWithin_L26 (d : Nat) (hd : 3 ≤ d) (n : Nat) (M : HMem) (o1 : Nat) (h1 : isCo o1) (o2 : Nat) (h2 : isCo o2) (v3 : Int32) (v4 : Int32) : ∀ (k : Nat) (v5 : Int32), GX iX9_firstWithin d (eP M) (f_X9_firstWithin_L26 n o1 o2 v3 v4 M k v5) 26 [none, some (.inr (some o1)), some (.inr (some o2)), some (.inl v3), some (.inl v4), some (.inl v5)] [] M := by
  intro k
  induction k with
  | zero => intro v5; exact gx_none
  | succ k ih =>
    intro v5
    rw [f_X9_firstWithin_L26]
    refine gx_iload dX9_firstWithin_26 rfl ?_
    refine gx_iload dX9_firstWithin_28 rfl ?_
    refine gx_icmp_gt (tgt := 53) dX9_firstWithin_30 (by decide) ?_ ?_
    · refine gx_bipush (x := (-2)) (by decide) dX9_firstWithin_53 ?_
      exact gx_iret rfl rfl dX9_firstWithin_55
    refine gx_aload_n dX9_firstWithin_33 rfl ?_
    refine gx_aload_n dX9_firstWithin_34 rfl ?_
    refine gx_iload dX9_firstWithin_35 rfl ?_
    refine gx_cS_ip (av := [.inr (some o1), .inr (some o2), .inl v5]) (st := []) ml_X9_58 (by omega) (c_X9_stepsApart (d - 1) (by omega) o1 h1 o2 h2 v5 M) rfl rfl (Nat.le_of_ble_eq_true rfl) dX9_firstWithin_37 (fun x101 => ?_)
    refine gx_iload_n dX9_firstWithin_40 rfl ?_
    refine gx_icmp_gt (tgt := 47) dX9_firstWithin_41 (by decide) ?_ ?_
    · refine gx_iinc (y := v5 + 1) (lv' := [none, some (.inr (some o1)), some (.inr (some o2)), some (.inl v3), some (.inl v4), some (.inl (v5 + 1))]) dX9_firstWithin_47 rfl rfl (by decide) rfl ?_
      refine gx_goto (tgt := 26) dX9_firstWithin_50 (by decide) ?_
      refine gx_mk (lv' := [none, some (.inr (some o1)), some (.inr (some o2)), some (.inl v3), some (.inl v4), some (.inl (v5 + 1))]) [false, true, true, true, true, true] rfl ?_
      exact ih (v5 + 1)
    refine gx_iload dX9_firstWithin_44 rfl ?_
    exact gx_iret rfl rfl dX9_firstWithin_46
def f_X9_firstWithin (n : Nat) (o1 : Nat) (o2 : Nat) (v3 : Int32) (M : HMem) : Option Int32 :=
  f_X9_firstWithin_L26 n o1 o2 v3 (hmin (f_X1_last o1 M) (f_X1_last o2 M)) M n (hmax (M o1 3) (M o2 3))
set_option maxRecDepth 20000 in
theorem w_X9_firstWithin (d : Nat) (hd : 3 ≤ d) (n : Nat) (o1 : Nat) (h1 : isCo o1) (o2 : Nat) (h2 : isCo o2) (v3 : Int32) (M : HMem) : GX iX9_firstWithin d (eP M) (f_X9_firstWithin n o1 o2 v3 M) 0 [some (.inr (some 32)), some (.inr (some o1)), some (.inr (some o2)), some (.inl v3), none, none] [] M := by
  rw [f_X9_firstWithin]
  refine gx_aload_n dX9_firstWithin_0 rfl ?_
  refine gx_cV_it (av := []) (st := []) ml_X9_34 (by omega) (shC h1) (c_X1_last (d - 1) (by omega) o1 h1 M) rfl rfl (Nat.le_of_ble_eq_true rfl) dX9_firstWithin_1 ?_
  refine gx_aload_n dX9_firstWithin_4 rfl ?_
  refine gx_cV_it (av := []) (st := [.inl (f_X1_last o1 M)]) ml_X9_34 (by omega) (shC h2) (c_X1_last (d - 1) (by omega) o2 h2 M) rfl rfl (Nat.le_of_ble_eq_true rfl) dX9_firstWithin_5 ?_
  refine gx_min mw999 mw717 mw189 mcode_min (by omega) (Nat.le_of_ble_eq_true rfl) dX9_firstWithin_8 ?_
  refine gx_istore (lv' := [some (.inr (some 32)), some (.inr (some o1)), some (.inr (some o2)), some (.inl v3), some (.inl (hmin (f_X1_last o1 M) (f_X1_last o2 M))), none]) dX9_firstWithin_11 (by decide) rfl ?_
  refine gx_aload_n dX9_firstWithin_13 rfl ?_
  refine gx_getI fl_X9_28 (shC h1) rfl dX9_firstWithin_14 ?_
  refine gx_aload_n dX9_firstWithin_17 rfl ?_
  refine gx_getI fl_X9_28 (shC h2) rfl dX9_firstWithin_18 ?_
  refine gx_max mw1000 mw832 mw189 mcode_max (by omega) (Nat.le_of_ble_eq_true rfl) dX9_firstWithin_21 ?_
  refine gx_istore (lv' := [some (.inr (some 32)), some (.inr (some o1)), some (.inr (some o2)), some (.inl v3), some (.inl (hmin (f_X1_last o1 M) (f_X1_last o2 M))), some (.inl (hmax (M o1 3) (M o2 3)))]) dX9_firstWithin_24 (by decide) rfl ?_
  refine gx_mk (lv' := [none, some (.inr (some o1)), some (.inr (some o2)), some (.inl v3), some (.inl (hmin (f_X1_last o1 M) (f_X1_last o2 M))), some (.inl (hmax (M o1 3) (M o2 3)))]) [false, true, true, true, true, true] rfl ?_
  exact w_X9_firstWithin_L26 d hd n M o1 h1 o2 h2 v3 (hmin (f_X1_last o1 M) (f_X1_last o2 M)) n (hmax (M o1 3) (M o2 3))
theorem c_X9_firstWithin (d : Nat) (hd : 3 ≤ d) (n : Nat) (o1 : Nat) (h1 : isCo o1) (o2 : Nat) (h2 : isCo o2) (v3 : Int32) (M : HMem) : MX iX9_firstWithin d [.inr (some 32), .inr (some o1), .inr (some o2), .inl v3] M (eP M) (f_X9_firstWithin n o1 o2 v3 M) := mx_of (by decide +kernel) (Nat.le_of_ble_eq_true rfl) rfl (w_X9_firstWithin d hd n o1 h1 o2 h2 v3 M)
-- X9_timesWithin
def f_X9_timesWithin_L29 (n : Nat) (o1 : Nat) (o2 : Nat) (v3 : Int32) (v5 : Int32) (M : HMem) : Nat → Int32 → Int32 → Option Int32
  | 0, _, _ => none
  | k + 1, v4, v6 =>
    if v5 < v6 then
      (some v4)
    else
      (hb1 (f_X9_stepsApart o1 o2 v6 M) (fun x101 =>
      if v3 < x101 then
        (f_X9_timesWithin_L29 n o1 o2 v3 v5 M k v4 (v6 + 1))
      else
        (f_X9_timesWithin_L29 n o1 o2 v3 v5 M k (v4 + 1) (v6 + 1))))
set_option maxRecDepth 20000 in
theorem w_X9_timesWithin_L29 (d : Nat) (hd : 3 ≤ d) (n : Nat) (M : HMem) (o1 : Nat) (h1 : isCo o1) (o2 : Nat) (h2 : isCo o2) (v3 : Int32) (v5 : Int32) : ∀ (k : Nat) (v4 : Int32) (v6 : Int32), GX iX9_timesWithin d (eP M) (f_X9_timesWithin_L29 n o1 o2 v3 v5 M k v4 v6) 29 [none, some (.inr (some o1)), some (.inr (some o2)), some (.inl v3), some (.inl v4), some (.inl v5), some (.inl v6)] [] M := by
  intro k
  induction k with
  | zero => intro v4 v6; exact gx_none
  | succ k ih =>
    intro v4 v6
    rw [f_X9_timesWithin_L29]
    refine gx_iload dX9_timesWithin_29 rfl ?_
    refine gx_iload dX9_timesWithin_31 rfl ?_
    refine gx_icmp_gt (tgt := 56) dX9_timesWithin_33 (by decide) ?_ ?_
    · refine gx_iload dX9_timesWithin_56 rfl ?_
      exact gx_iret rfl rfl dX9_timesWithin_58
    refine gx_aload_n dX9_timesWithin_36 rfl ?_
    refine gx_aload_n dX9_timesWithin_37 rfl ?_
    refine gx_iload dX9_timesWithin_38 rfl ?_
    refine gx_cS_ip (av := [.inr (some o1), .inr (some o2), .inl v6]) (st := []) ml_X9_58 (by omega) (c_X9_stepsApart (d - 1) (by omega) o1 h1 o2 h2 v6 M) rfl rfl (Nat.le_of_ble_eq_true rfl) dX9_timesWithin_40 (fun x101 => ?_)
    refine gx_iload_n dX9_timesWithin_43 rfl ?_
    refine gx_icmp_gt (tgt := 50) dX9_timesWithin_44 (by decide) ?_ ?_
    · refine gx_iinc (y := v6 + 1) (lv' := [none, some (.inr (some o1)), some (.inr (some o2)), some (.inl v3), some (.inl v4), some (.inl v5), some (.inl (v6 + 1))]) dX9_timesWithin_50 rfl rfl (by decide) rfl ?_
      refine gx_goto (tgt := 29) dX9_timesWithin_53 (by decide) ?_
      refine gx_mk (lv' := [none, some (.inr (some o1)), some (.inr (some o2)), some (.inl v3), some (.inl v4), some (.inl v5), some (.inl (v6 + 1))]) [false, true, true, true, true, true, true] rfl ?_
      exact ih v4 (v6 + 1)
    refine gx_iinc (y := v4 + 1) (lv' := [none, some (.inr (some o1)), some (.inr (some o2)), some (.inl v3), some (.inl (v4 + 1)), some (.inl v5), some (.inl v6)]) dX9_timesWithin_47 rfl rfl (by decide) rfl ?_
    refine gx_iinc (y := v6 + 1) (lv' := [none, some (.inr (some o1)), some (.inr (some o2)), some (.inl v3), some (.inl (v4 + 1)), some (.inl v5), some (.inl (v6 + 1))]) dX9_timesWithin_50 rfl rfl (by decide) rfl ?_
    refine gx_goto (tgt := 29) dX9_timesWithin_53 (by decide) ?_
    refine gx_mk (lv' := [none, some (.inr (some o1)), some (.inr (some o2)), some (.inl v3), some (.inl (v4 + 1)), some (.inl v5), some (.inl (v6 + 1))]) [false, true, true, true, true, true, true] rfl ?_
    exact ih (v4 + 1) (v6 + 1)
def f_X9_timesWithin (n : Nat) (o1 : Nat) (o2 : Nat) (v3 : Int32) (M : HMem) : Option Int32 :=
  f_X9_timesWithin_L29 n o1 o2 v3 (hmin (f_X1_last o1 M) (f_X1_last o2 M)) M n 0 (hmax (M o1 3) (M o2 3))
set_option maxRecDepth 20000 in
theorem w_X9_timesWithin (d : Nat) (hd : 3 ≤ d) (n : Nat) (o1 : Nat) (h1 : isCo o1) (o2 : Nat) (h2 : isCo o2) (v3 : Int32) (M : HMem) : GX iX9_timesWithin d (eP M) (f_X9_timesWithin n o1 o2 v3 M) 0 [some (.inr (some 32)), some (.inr (some o1)), some (.inr (some o2)), some (.inl v3), none, none, none] [] M := by
  rw [f_X9_timesWithin]
  refine gx_iconst (x := 0) (by decide) dX9_timesWithin_0 ?_
  refine gx_istore (lv' := [some (.inr (some 32)), some (.inr (some o1)), some (.inr (some o2)), some (.inl v3), some (.inl 0), none, none]) dX9_timesWithin_1 (by decide) rfl ?_
  refine gx_aload_n dX9_timesWithin_3 rfl ?_
  refine gx_cV_it (av := []) (st := []) ml_X9_34 (by omega) (shC h1) (c_X1_last (d - 1) (by omega) o1 h1 M) rfl rfl (Nat.le_of_ble_eq_true rfl) dX9_timesWithin_4 ?_
  refine gx_aload_n dX9_timesWithin_7 rfl ?_
  refine gx_cV_it (av := []) (st := [.inl (f_X1_last o1 M)]) ml_X9_34 (by omega) (shC h2) (c_X1_last (d - 1) (by omega) o2 h2 M) rfl rfl (Nat.le_of_ble_eq_true rfl) dX9_timesWithin_8 ?_
  refine gx_min mw999 mw717 mw189 mcode_min (by omega) (Nat.le_of_ble_eq_true rfl) dX9_timesWithin_11 ?_
  refine gx_istore (lv' := [some (.inr (some 32)), some (.inr (some o1)), some (.inr (some o2)), some (.inl v3), some (.inl 0), some (.inl (hmin (f_X1_last o1 M) (f_X1_last o2 M))), none]) dX9_timesWithin_14 (by decide) rfl ?_
  refine gx_aload_n dX9_timesWithin_16 rfl ?_
  refine gx_getI fl_X9_28 (shC h1) rfl dX9_timesWithin_17 ?_
  refine gx_aload_n dX9_timesWithin_20 rfl ?_
  refine gx_getI fl_X9_28 (shC h2) rfl dX9_timesWithin_21 ?_
  refine gx_max mw1000 mw832 mw189 mcode_max (by omega) (Nat.le_of_ble_eq_true rfl) dX9_timesWithin_24 ?_
  refine gx_istore (lv' := [some (.inr (some 32)), some (.inr (some o1)), some (.inr (some o2)), some (.inl v3), some (.inl 0), some (.inl (hmin (f_X1_last o1 M) (f_X1_last o2 M))), some (.inl (hmax (M o1 3) (M o2 3)))]) dX9_timesWithin_27 (by decide) rfl ?_
  refine gx_mk (lv' := [none, some (.inr (some o1)), some (.inr (some o2)), some (.inl v3), some (.inl 0), some (.inl (hmin (f_X1_last o1 M) (f_X1_last o2 M))), some (.inl (hmax (M o1 3) (M o2 3)))]) [false, true, true, true, true, true, true] rfl ?_
  exact w_X9_timesWithin_L29 d hd n M o1 h1 o2 h2 v3 (hmin (f_X1_last o1 M) (f_X1_last o2 M)) n 0 (hmax (M o1 3) (M o2 3))
theorem c_X9_timesWithin (d : Nat) (hd : 3 ≤ d) (n : Nat) (o1 : Nat) (h1 : isCo o1) (o2 : Nat) (h2 : isCo o2) (v3 : Int32) (M : HMem) : MX iX9_timesWithin d [.inr (some 32), .inr (some o1), .inr (some o2), .inl v3] M (eP M) (f_X9_timesWithin n o1 o2 v3 M) := mx_of (by decide +kernel) (Nat.le_of_ble_eq_true rfl) rfl (w_X9_timesWithin d hd n o1 h1 o2 h2 v3 M)
-- X9_fullestPlace
def f_X9_fullestPlace_J42 (n : Nat) (r8 : Int32 → Int32 → Int32 → Option Int32) (v1 : Int32) (v2 : Int32) (v3 : Int32) (v4 : Int32) (s0 : Int32) (M : HMem) : Option Int32 :=
  hb1 (f_X0_creaturesAt n s0 v1 M) (fun x101 =>
  if v3 < x101 then
    (r8 s0 x101 (v4 + 1))
  else
    (if x101 = v3 then
      (if x101 ≤ 0 then
        (r8 v2 v3 (v4 + 1))
      else
        (if v2 ≤ s0 then
          (r8 v2 v3 (v4 + 1))
        else
          (r8 s0 x101 (v4 + 1))))
    else
      (r8 v2 v3 (v4 + 1))))
set_option maxRecDepth 20000 in
theorem w_X9_fullestPlace_J42 (d : Nat) (hd : 4 ≤ d) (n : Nat) (r8 : Int32 → Int32 → Int32 → Option Int32) (M : HMem) (v1 : Int32) (v2 : Int32) (v3 : Int32) (v4 : Int32) (s0 : Int32) (hr8 : ∀ (v2 : Int32) (v3 : Int32) (v4 : Int32), GX iX9_fullestPlace d (eP M) (r8 v2 v3 v4) 8 [some (.inr (some 32)), some (.inl v1), some (.inl v2), some (.inl v3), some (.inl v4), none, none, none] [] M) : GX iX9_fullestPlace d (eP M) (f_X9_fullestPlace_J42 n r8 v1 v2 v3 v4 s0 M) 42 [some (.inr (some 32)), some (.inl v1), some (.inl v2), some (.inl v3), some (.inl v4), none, none, none] [.inl s0] M := by
  rw [f_X9_fullestPlace_J42]
  refine gx_istore (lv' := [some (.inr (some 32)), some (.inl v1), some (.inl v2), some (.inl v3), some (.inl v4), none, some (.inl s0), none]) dX9_fullestPlace_42 (by decide) rfl ?_
  refine gx_aload_n dX9_fullestPlace_44 rfl ?_
  refine gx_getR fl_X9_18 sh32 rfl dX9_fullestPlace_45 ?_
  refine gx_iload dX9_fullestPlace_48 rfl ?_
  refine gx_iload_n dX9_fullestPlace_50 rfl ?_
  refine gx_cV_ip (av := [.inl s0, .inl v1]) (st := []) ml_X9_68 (by omega) sh3 (c_X0_creaturesAt (d - 1) (by omega) n s0 v1 M) rfl rfl (Nat.le_of_ble_eq_true rfl) dX9_fullestPlace_51 (fun x101 => ?_)
  refine gx_istore (lv' := [some (.inr (some 32)), some (.inl v1), some (.inl v2), some (.inl v3), some (.inl v4), none, some (.inl s0), some (.inl x101)]) dX9_fullestPlace_54 (by decide) rfl ?_
  refine gx_iload dX9_fullestPlace_56 rfl ?_
  refine gx_iload_n dX9_fullestPlace_58 rfl ?_
  refine gx_icmp_gt (tgt := 79) dX9_fullestPlace_59 (by decide) ?_ ?_
  · refine gx_iload dX9_fullestPlace_79 rfl ?_
    refine gx_istore_n (lv' := [some (.inr (some 32)), some (.inl v1), some (.inl s0), some (.inl v3), some (.inl v4), none, some (.inl s0), some (.inl x101)]) dX9_fullestPlace_81 (by decide) rfl ?_
    refine gx_iload dX9_fullestPlace_82 rfl ?_
    refine gx_istore_n (lv' := [some (.inr (some 32)), some (.inl v1), some (.inl s0), some (.inl x101), some (.inl v4), none, some (.inl s0), some (.inl x101)]) dX9_fullestPlace_84 (by decide) rfl ?_
    refine gx_iinc (y := v4 + 1) (lv' := [some (.inr (some 32)), some (.inl v1), some (.inl s0), some (.inl x101), some (.inl (v4 + 1)), none, some (.inl s0), some (.inl x101)]) dX9_fullestPlace_85 rfl rfl (by decide) rfl ?_
    refine gx_goto (tgt := 8) dX9_fullestPlace_88 (by decide) ?_
    refine gx_mk (lv' := [some (.inr (some 32)), some (.inl v1), some (.inl s0), some (.inl x101), some (.inl (v4 + 1)), none, none, none]) [true, true, true, true, true, false, false, false] rfl ?_
    exact hr8 s0 x101 (v4 + 1)
  refine gx_iload dX9_fullestPlace_62 rfl ?_
  refine gx_iload_n dX9_fullestPlace_64 rfl ?_
  refine gx_icmp_ne (tgt := 85) dX9_fullestPlace_65 (by decide) ?_ ?_
  · refine gx_iinc (y := v4 + 1) (lv' := [some (.inr (some 32)), some (.inl v1), some (.inl v2), some (.inl v3), some (.inl (v4 + 1)), none, some (.inl s0), some (.inl x101)]) dX9_fullestPlace_85 rfl rfl (by decide) rfl ?_
    refine gx_goto (tgt := 8) dX9_fullestPlace_88 (by decide) ?_
    refine gx_mk (lv' := [some (.inr (some 32)), some (.inl v1), some (.inl v2), some (.inl v3), some (.inl (v4 + 1)), none, none, none]) [true, true, true, true, true, false, false, false] rfl ?_
    exact hr8 v2 v3 (v4 + 1)
  refine gx_iload dX9_fullestPlace_68 rfl ?_
  refine gx_if_le (tgt := 85) dX9_fullestPlace_70 (by decide) ?_ ?_
  · refine gx_iinc (y := v4 + 1) (lv' := [some (.inr (some 32)), some (.inl v1), some (.inl v2), some (.inl v3), some (.inl (v4 + 1)), none, some (.inl s0), some (.inl x101)]) dX9_fullestPlace_85 rfl rfl (by decide) rfl ?_
    refine gx_goto (tgt := 8) dX9_fullestPlace_88 (by decide) ?_
    refine gx_mk (lv' := [some (.inr (some 32)), some (.inl v1), some (.inl v2), some (.inl v3), some (.inl (v4 + 1)), none, none, none]) [true, true, true, true, true, false, false, false] rfl ?_
    exact hr8 v2 v3 (v4 + 1)
  refine gx_iload dX9_fullestPlace_73 rfl ?_
  refine gx_iload_n dX9_fullestPlace_75 rfl ?_
  refine gx_icmp_ge (tgt := 85) dX9_fullestPlace_76 (by decide) ?_ ?_
  · refine gx_iinc (y := v4 + 1) (lv' := [some (.inr (some 32)), some (.inl v1), some (.inl v2), some (.inl v3), some (.inl (v4 + 1)), none, some (.inl s0), some (.inl x101)]) dX9_fullestPlace_85 rfl rfl (by decide) rfl ?_
    refine gx_goto (tgt := 8) dX9_fullestPlace_88 (by decide) ?_
    refine gx_mk (lv' := [some (.inr (some 32)), some (.inl v1), some (.inl v2), some (.inl v3), some (.inl (v4 + 1)), none, none, none]) [true, true, true, true, true, false, false, false] rfl ?_
    exact hr8 v2 v3 (v4 + 1)
  refine gx_iload dX9_fullestPlace_79 rfl ?_
  refine gx_istore_n (lv' := [some (.inr (some 32)), some (.inl v1), some (.inl s0), some (.inl v3), some (.inl v4), none, some (.inl s0), some (.inl x101)]) dX9_fullestPlace_81 (by decide) rfl ?_
  refine gx_iload dX9_fullestPlace_82 rfl ?_
  refine gx_istore_n (lv' := [some (.inr (some 32)), some (.inl v1), some (.inl s0), some (.inl x101), some (.inl v4), none, some (.inl s0), some (.inl x101)]) dX9_fullestPlace_84 (by decide) rfl ?_
  refine gx_iinc (y := v4 + 1) (lv' := [some (.inr (some 32)), some (.inl v1), some (.inl s0), some (.inl x101), some (.inl (v4 + 1)), none, some (.inl s0), some (.inl x101)]) dX9_fullestPlace_85 rfl rfl (by decide) rfl ?_
  refine gx_goto (tgt := 8) dX9_fullestPlace_88 (by decide) ?_
  refine gx_mk (lv' := [some (.inr (some 32)), some (.inl v1), some (.inl s0), some (.inl x101), some (.inl (v4 + 1)), none, none, none]) [true, true, true, true, true, false, false, false] rfl ?_
  exact hr8 s0 x101 (v4 + 1)
def f_X9_fullestPlace_L8 (n : Nat) (v1 : Int32) (M : HMem) : Nat → Int32 → Int32 → Int32 → Option Int32
  | 0, _, _, _ => none
  | k + 1, v2, v3, v4 =>
    if 8 ≤ v4 then
      (some v2)
    else
      (hb1 (f_X0_laid v4 M) (fun r101 => match r101 with
        | none => (f_X9_fullestPlace_J42 n (f_X9_fullestPlace_L8 n v1 M k) v1 v2 v3 v4 (-2) M)
        | some o102 => (hb1 (f_X1_placeAt o102 v1 M) (fun x103 =>
          f_X9_fullestPlace_J42 n (f_X9_fullestPlace_L8 n v1 M k) v1 v2 v3 v4 x103 M))))
set_option maxRecDepth 20000 in
theorem w_X9_fullestPlace_L8 (d : Nat) (hd : 4 ≤ d) (n : Nat) (M : HMem) (v1 : Int32) : ∀ (k : Nat) (v2 : Int32) (v3 : Int32) (v4 : Int32), GX iX9_fullestPlace d (eP M) (f_X9_fullestPlace_L8 n v1 M k v2 v3 v4) 8 [some (.inr (some 32)), some (.inl v1), some (.inl v2), some (.inl v3), some (.inl v4), none, none, none] [] M := by
  intro k
  induction k with
  | zero => intro v2 v3 v4; exact gx_none
  | succ k ih =>
    intro v2 v3 v4
    rw [f_X9_fullestPlace_L8]
    refine gx_iload dX9_fullestPlace_8 rfl ?_
    refine gx_bipush (x := 8) (by decide) dX9_fullestPlace_10 ?_
    refine gx_icmp_ge (tgt := 91) dX9_fullestPlace_12 (by decide) ?_ ?_
    · refine gx_iload_n dX9_fullestPlace_91 rfl ?_
      exact gx_iret rfl rfl dX9_fullestPlace_92
    refine gx_aload_n dX9_fullestPlace_15 rfl ?_
    refine gx_getR fl_X9_18 sh32 rfl dX9_fullestPlace_16 ?_
    refine gx_iload dX9_fullestPlace_19 rfl ?_
    refine gx_cV_rp (av := [.inl v4]) (st := []) ml_X9_62 (by omega) sh3 (c_X0_laid (d - 1) (by omega) v4 M) rfl rfl (Nat.le_of_ble_eq_true rfl) dX9_fullestPlace_21 (fun r101 er101 => ?_)
    cases r101 with
    | none =>
      dsimp only
      refine gx_astoreN (lv' := [some (.inr (some 32)), some (.inl v1), some (.inl v2), some (.inl v3), some (.inl v4), some (.inr none), none, none]) dX9_fullestPlace_24 (by decide) rfl ?_
      refine gx_aloadN dX9_fullestPlace_26 rfl ?_
      refine gx_ifnonnullN dX9_fullestPlace_28 ?_
      refine gx_bipush (x := (-2)) (by decide) dX9_fullestPlace_31 ?_
      refine gx_goto (tgt := 42) dX9_fullestPlace_33 (by decide) ?_
      refine gx_mk (lv' := [some (.inr (some 32)), some (.inl v1), some (.inl v2), some (.inl v3), some (.inl v4), none, none, none]) [true, true, true, true, true, false, false, false] rfl ?_
      exact w_X9_fullestPlace_J42 d hd n (f_X9_fullestPlace_L8 n v1 M k) M v1 v2 v3 v4 (-2) ih
    | some o102 =>
      have ho102 := co_X0_laid er101
      dsimp only
      refine gx_astore (lv' := [some (.inr (some 32)), some (.inl v1), some (.inl v2), some (.inl v3), some (.inl v4), some (.inr (some o102)), none, none]) dX9_fullestPlace_24 (by decide) rfl ?_
      refine gx_aload dX9_fullestPlace_26 rfl ?_
      refine gx_ifnonnullS (tgt := 36) dX9_fullestPlace_28 (by decide) ?_
      refine gx_aload dX9_fullestPlace_36 rfl ?_
      refine gx_iload_n dX9_fullestPlace_38 rfl ?_
      refine gx_cV_ip (av := [.inl v1]) (st := []) ml_X9_38 (by omega) (shC ho102) (c_X1_placeAt (d - 1) (by omega) o102 ho102 v1 M) rfl rfl (Nat.le_of_ble_eq_true rfl) dX9_fullestPlace_39 (fun x103 => ?_)
      refine gx_mk (lv' := [some (.inr (some 32)), some (.inl v1), some (.inl v2), some (.inl v3), some (.inl v4), none, none, none]) [true, true, true, true, true, false, false, false] rfl ?_
      exact w_X9_fullestPlace_J42 d hd n (f_X9_fullestPlace_L8 n v1 M k) M v1 v2 v3 v4 x103 ih
def f_X9_fullestPlace (n : Nat) (v1 : Int32) (M : HMem) : Option Int32 :=
  f_X9_fullestPlace_L8 n v1 M n (-2) 0 0
set_option maxRecDepth 20000 in
theorem w_X9_fullestPlace (d : Nat) (hd : 4 ≤ d) (n : Nat) (v1 : Int32) (M : HMem) : GX iX9_fullestPlace d (eP M) (f_X9_fullestPlace n v1 M) 0 [some (.inr (some 32)), some (.inl v1), none, none, none, none, none, none] [] M := by
  rw [f_X9_fullestPlace]
  refine gx_bipush (x := (-2)) (by decide) dX9_fullestPlace_0 ?_
  refine gx_istore_n (lv' := [some (.inr (some 32)), some (.inl v1), some (.inl (-2)), none, none, none, none, none]) dX9_fullestPlace_2 (by decide) rfl ?_
  refine gx_iconst (x := 0) (by decide) dX9_fullestPlace_3 ?_
  refine gx_istore_n (lv' := [some (.inr (some 32)), some (.inl v1), some (.inl (-2)), some (.inl 0), none, none, none, none]) dX9_fullestPlace_4 (by decide) rfl ?_
  refine gx_iconst (x := 0) (by decide) dX9_fullestPlace_5 ?_
  refine gx_istore (lv' := [some (.inr (some 32)), some (.inl v1), some (.inl (-2)), some (.inl 0), some (.inl 0), none, none, none]) dX9_fullestPlace_6 (by decide) rfl ?_
  refine gx_mk (lv' := [some (.inr (some 32)), some (.inl v1), some (.inl (-2)), some (.inl 0), some (.inl 0), none, none, none]) [true, true, true, true, true, false, false, false] rfl ?_
  exact w_X9_fullestPlace_L8 d hd n M v1 n (-2) 0 0
theorem c_X9_fullestPlace (d : Nat) (hd : 4 ≤ d) (n : Nat) (v1 : Int32) (M : HMem) : MX iX9_fullestPlace d [.inr (some 32), .inl v1] M (eP M) (f_X9_fullestPlace n v1 M) := mx_of (by decide +kernel) (Nat.le_of_ble_eq_true rfl) rfl (w_X9_fullestPlace d hd n v1 M)
-- X9_placesOn
def f_X9_placesOn_L15 (n : Nat) (o1 : Nat) : Nat → Int32 → Int32 → HMem → Option (Int32 × HMem)
  | 0, _, _, _ => none
  | k + 1, v2, v3, M =>
    if (f_X1_last o1 M) < v3 then
      (some (v2, M))
    else
      (hb1 (f_X1_placeAt o1 v3 M) (fun x101 =>
      hb1 (f_X9_markAt x101 M) (fun x102 =>
      if x102 = 0 then
        (hb1 (f_X9_markPlace x101 1 M) (fun M103 =>
        f_X9_placesOn_L15 n o1 k (v2 + 1) (v3 + 1) M103))
      else
        (f_X9_placesOn_L15 n o1 k v2 (v3 + 1) M))))
set_option maxRecDepth 20000 in
theorem w_X9_placesOn_L15 (d : Nat) (hd : 2 ≤ d) (n : Nat) (o1 : Nat) (h1 : isCo o1) : ∀ (k : Nat) (v2 : Int32) (v3 : Int32) (M : HMem), GX iX9_placesOn d eI (f_X9_placesOn_L15 n o1 k v2 v3 M) 15 [some (.inr (some 32)), some (.inr (some o1)), some (.inl v2), some (.inl v3), none] [] M := by
  intro k
  induction k with
  | zero => intro v2 v3 M; exact gx_none
  | succ k ih =>
    intro v2 v3 M
    rw [f_X9_placesOn_L15]
    refine gx_iload_n dX9_placesOn_15 rfl ?_
    refine gx_aload_n dX9_placesOn_16 rfl ?_
    refine gx_cV_it (av := []) (st := [.inl v3]) ml_X9_34 (by omega) (shC h1) (c_X1_last (d - 1) (by omega) o1 h1 M) rfl rfl (Nat.le_of_ble_eq_true rfl) dX9_placesOn_17 ?_
    refine gx_icmp_gt (tgt := 55) dX9_placesOn_20 (by decide) ?_ ?_
    · refine gx_iload_n dX9_placesOn_55 rfl ?_
      exact gx_iret rfl rfl dX9_placesOn_56
    refine gx_aload_n dX9_placesOn_23 rfl ?_
    refine gx_iload_n dX9_placesOn_24 rfl ?_
    refine gx_cV_ip (av := [.inl v3]) (st := []) ml_X9_38 (by omega) (shC h1) (c_X1_placeAt (d - 1) (by omega) o1 h1 v3 M) rfl rfl (Nat.le_of_ble_eq_true rfl) dX9_placesOn_25 (fun x101 => ?_)
    refine gx_istore (lv' := [some (.inr (some 32)), some (.inr (some o1)), some (.inl v2), some (.inl v3), some (.inl x101)]) dX9_placesOn_28 (by decide) rfl ?_
    refine gx_aload_n dX9_placesOn_30 rfl ?_
    refine gx_iload dX9_placesOn_31 rfl ?_
    refine gx_cV_ip (av := [.inl x101]) (st := []) ml_X9_46 (by omega) sh32 (c_X9_markAt (d - 1) (by omega) x101 M) rfl rfl (Nat.le_of_ble_eq_true rfl) dX9_placesOn_33 (fun x102 => ?_)
    refine gx_if_ne (tgt := 49) dX9_placesOn_36 (by decide) ?_ ?_
    · refine gx_iinc (y := v3 + 1) (lv' := [some (.inr (some 32)), some (.inr (some o1)), some (.inl v2), some (.inl (v3 + 1)), some (.inl x101)]) dX9_placesOn_49 rfl rfl (by decide) rfl ?_
      refine gx_goto (tgt := 15) dX9_placesOn_52 (by decide) ?_
      refine gx_mk (lv' := [some (.inr (some 32)), some (.inr (some o1)), some (.inl v2), some (.inl (v3 + 1)), none]) [true, true, true, true, false] rfl ?_
      exact ih v2 (v3 + 1) M
    refine gx_iinc (y := v2 + 1) (lv' := [some (.inr (some 32)), some (.inr (some o1)), some (.inl (v2 + 1)), some (.inl v3), some (.inl x101)]) dX9_placesOn_39 rfl rfl (by decide) rfl ?_
    refine gx_aload_n dX9_placesOn_42 rfl ?_
    refine gx_iload dX9_placesOn_43 rfl ?_
    refine gx_iconst (x := 1) (by decide) dX9_placesOn_45 ?_
    refine gx_cV_vm (av := [.inl x101, .inl 1]) (st := []) ml_X9_42 (by omega) sh32 (c_X9_markPlace (d - 1) (by omega) x101 1 M) rfl rfl (Nat.le_of_ble_eq_true rfl) dX9_placesOn_46 (fun M103 => ?_)
    refine gx_iinc (y := v3 + 1) (lv' := [some (.inr (some 32)), some (.inr (some o1)), some (.inl (v2 + 1)), some (.inl (v3 + 1)), some (.inl x101)]) dX9_placesOn_49 rfl rfl (by decide) rfl ?_
    refine gx_goto (tgt := 15) dX9_placesOn_52 (by decide) ?_
    refine gx_mk (lv' := [some (.inr (some 32)), some (.inr (some o1)), some (.inl (v2 + 1)), some (.inl (v3 + 1)), none]) [true, true, true, true, false] rfl ?_
    exact ih (v2 + 1) (v3 + 1) M103
def f_X9_placesOn (n : Nat) (o1 : Nat) (M : HMem) : Option (Int32 × HMem) :=
  hb1 (f_J7_fill_53178 n 33 192 0 M) (fun M101 =>
  f_X9_placesOn_L15 n o1 n 0 (M101 o1 3) M101)
set_option maxRecDepth 20000 in
theorem w_X9_placesOn (d : Nat) (hd : 2 ≤ d) (n : Nat) (o1 : Nat) (h1 : isCo o1) (M : HMem) : GX iX9_placesOn d eI (f_X9_placesOn n o1 M) 0 [some (.inr (some 32)), some (.inr (some o1)), none, none, none] [] M := by
  rw [f_X9_placesOn]
  refine gx_aload_n dX9_placesOn_0 rfl ?_
  refine gx_getR fl_X9_9 sh32 rfl dX9_placesOn_1 ?_
  refine gx_iconst (x := 0) (by decide) dX9_placesOn_4 ?_
  refine gx_cS_vm (av := [.inr (some 33), .inl 0]) (st := []) ml_X9_22 (by omega) (c_J7_fill_53178 (d - 1) (by omega) n 33 192 sh33 0 M) rfl rfl (Nat.le_of_ble_eq_true rfl) dX9_placesOn_5 (fun M101 => ?_)
  refine gx_iconst (x := 0) (by decide) dX9_placesOn_8 ?_
  refine gx_istore_n (lv' := [some (.inr (some 32)), some (.inr (some o1)), some (.inl 0), none, none]) dX9_placesOn_9 (by decide) rfl ?_
  refine gx_aload_n dX9_placesOn_10 rfl ?_
  refine gx_getI fl_X9_28 (shC h1) rfl dX9_placesOn_11 ?_
  refine gx_istore_n (lv' := [some (.inr (some 32)), some (.inr (some o1)), some (.inl 0), some (.inl (M101 o1 3)), none]) dX9_placesOn_14 (by decide) rfl ?_
  refine gx_mk (lv' := [some (.inr (some 32)), some (.inr (some o1)), some (.inl 0), some (.inl (M101 o1 3)), none]) [true, true, true, true, false] rfl ?_
  exact w_X9_placesOn_L15 d hd n o1 h1 n 0 (M101 o1 3) M101
theorem c_X9_placesOn (d : Nat) (hd : 2 ≤ d) (n : Nat) (o1 : Nat) (h1 : isCo o1) (M : HMem) : MX iX9_placesOn d [.inr (some 32), .inr (some o1)] M eI (f_X9_placesOn n o1 M) := mx_of (by decide +kernel) (Nat.le_of_ble_eq_true rfl) rfl (w_X9_placesOn d hd n o1 h1 M)
-- X9_longestStay
def f_X9_longestStay_L59 (n : Nat) (o1 : Nat) (M : HMem) : Nat → Int32 → Int32 → Option (Int32 × HMem)
  | 0, _, _ => none
  | k + 1, v2, v3 =>
    if (f_X1_last o1 M) < v3 then
      (some (v2, M))
    else
      (hb1 (f_X1_placeAt o1 v3 M) (fun x101 =>
      hb1 (f_X9_markAt x101 M) (fun x102 =>
      hb1 (f_X9_markAt v2 M) (fun x103 =>
      if x102 ≤ x103 then
        (f_X9_longestStay_L59 n o1 M k v2 (v3 + 1))
      else
        (f_X9_longestStay_L59 n o1 M k x101 (v3 + 1))))))
set_option maxRecDepth 20000 in
theorem w_X9_longestStay_L59 (d : Nat) (hd : 2 ≤ d) (n : Nat) (M : HMem) (o1 : Nat) (h1 : isCo o1) : ∀ (k : Nat) (v2 : Int32) (v3 : Int32), GX iX9_longestStay d eI (f_X9_longestStay_L59 n o1 M k v2 v3) 59 [some (.inr (some 32)), some (.inr (some o1)), some (.inl v2), some (.inl v3), none] [] M := by
  intro k
  induction k with
  | zero => intro v2 v3; exact gx_none
  | succ k ih =>
    intro v2 v3
    rw [f_X9_longestStay_L59]
    refine gx_iload_n dX9_longestStay_59 rfl ?_
    refine gx_aload_n dX9_longestStay_60 rfl ?_
    refine gx_cV_it (av := []) (st := [.inl v3]) ml_X9_34 (by omega) (shC h1) (c_X1_last (d - 1) (by omega) o1 h1 M) rfl rfl (Nat.le_of_ble_eq_true rfl) dX9_longestStay_61 ?_
    refine gx_icmp_gt (tgt := 97) dX9_longestStay_64 (by decide) ?_ ?_
    · refine gx_iload_n dX9_longestStay_97 rfl ?_
      exact gx_iret rfl rfl dX9_longestStay_98
    refine gx_aload_n dX9_longestStay_67 rfl ?_
    refine gx_iload_n dX9_longestStay_68 rfl ?_
    refine gx_cV_ip (av := [.inl v3]) (st := []) ml_X9_38 (by omega) (shC h1) (c_X1_placeAt (d - 1) (by omega) o1 h1 v3 M) rfl rfl (Nat.le_of_ble_eq_true rfl) dX9_longestStay_69 (fun x101 => ?_)
    refine gx_istore (lv' := [some (.inr (some 32)), some (.inr (some o1)), some (.inl v2), some (.inl v3), some (.inl x101)]) dX9_longestStay_72 (by decide) rfl ?_
    refine gx_aload_n dX9_longestStay_74 rfl ?_
    refine gx_iload dX9_longestStay_75 rfl ?_
    refine gx_cV_ip (av := [.inl x101]) (st := []) ml_X9_46 (by omega) sh32 (c_X9_markAt (d - 1) (by omega) x101 M) rfl rfl (Nat.le_of_ble_eq_true rfl) dX9_longestStay_77 (fun x102 => ?_)
    refine gx_aload_n dX9_longestStay_80 rfl ?_
    refine gx_iload_n dX9_longestStay_81 rfl ?_
    refine gx_cV_ip (av := [.inl v2]) (st := [.inl x102]) ml_X9_46 (by omega) sh32 (c_X9_markAt (d - 1) (by omega) v2 M) rfl rfl (Nat.le_of_ble_eq_true rfl) dX9_longestStay_82 (fun x103 => ?_)
    refine gx_icmp_le (tgt := 91) dX9_longestStay_85 (by decide) ?_ ?_
    · refine gx_iinc (y := v3 + 1) (lv' := [some (.inr (some 32)), some (.inr (some o1)), some (.inl v2), some (.inl (v3 + 1)), some (.inl x101)]) dX9_longestStay_91 rfl rfl (by decide) rfl ?_
      refine gx_goto (tgt := 59) dX9_longestStay_94 (by decide) ?_
      refine gx_mk (lv' := [some (.inr (some 32)), some (.inr (some o1)), some (.inl v2), some (.inl (v3 + 1)), none]) [true, true, true, true, false] rfl ?_
      exact ih v2 (v3 + 1)
    refine gx_iload dX9_longestStay_88 rfl ?_
    refine gx_istore_n (lv' := [some (.inr (some 32)), some (.inr (some o1)), some (.inl x101), some (.inl v3), some (.inl x101)]) dX9_longestStay_90 (by decide) rfl ?_
    refine gx_iinc (y := v3 + 1) (lv' := [some (.inr (some 32)), some (.inr (some o1)), some (.inl x101), some (.inl (v3 + 1)), some (.inl x101)]) dX9_longestStay_91 rfl rfl (by decide) rfl ?_
    refine gx_goto (tgt := 59) dX9_longestStay_94 (by decide) ?_
    refine gx_mk (lv' := [some (.inr (some 32)), some (.inr (some o1)), some (.inl x101), some (.inl (v3 + 1)), none]) [true, true, true, true, false] rfl ?_
    exact ih x101 (v3 + 1)
def f_X9_longestStay_L13 (n : Nat) (o1 : Nat) : Nat → Int32 → HMem → Option (Int32 × HMem)
  | 0, _, _ => none
  | k + 1, v2, M =>
    if (f_X1_last o1 M) < v2 then
      (hb1 (f_X1_placeAt o1 (M o1 3) M) (fun x101 =>
      f_X9_longestStay_L59 n o1 M n x101 (M o1 3)))
    else
      (hb1 (f_X1_placeAt o1 v2 M) (fun x102 =>
      hb1 (f_X9_markAt x102 M) (fun x103 =>
      hb1 (f_X9_markPlace x102 (x103 + 1) M) (fun M104 =>
      f_X9_longestStay_L13 n o1 k (v2 + 1) M104))))
set_option maxRecDepth 20000 in
theorem w_X9_longestStay_L13 (d : Nat) (hd : 2 ≤ d) (n : Nat) (o1 : Nat) (h1 : isCo o1) : ∀ (k : Nat) (v2 : Int32) (M : HMem), GX iX9_longestStay d eI (f_X9_longestStay_L13 n o1 k v2 M) 13 [some (.inr (some 32)), some (.inr (some o1)), some (.inl v2), none, none] [] M := by
  intro k
  induction k with
  | zero => intro v2 M; exact gx_none
  | succ k ih =>
    intro v2 M
    rw [f_X9_longestStay_L13]
    refine gx_iload_n dX9_longestStay_13 rfl ?_
    refine gx_aload_n dX9_longestStay_14 rfl ?_
    refine gx_cV_it (av := []) (st := [.inl v2]) ml_X9_34 (by omega) (shC h1) (c_X1_last (d - 1) (by omega) o1 h1 M) rfl rfl (Nat.le_of_ble_eq_true rfl) dX9_longestStay_15 ?_
    refine gx_icmp_gt (tgt := 45) dX9_longestStay_18 (by decide) ?_ ?_
    · refine gx_aload_n dX9_longestStay_45 rfl ?_
      refine gx_aload_n dX9_longestStay_46 rfl ?_
      refine gx_getI fl_X9_28 (shC h1) rfl dX9_longestStay_47 ?_
      refine gx_cV_ip (av := [.inl (M o1 3)]) (st := []) ml_X9_38 (by omega) (shC h1) (c_X1_placeAt (d - 1) (by omega) o1 h1 (M o1 3) M) rfl rfl (Nat.le_of_ble_eq_true rfl) dX9_longestStay_50 (fun x101 => ?_)
      refine gx_istore_n (lv' := [some (.inr (some 32)), some (.inr (some o1)), some (.inl x101), none, none]) dX9_longestStay_53 (by decide) rfl ?_
      refine gx_aload_n dX9_longestStay_54 rfl ?_
      refine gx_getI fl_X9_28 (shC h1) rfl dX9_longestStay_55 ?_
      refine gx_istore_n (lv' := [some (.inr (some 32)), some (.inr (some o1)), some (.inl x101), some (.inl (M o1 3)), none]) dX9_longestStay_58 (by decide) rfl ?_
      refine gx_mk (lv' := [some (.inr (some 32)), some (.inr (some o1)), some (.inl x101), some (.inl (M o1 3)), none]) [true, true, true, true, false] rfl ?_
      exact w_X9_longestStay_L59 d hd n M o1 h1 n x101 (M o1 3)
    refine gx_aload_n dX9_longestStay_21 rfl ?_
    refine gx_iload_n dX9_longestStay_22 rfl ?_
    refine gx_cV_ip (av := [.inl v2]) (st := []) ml_X9_38 (by omega) (shC h1) (c_X1_placeAt (d - 1) (by omega) o1 h1 v2 M) rfl rfl (Nat.le_of_ble_eq_true rfl) dX9_longestStay_23 (fun x102 => ?_)
    refine gx_istore_n (lv' := [some (.inr (some 32)), some (.inr (some o1)), some (.inl v2), some (.inl x102), none]) dX9_longestStay_26 (by decide) rfl ?_
    refine gx_aload_n dX9_longestStay_27 rfl ?_
    refine gx_iload_n dX9_longestStay_28 rfl ?_
    refine gx_aload_n dX9_longestStay_29 rfl ?_
    refine gx_iload_n dX9_longestStay_30 rfl ?_
    refine gx_cV_ip (av := [.inl x102]) (st := [.inl x102, .inr (some 32)]) ml_X9_46 (by omega) sh32 (c_X9_markAt (d - 1) (by omega) x102 M) rfl rfl (Nat.le_of_ble_eq_true rfl) dX9_longestStay_31 (fun x103 => ?_)
    refine gx_iconst (x := 1) (by decide) dX9_longestStay_34 ?_
    refine gx_iadd dX9_longestStay_35 ?_
    refine gx_cV_vm (av := [.inl x102, .inl (x103 + 1)]) (st := []) ml_X9_42 (by omega) sh32 (c_X9_markPlace (d - 1) (by omega) x102 (x103 + 1) M) rfl rfl (Nat.le_of_ble_eq_true rfl) dX9_longestStay_36 (fun M104 => ?_)
    refine gx_iinc (y := v2 + 1) (lv' := [some (.inr (some 32)), some (.inr (some o1)), some (.inl (v2 + 1)), some (.inl x102), none]) dX9_longestStay_39 rfl rfl (by decide) rfl ?_
    refine gx_goto (tgt := 13) dX9_longestStay_42 (by decide) ?_
    refine gx_mk (lv' := [some (.inr (some 32)), some (.inr (some o1)), some (.inl (v2 + 1)), none, none]) [true, true, true, false, false] rfl ?_
    exact ih (v2 + 1) M104
def f_X9_longestStay (n : Nat) (o1 : Nat) (M : HMem) : Option (Int32 × HMem) :=
  hb1 (f_J7_fill_53178 n 33 192 0 M) (fun M101 =>
  f_X9_longestStay_L13 n o1 n (M101 o1 3) M101)
set_option maxRecDepth 20000 in
theorem w_X9_longestStay (d : Nat) (hd : 2 ≤ d) (n : Nat) (o1 : Nat) (h1 : isCo o1) (M : HMem) : GX iX9_longestStay d eI (f_X9_longestStay n o1 M) 0 [some (.inr (some 32)), some (.inr (some o1)), none, none, none] [] M := by
  rw [f_X9_longestStay]
  refine gx_aload_n dX9_longestStay_0 rfl ?_
  refine gx_getR fl_X9_9 sh32 rfl dX9_longestStay_1 ?_
  refine gx_iconst (x := 0) (by decide) dX9_longestStay_4 ?_
  refine gx_cS_vm (av := [.inr (some 33), .inl 0]) (st := []) ml_X9_22 (by omega) (c_J7_fill_53178 (d - 1) (by omega) n 33 192 sh33 0 M) rfl rfl (Nat.le_of_ble_eq_true rfl) dX9_longestStay_5 (fun M101 => ?_)
  refine gx_aload_n dX9_longestStay_8 rfl ?_
  refine gx_getI fl_X9_28 (shC h1) rfl dX9_longestStay_9 ?_
  refine gx_istore_n (lv' := [some (.inr (some 32)), some (.inr (some o1)), some (.inl (M101 o1 3)), none, none]) dX9_longestStay_12 (by decide) rfl ?_
  refine gx_mk (lv' := [some (.inr (some 32)), some (.inr (some o1)), some (.inl (M101 o1 3)), none, none]) [true, true, true, false, false] rfl ?_
  exact w_X9_longestStay_L13 d hd n o1 h1 n (M101 o1 3) M101
theorem c_X9_longestStay (d : Nat) (hd : 2 ≤ d) (n : Nat) (o1 : Nat) (h1 : isCo o1) (M : HMem) : MX iX9_longestStay d [.inr (some 32), .inr (some o1)] M eI (f_X9_longestStay n o1 M) := mx_of (by decide +kernel) (Nat.le_of_ble_eq_true rfl) rfl (w_X9_longestStay d hd n o1 h1 M)
-- X9_placesComeBackTo
def f_X9_placesComeBackTo_L18 (n : Nat) (o1 : Nat) : Nat → Int32 → Int32 → Int32 → HMem → Option (Int32 × HMem)
  | 0, _, _, _, _ => none
  | k + 1, v2, v3, v4, M =>
    if (f_X1_last o1 M) < v4 then
      (some (v2, M))
    else
      (hb1 (f_X1_placeAt o1 v4 M) (fun x101 =>
      if x101 = v3 then
        (f_X9_placesComeBackTo_L18 n o1 k v2 x101 (v4 + 1) M)
      else
        (hb1 (f_X9_markAt x101 M) (fun x102 =>
        hb1 (f_X9_markPlace x101 (x102 + 1) M) (fun M103 =>
        hb1 (f_X9_markAt x101 M103) (fun x104 =>
        if x104 = 2 then
          (f_X9_placesComeBackTo_L18 n o1 k (v2 + 1) x101 (v4 + 1) M103)
        else
          (f_X9_placesComeBackTo_L18 n o1 k v2 x101 (v4 + 1) M103)))))))
set_option maxRecDepth 20000 in
theorem w_X9_placesComeBackTo_L18 (d : Nat) (hd : 2 ≤ d) (n : Nat) (o1 : Nat) (h1 : isCo o1) : ∀ (k : Nat) (v2 : Int32) (v3 : Int32) (v4 : Int32) (M : HMem), GX iX9_placesComeBackTo d eI (f_X9_placesComeBackTo_L18 n o1 k v2 v3 v4 M) 18 [some (.inr (some 32)), some (.inr (some o1)), some (.inl v2), some (.inl v3), some (.inl v4), none] [] M := by
  intro k
  induction k with
  | zero => intro v2 v3 v4 M; exact gx_none
  | succ k ih =>
    intro v2 v3 v4 M
    rw [f_X9_placesComeBackTo_L18]
    refine gx_iload dX9_placesComeBackTo_18 rfl ?_
    refine gx_aload_n dX9_placesComeBackTo_20 rfl ?_
    refine gx_cV_it (av := []) (st := [.inl v4]) ml_X9_34 (by omega) (shC h1) (c_X1_last (d - 1) (by omega) o1 h1 M) rfl rfl (Nat.le_of_ble_eq_true rfl) dX9_placesComeBackTo_21 ?_
    refine gx_icmp_gt (tgt := 77) dX9_placesComeBackTo_24 (by decide) ?_ ?_
    · refine gx_iload_n dX9_placesComeBackTo_77 rfl ?_
      exact gx_iret rfl rfl dX9_placesComeBackTo_78
    refine gx_aload_n dX9_placesComeBackTo_27 rfl ?_
    refine gx_iload dX9_placesComeBackTo_28 rfl ?_
    refine gx_cV_ip (av := [.inl v4]) (st := []) ml_X9_38 (by omega) (shC h1) (c_X1_placeAt (d - 1) (by omega) o1 h1 v4 M) rfl rfl (Nat.le_of_ble_eq_true rfl) dX9_placesComeBackTo_30 (fun x101 => ?_)
    refine gx_istore (lv' := [some (.inr (some 32)), some (.inr (some o1)), some (.inl v2), some (.inl v3), some (.inl v4), some (.inl x101)]) dX9_placesComeBackTo_33 (by decide) rfl ?_
    refine gx_iload dX9_placesComeBackTo_35 rfl ?_
    refine gx_iload_n dX9_placesComeBackTo_37 rfl ?_
    refine gx_icmp_eq (tgt := 68) dX9_placesComeBackTo_38 (by decide) ?_ ?_
    · refine gx_iload dX9_placesComeBackTo_68 rfl ?_
      refine gx_istore_n (lv' := [some (.inr (some 32)), some (.inr (some o1)), some (.inl v2), some (.inl x101), some (.inl v4), some (.inl x101)]) dX9_placesComeBackTo_70 (by decide) rfl ?_
      refine gx_iinc (y := v4 + 1) (lv' := [some (.inr (some 32)), some (.inr (some o1)), some (.inl v2), some (.inl x101), some (.inl (v4 + 1)), some (.inl x101)]) dX9_placesComeBackTo_71 rfl rfl (by decide) rfl ?_
      refine gx_goto (tgt := 18) dX9_placesComeBackTo_74 (by decide) ?_
      refine gx_mk (lv' := [some (.inr (some 32)), some (.inr (some o1)), some (.inl v2), some (.inl x101), some (.inl (v4 + 1)), none]) [true, true, true, true, true, false] rfl ?_
      exact ih v2 x101 (v4 + 1) M
    refine gx_aload_n dX9_placesComeBackTo_41 rfl ?_
    refine gx_iload dX9_placesComeBackTo_42 rfl ?_
    refine gx_aload_n dX9_placesComeBackTo_44 rfl ?_
    refine gx_iload dX9_placesComeBackTo_45 rfl ?_
    refine gx_cV_ip (av := [.inl x101]) (st := [.inl x101, .inr (some 32)]) ml_X9_46 (by omega) sh32 (c_X9_markAt (d - 1) (by omega) x101 M) rfl rfl (Nat.le_of_ble_eq_true rfl) dX9_placesComeBackTo_47 (fun x102 => ?_)
    refine gx_iconst (x := 1) (by decide) dX9_placesComeBackTo_50 ?_
    refine gx_iadd dX9_placesComeBackTo_51 ?_
    refine gx_cV_vm (av := [.inl x101, .inl (x102 + 1)]) (st := []) ml_X9_42 (by omega) sh32 (c_X9_markPlace (d - 1) (by omega) x101 (x102 + 1) M) rfl rfl (Nat.le_of_ble_eq_true rfl) dX9_placesComeBackTo_52 (fun M103 => ?_)
    refine gx_aload_n dX9_placesComeBackTo_55 rfl ?_
    refine gx_iload dX9_placesComeBackTo_56 rfl ?_
    refine gx_cV_ip (av := [.inl x101]) (st := []) ml_X9_46 (by omega) sh32 (c_X9_markAt (d - 1) (by omega) x101 M103) rfl rfl (Nat.le_of_ble_eq_true rfl) dX9_placesComeBackTo_58 (fun x104 => ?_)
    refine gx_iconst (x := 2) (by decide) dX9_placesComeBackTo_61 ?_
    refine gx_icmp_ne (tgt := 68) dX9_placesComeBackTo_62 (by decide) ?_ ?_
    · refine gx_iload dX9_placesComeBackTo_68 rfl ?_
      refine gx_istore_n (lv' := [some (.inr (some 32)), some (.inr (some o1)), some (.inl v2), some (.inl x101), some (.inl v4), some (.inl x101)]) dX9_placesComeBackTo_70 (by decide) rfl ?_
      refine gx_iinc (y := v4 + 1) (lv' := [some (.inr (some 32)), some (.inr (some o1)), some (.inl v2), some (.inl x101), some (.inl (v4 + 1)), some (.inl x101)]) dX9_placesComeBackTo_71 rfl rfl (by decide) rfl ?_
      refine gx_goto (tgt := 18) dX9_placesComeBackTo_74 (by decide) ?_
      refine gx_mk (lv' := [some (.inr (some 32)), some (.inr (some o1)), some (.inl v2), some (.inl x101), some (.inl (v4 + 1)), none]) [true, true, true, true, true, false] rfl ?_
      exact ih v2 x101 (v4 + 1) M103
    refine gx_iinc (y := v2 + 1) (lv' := [some (.inr (some 32)), some (.inr (some o1)), some (.inl (v2 + 1)), some (.inl v3), some (.inl v4), some (.inl x101)]) dX9_placesComeBackTo_65 rfl rfl (by decide) rfl ?_
    refine gx_iload dX9_placesComeBackTo_68 rfl ?_
    refine gx_istore_n (lv' := [some (.inr (some 32)), some (.inr (some o1)), some (.inl (v2 + 1)), some (.inl x101), some (.inl v4), some (.inl x101)]) dX9_placesComeBackTo_70 (by decide) rfl ?_
    refine gx_iinc (y := v4 + 1) (lv' := [some (.inr (some 32)), some (.inr (some o1)), some (.inl (v2 + 1)), some (.inl x101), some (.inl (v4 + 1)), some (.inl x101)]) dX9_placesComeBackTo_71 rfl rfl (by decide) rfl ?_
    refine gx_goto (tgt := 18) dX9_placesComeBackTo_74 (by decide) ?_
    refine gx_mk (lv' := [some (.inr (some 32)), some (.inr (some o1)), some (.inl (v2 + 1)), some (.inl x101), some (.inl (v4 + 1)), none]) [true, true, true, true, true, false] rfl ?_
    exact ih (v2 + 1) x101 (v4 + 1) M103
def f_X9_placesComeBackTo (n : Nat) (o1 : Nat) (M : HMem) : Option (Int32 × HMem) :=
  hb1 (f_J7_fill_53178 n 33 192 0 M) (fun M101 =>
  f_X9_placesComeBackTo_L18 n o1 n 0 (-1) (M101 o1 3) M101)
set_option maxRecDepth 20000 in
theorem w_X9_placesComeBackTo (d : Nat) (hd : 2 ≤ d) (n : Nat) (o1 : Nat) (h1 : isCo o1) (M : HMem) : GX iX9_placesComeBackTo d eI (f_X9_placesComeBackTo n o1 M) 0 [some (.inr (some 32)), some (.inr (some o1)), none, none, none, none] [] M := by
  rw [f_X9_placesComeBackTo]
  refine gx_aload_n dX9_placesComeBackTo_0 rfl ?_
  refine gx_getR fl_X9_9 sh32 rfl dX9_placesComeBackTo_1 ?_
  refine gx_iconst (x := 0) (by decide) dX9_placesComeBackTo_4 ?_
  refine gx_cS_vm (av := [.inr (some 33), .inl 0]) (st := []) ml_X9_22 (by omega) (c_J7_fill_53178 (d - 1) (by omega) n 33 192 sh33 0 M) rfl rfl (Nat.le_of_ble_eq_true rfl) dX9_placesComeBackTo_5 (fun M101 => ?_)
  refine gx_iconst (x := 0) (by decide) dX9_placesComeBackTo_8 ?_
  refine gx_istore_n (lv' := [some (.inr (some 32)), some (.inr (some o1)), some (.inl 0), none, none, none]) dX9_placesComeBackTo_9 (by decide) rfl ?_
  refine gx_iconst (x := (-1)) (by decide) dX9_placesComeBackTo_10 ?_
  refine gx_istore_n (lv' := [some (.inr (some 32)), some (.inr (some o1)), some (.inl 0), some (.inl (-1)), none, none]) dX9_placesComeBackTo_11 (by decide) rfl ?_
  refine gx_aload_n dX9_placesComeBackTo_12 rfl ?_
  refine gx_getI fl_X9_28 (shC h1) rfl dX9_placesComeBackTo_13 ?_
  refine gx_istore (lv' := [some (.inr (some 32)), some (.inr (some o1)), some (.inl 0), some (.inl (-1)), some (.inl (M101 o1 3)), none]) dX9_placesComeBackTo_16 (by decide) rfl ?_
  refine gx_mk (lv' := [some (.inr (some 32)), some (.inr (some o1)), some (.inl 0), some (.inl (-1)), some (.inl (M101 o1 3)), none]) [true, true, true, true, true, false] rfl ?_
  exact w_X9_placesComeBackTo_L18 d hd n o1 h1 n 0 (-1) (M101 o1 3) M101
theorem c_X9_placesComeBackTo (d : Nat) (hd : 2 ≤ d) (n : Nat) (o1 : Nat) (h1 : isCo o1) (M : HMem) : MX iX9_placesComeBackTo d [.inr (some 32), .inr (some o1)] M eI (f_X9_placesComeBackTo n o1 M) := mx_of (by decide +kernel) (Nat.le_of_ble_eq_true rfl) rfl (w_X9_placesComeBackTo d hd n o1 h1 M)
-- X9_rowAt
def f_X9_rowAt (v1 : Int32) (M : HMem) : Option Int32 :=
  if v1 < 0 then
    (some (-1))
  else
    (if 192 ≤ v1 then
      (some (-1))
    else
      (if hib v1 192 then
      some (M 34 (Int32.toNatClampNeg v1))
      else none))
set_option maxRecDepth 20000 in
theorem w_X9_rowAt (d : Nat) (hd : 0 ≤ d) (v1 : Int32) (M : HMem) : GX iX9_rowAt d (eP M) (f_X9_rowAt v1 M) 0 [some (.inr (some 32)), some (.inl v1)] [] M := by
  rw [f_X9_rowAt]
  refine gx_iload_n dX9_rowAt_0 rfl ?_
  refine gx_if_lt (tgt := 20) dX9_rowAt_1 (by decide) ?_ ?_
  · refine gx_iconst (x := (-1)) (by decide) dX9_rowAt_20 ?_
    exact gx_iret rfl rfl dX9_rowAt_21
  refine gx_iload_n dX9_rowAt_4 rfl ?_
  refine gx_sipush (x := 192) (by decide) dX9_rowAt_5 ?_
  refine gx_icmp_ge (tgt := 20) dX9_rowAt_8 (by decide) ?_ ?_
  · refine gx_iconst (x := (-1)) (by decide) dX9_rowAt_20 ?_
    exact gx_iret rfl rfl dX9_rowAt_21
  refine gx_aload_n dX9_rowAt_11 rfl ?_
  refine gx_getR fl_X9_15 sh32 rfl dX9_rowAt_12 ?_
  refine gx_iload_n dX9_rowAt_15 rfl ?_
  refine gx_iaload sh34 dX9_rowAt_16 ?_
  refine gx_goto (tgt := 21) dX9_rowAt_17 (by decide) ?_
  exact gx_iret rfl rfl dX9_rowAt_21
theorem c_X9_rowAt (d : Nat) (hd : 0 ≤ d) (v1 : Int32) (M : HMem) : MX iX9_rowAt d [.inr (some 32), .inl v1] M (eP M) (f_X9_rowAt v1 M) := mx_of (by decide +kernel) (Nat.le_of_ble_eq_true rfl) rfl (w_X9_rowAt d hd v1 M)

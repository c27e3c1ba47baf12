-- X12_beginsText
def f_X12_beginsText (v1 : Int32) (M : HMem) : HMem :=
  hset (hset (hset (hset M 74 13 0) 74 14 v1) 74 18 0) 74 20 0
set_option maxRecDepth 20000 in
theorem w_X12_beginsText (d : Nat) (hd : 0 ≤ d) (v1 : Int32) (M : HMem) : GX iX12_beginsText d eV (some (f_X12_beginsText v1 M)) 0 [some (.inr (some 74)), some (.inl v1)] [] M := by
  rw [f_X12_beginsText]
  refine gx_aload_n dX12_beginsText_0 rfl ?_
  refine gx_iconst (x := 0) (by decide) dX12_beginsText_1 ?_
  refine gx_putI fl_X12_137 fp_X12_13 sh74 rfl dX12_beginsText_2 ?_
  refine gx_aload_n dX12_beginsText_5 rfl ?_
  refine gx_iload_n dX12_beginsText_6 rfl ?_
  refine gx_putI fl_X12_140 fp_X12_14 sh74 rfl dX12_beginsText_7 ?_
  refine gx_aload_n dX12_beginsText_10 rfl ?_
  refine gx_iconst (x := 0) (by decide) dX12_beginsText_11 ?_
  refine gx_putI fl_X12_160 fp_X12_18 sh74 rfl dX12_beginsText_12 ?_
  refine gx_aload_n dX12_beginsText_15 rfl ?_
  refine gx_iconst (x := 0) (by decide) dX12_beginsText_16 ?_
  refine gx_putI fl_X12_215 fp_X12_20 sh74 rfl dX12_beginsText_17 ?_
  exact gx_vret rfl rfl dX12_beginsText_20
theorem c_X12_beginsText (d : Nat) (hd : 0 ≤ d) (v1 : Int32) (M : HMem) : MX iX12_beginsText d [.inr (some 74), .inl v1] M eV (some (f_X12_beginsText v1 M)) := mx_of (by decide +kernel) (Nat.le_of_ble_eq_true rfl) rfl (w_X12_beginsText d hd v1 M)
-- X12_law
def f_X12_law_L123 (n : Nat)  : Nat → Int32 → HMem → Option (Int32 × HMem)
  | 0, _, _ => none
  | k + 1, v3, M =>
    if (M 74 20) ≤ v3 then
      (some (M 74 20, M))
    else
      (if hib v3 16 then
      if hib v3 16 then
      hb1 (some (hset M 92 (Int32.toNatClampNeg v3) (M 87 (Int32.toNatClampNeg v3)))) (fun M101 =>
      if hib v3 16 then
      if hib v3 16 then
      hb1 (some (hset M101 93 (Int32.toNatClampNeg v3) (M101 88 (Int32.toNatClampNeg v3)))) (fun M102 =>
      if hib v3 16 then
      if hib v3 16 then
      hb1 (some (hset M102 94 (Int32.toNatClampNeg v3) (M102 89 (Int32.toNatClampNeg v3)))) (fun M103 =>
      if hib v3 16 then
      if hib v3 16 then
      f_X12_law_L123 n k (v3 + 1) (hset M103 95 (Int32.toNatClampNeg v3) (M103 90 (Int32.toNatClampNeg v3)))
      else none
      else none)
      else none
      else none)
      else none
      else none)
      else none
      else none)
set_option maxRecDepth 20000 in
theorem w_X12_law_L123 (d : Nat) (hd : 8 ≤ d) (n : Nat)  : ∀ (k : Nat) (v3 : Int32) (M : HMem), GX iX12_law d eI (f_X12_law_L123 n k v3 M) 123 [some (.inr (some 74)), none, none, some (.inl v3)] [] M := by
  intro k
  induction k with
  | zero => intro v3 M; exact gx_none
  | succ k ih =>
    intro v3 M
    rw [f_X12_law_L123]
    refine gx_iload_n dX12_law_123 rfl ?_
    refine gx_aload_n dX12_law_124 rfl ?_
    refine gx_getI fl_X12_215 sh74 rfl dX12_law_125 ?_
    refine gx_icmp_ge (tgt := 185) dX12_law_128 (by decide) ?_ ?_
    · refine gx_aload_n dX12_law_185 rfl ?_
      refine gx_getI fl_X12_215 sh74 rfl dX12_law_186 ?_
      exact gx_iret rfl rfl dX12_law_189
    refine gx_aload_n dX12_law_131 rfl ?_
    refine gx_getR fl_X12_62 sh74 rfl dX12_law_132 ?_
    refine gx_iload_n dX12_law_135 rfl ?_
    refine gx_aload_n dX12_law_136 rfl ?_
    refine gx_getR fl_X12_47 sh74 rfl dX12_law_137 ?_
    refine gx_iload_n dX12_law_140 rfl ?_
    refine gx_iaload sh87 dX12_law_141 ?_
    refine gx_iastore sh92 dX12_law_142 ?_
    refine gx_aload_n dX12_law_143 rfl ?_
    refine gx_getR fl_X12_65 sh74 rfl dX12_law_144 ?_
    refine gx_iload_n dX12_law_147 rfl ?_
    refine gx_aload_n dX12_law_148 rfl ?_
    refine gx_getR fl_X12_50 sh74 rfl dX12_law_149 ?_
    refine gx_iload_n dX12_law_152 rfl ?_
    refine gx_nm (fun M101 => ?_)
    refine gx_iaload sh88 dX12_law_153 ?_
    refine gx_iastore sh93 dX12_law_154 ?_
    refine gx_aload_n dX12_law_155 rfl ?_
    refine gx_getR fl_X12_68 sh74 rfl dX12_law_156 ?_
    refine gx_iload_n dX12_law_159 rfl ?_
    refine gx_aload_n dX12_law_160 rfl ?_
    refine gx_getR fl_X12_53 sh74 rfl dX12_law_161 ?_
    refine gx_iload_n dX12_law_164 rfl ?_
    refine gx_nm (fun M102 => ?_)
    refine gx_iaload sh89 dX12_law_165 ?_
    refine gx_iastore sh94 dX12_law_166 ?_
    refine gx_aload_n dX12_law_167 rfl ?_
    refine gx_getR fl_X12_71 sh74 rfl dX12_law_168 ?_
    refine gx_iload_n dX12_law_171 rfl ?_
    refine gx_aload_n dX12_law_172 rfl ?_
    refine gx_getR fl_X12_56 sh74 rfl dX12_law_173 ?_
    refine gx_iload_n dX12_law_176 rfl ?_
    refine gx_nm (fun M103 => ?_)
    refine gx_iaload sh90 dX12_law_177 ?_
    refine gx_iastore sh95 dX12_law_178 ?_
    refine gx_iinc (y := v3 + 1) (lv' := [some (.inr (some 74)), none, none, some (.inl (v3 + 1))]) dX12_law_179 rfl rfl (by decide) rfl ?_
    refine gx_goto (tgt := 123) dX12_law_182 (by decide) ?_
    refine gx_mk (lv' := [some (.inr (some 74)), none, none, some (.inl (v3 + 1))]) [true, false, false, true] rfl ?_
    exact ih (v3 + 1) (hset M103 95 (Int32.toNatClampNeg v3) (M103 90 (Int32.toNatClampNeg v3)))
def f_X12_law_L95 (n : Nat)  : Nat → Int32 → HMem → Option (Int32 × HMem)
  | 0, _, _ => none
  | k + 1, v3, M =>
    if (M 74 18) ≤ v3 then
      (f_X12_law_L123 n n 0 M)
    else
      (if hib v3 260 then
      if hib v3 260 then
      f_X12_law_L95 n k (v3 + 1) (hset M 91 (Int32.toNatClampNeg v3) (M 85 (Int32.toNatClampNeg v3)))
      else none
      else none)
set_option maxRecDepth 20000 in
theorem w_X12_law_L95 (d : Nat) (hd : 8 ≤ d) (n : Nat)  : ∀ (k : Nat) (v3 : Int32) (M : HMem), GX iX12_law d eI (f_X12_law_L95 n k v3 M) 95 [some (.inr (some 74)), none, none, some (.inl v3)] [] M := by
  intro k
  induction k with
  | zero => intro v3 M; exact gx_none
  | succ k ih =>
    intro v3 M
    rw [f_X12_law_L95]
    refine gx_iload_n dX12_law_95 rfl ?_
    refine gx_aload_n dX12_law_96 rfl ?_
    refine gx_getI fl_X12_160 sh74 rfl dX12_law_97 ?_
    refine gx_icmp_ge (tgt := 121) dX12_law_100 (by decide) ?_ ?_
    · refine gx_iconst (x := 0) (by decide) dX12_law_121 ?_
      refine gx_istore_n (lv' := [some (.inr (some 74)), none, none, some (.inl 0)]) dX12_law_122 (by decide) rfl ?_
      refine gx_mk (lv' := [some (.inr (some 74)), none, none, some (.inl 0)]) [true, false, false, true] rfl ?_
      exact w_X12_law_L123 d hd n  n 0 M
    refine gx_aload_n dX12_law_103 rfl ?_
    refine gx_getR fl_X12_59 sh74 rfl dX12_law_104 ?_
    refine gx_iload_n dX12_law_107 rfl ?_
    refine gx_aload_n dX12_law_108 rfl ?_
    refine gx_getR fl_X12_41 sh74 rfl dX12_law_109 ?_
    refine gx_iload_n dX12_law_112 rfl ?_
    refine gx_iaload sh85 dX12_law_113 ?_
    refine gx_iastore sh91 dX12_law_114 ?_
    refine gx_iinc (y := v3 + 1) (lv' := [some (.inr (some 74)), none, none, some (.inl (v3 + 1))]) dX12_law_115 rfl rfl (by decide) rfl ?_
    refine gx_goto (tgt := 95) dX12_law_118 (by decide) ?_
    refine gx_mk (lv' := [some (.inr (some 74)), none, none, some (.inl (v3 + 1))]) [true, false, false, true] rfl ?_
    exact ih (v3 + 1) (hset M 91 (Int32.toNatClampNeg v3) (M 85 (Int32.toNatClampNeg v3)))
def f_X12_law_J71 (n : Nat) (v2 : Int32) (M : HMem) : Option (Int32 × HMem) :=
  if v2 = 0 then
    (some ((hset M 74 12 0) 74 15, hset M 74 12 0))
  else
    (f_X12_law_L95 n n 0 (hset (hset M 74 12 0) 74 21 ((hset M 74 12 0) 74 20)))
set_option maxRecDepth 20000 in
theorem w_X12_law_J71 (d : Nat) (hd : 8 ≤ d) (n : Nat) (M : HMem) (v2 : Int32) : GX iX12_law d eI (f_X12_law_J71 n v2 M) 71 [some (.inr (some 74)), none, some (.inl v2), none] [] M := by
  rw [f_X12_law_J71]
  refine gx_aload_n dX12_law_71 rfl ?_
  refine gx_iconst (x := 0) (by decide) dX12_law_72 ?_
  refine gx_putI fl_X12_130 fp_X12_12 sh74 rfl dX12_law_73 ?_
  refine gx_iload_n dX12_law_76 rfl ?_
  refine gx_if_ne (tgt := 85) dX12_law_77 (by decide) ?_ ?_
  · refine gx_aload_n dX12_law_85 rfl ?_
    refine gx_aload_n dX12_law_86 rfl ?_
    refine gx_getI fl_X12_215 sh74 rfl dX12_law_87 ?_
    refine gx_putI fl_X12_230 fp_X12_21 sh74 rfl dX12_law_90 ?_
    refine gx_iconst (x := 0) (by decide) dX12_law_93 ?_
    refine gx_istore_n (lv' := [some (.inr (some 74)), none, some (.inl v2), some (.inl 0)]) dX12_law_94 (by decide) rfl ?_
    refine gx_mk (lv' := [some (.inr (some 74)), none, none, some (.inl 0)]) [true, false, false, true] rfl ?_
    exact w_X12_law_L95 d hd n  n 0 (hset (hset M 74 12 0) 74 21 ((hset M 74 12 0) 74 20))
  refine gx_aload_n dX12_law_80 rfl ?_
  refine gx_getI fl_X12_147 sh74 rfl dX12_law_81 ?_
  exact gx_iret rfl rfl dX12_law_84
def f_X12_law_L31 (n : Nat)  : Nat → Int32 → HMem → Option (Int32 × HMem)
  | 0, _, _ => none
  | k + 1, v2, M =>
    if v2 = 0 then
      (f_X12_law_J71 n v2 M)
    else
      (if (M 74 14) ≤ (M 74 13) then
        (f_X12_law_J71 n v2 M)
      else
        (hb2 (f_X12_takes 59 M) (fun x101 M102 =>
        if x101 = 0 then
          (f_X12_law_L31 n k 0 M102)
        else
          (hb2 (f_X12_readsRule n  M102) (fun x103 M104 =>
          if x103 = 0 then
            (f_X12_law_L31 n k 0 M104)
          else
            (f_X12_law_L31 n k 1 M104))))))
set_option maxRecDepth 20000 in
theorem w_X12_law_L31 (d : Nat) (hd : 8 ≤ d) (n : Nat)  : ∀ (k : Nat) (v2 : Int32) (M : HMem), GX iX12_law d eI (f_X12_law_L31 n k v2 M) 31 [some (.inr (some 74)), none, some (.inl v2), none] [] M := by
  intro k
  induction k with
  | zero => intro v2 M; exact gx_none
  | succ k ih =>
    intro v2 M
    rw [f_X12_law_L31]
    refine gx_iload_n dX12_law_31 rfl ?_
    refine gx_if_eq (tgt := 71) dX12_law_32 (by decide) ?_ ?_
    · refine gx_mk (lv' := [some (.inr (some 74)), none, some (.inl v2), none]) [true, false, true, false] rfl ?_
      exact w_X12_law_J71 d hd n M v2
    refine gx_aload_n dX12_law_35 rfl ?_
    refine gx_getI fl_X12_137 sh74 rfl dX12_law_36 ?_
    refine gx_aload_n dX12_law_39 rfl ?_
    refine gx_getI fl_X12_140 sh74 rfl dX12_law_40 ?_
    refine gx_icmp_ge (tgt := 71) dX12_law_43 (by decide) ?_ ?_
    · refine gx_mk (lv' := [some (.inr (some 74)), none, some (.inl v2), none]) [true, false, true, false] rfl ?_
      exact w_X12_law_J71 d hd n M v2
    refine gx_aload_n dX12_law_46 rfl ?_
    refine gx_bipush (x := 59) (by decide) dX12_law_47 ?_
    refine gx_cV_im (av := [.inl 59]) (st := []) ml_X12_227 (by omega) sh74 (c_X12_takes (d - 1) (by omega) 59 M) rfl rfl (Nat.le_of_ble_eq_true rfl) dX12_law_49 (fun x101 M102 => ?_)
    refine gx_if_eq (tgt := 66) dX12_law_52 (by decide) ?_ ?_
    · refine gx_iconst (x := 0) (by decide) dX12_law_66 ?_
      refine gx_istore_n (lv' := [some (.inr (some 74)), none, some (.inl 0), none]) dX12_law_67 (by decide) rfl ?_
      refine gx_goto (tgt := 31) dX12_law_68 (by decide) ?_
      refine gx_mk (lv' := [some (.inr (some 74)), none, some (.inl 0), none]) [true, false, true, false] rfl ?_
      exact ih 0 M102
    refine gx_aload_n dX12_law_55 rfl ?_
    refine gx_cV_im (av := []) (st := []) ml_X12_224 (by omega) sh74 (c_X12_readsRule (d - 1) (by omega) n  M102) rfl rfl (Nat.le_of_ble_eq_true rfl) dX12_law_56 (fun x103 M104 => ?_)
    refine gx_if_eq (tgt := 66) dX12_law_59 (by decide) ?_ ?_
    · refine gx_iconst (x := 0) (by decide) dX12_law_66 ?_
      refine gx_istore_n (lv' := [some (.inr (some 74)), none, some (.inl 0), none]) dX12_law_67 (by decide) rfl ?_
      refine gx_goto (tgt := 31) dX12_law_68 (by decide) ?_
      refine gx_mk (lv' := [some (.inr (some 74)), none, some (.inl 0), none]) [true, false, true, false] rfl ?_
      exact ih 0 M104
    refine gx_iconst (x := 1) (by decide) dX12_law_62 ?_
    refine gx_goto (tgt := 67) dX12_law_63 (by decide) ?_
    refine gx_istore_n (lv' := [some (.inr (some 74)), none, some (.inl 1), none]) dX12_law_67 (by decide) rfl ?_
    refine gx_goto (tgt := 31) dX12_law_68 (by decide) ?_
    refine gx_mk (lv' := [some (.inr (some 74)), none, some (.inl 1), none]) [true, false, true, false] rfl ?_
    exact ih 1 M104
def f_X12_law (n : Nat) (v1 : Int32) (M : HMem) : Option (Int32 × HMem) :=
  if (f_X12_in v1 1 240) = 0 then
    (some ((-1), M))
  else
    (if v1 ≤ (M 74 12) then
      (hb2 (f_X12_readsRule n  (f_X12_beginsText v1 M)) (fun x101 M102 =>
      f_X12_law_L31 n n x101 M102))
    else
      (some ((-1), M)))
set_option maxRecDepth 20000 in
theorem w_X12_law (d : Nat) (hd : 8 ≤ d) (n : Nat) (v1 : Int32) (M : HMem) : GX iX12_law d eI (f_X12_law n v1 M) 0 [some (.inr (some 74)), some (.inl v1), none, none] [] M := by
  rw [f_X12_law]
  refine gx_iload_n dX12_law_0 rfl ?_
  refine gx_iconst (x := 1) (by decide) dX12_law_1 ?_
  refine gx_sipush (x := 240) (by decide) dX12_law_2 ?_
  refine gx_cS_it (av := [.inl v1, .inl 1, .inl 240]) (st := []) ml_X12_118 (by omega) (c_X12_in (d - 1) (by omega) v1 1 240 M) rfl rfl (Nat.le_of_ble_eq_true rfl) dX12_law_5 ?_
  refine gx_if_eq (tgt := 19) dX12_law_8 (by decide) ?_ ?_
  · refine gx_iconst (x := (-1)) (by decide) dX12_law_19 ?_
    exact gx_iret rfl rfl dX12_law_20
  refine gx_iload_n dX12_law_11 rfl ?_
  refine gx_aload_n dX12_law_12 rfl ?_
  refine gx_getI fl_X12_130 sh74 rfl dX12_law_13 ?_
  refine gx_icmp_le (tgt := 21) dX12_law_16 (by decide) ?_ ?_
  · refine gx_aload_n dX12_law_21 rfl ?_
    refine gx_iload_n dX12_law_22 rfl ?_
    refine gx_cV_vt (av := [.inl v1]) (st := []) ml_X12_221 (by omega) sh74 (c_X12_beginsText (d - 1) (by omega) v1 M) rfl rfl (Nat.le_of_ble_eq_true rfl) dX12_law_23 ?_
    refine gx_aload_n dX12_law_26 rfl ?_
    refine gx_cV_im (av := []) (st := []) ml_X12_224 (by omega) sh74 (c_X12_readsRule (d - 1) (by omega) n  (f_X12_beginsText v1 M)) rfl rfl (Nat.le_of_ble_eq_true rfl) dX12_law_27 (fun x101 M102 => ?_)
    refine gx_istore_n (lv' := [some (.inr (some 74)), some (.inl v1), some (.inl x101), none]) dX12_law_30 (by decide) rfl ?_
    refine gx_mk (lv' := [some (.inr (some 74)), none, some (.inl x101), none]) [true, false, true, false] rfl ?_
    exact w_X12_law_L31 d hd n  n x101 M102
  refine gx_iconst (x := (-1)) (by decide) dX12_law_19 ?_
  exact gx_iret rfl rfl dX12_law_20
theorem c_X12_law (d : Nat) (hd : 8 ≤ d) (n : Nat) (v1 : Int32) (M : HMem) : MX iX12_law d [.inr (some 74), .inl v1] M eI (f_X12_law n v1 M) := mx_of (by decide +kernel) (Nat.le_of_ble_eq_true rfl) rfl (w_X12_law d hd n v1 M)
-- X12_reckon
def f_X12_reckon (v0 : Int32) (v1 : Int32) (v2 : Int32) : Option Int32 :=
  if v0 = 2 then
    (some (v1 + v2))
  else if v0 = 3 then
    (some (v1 - v2))
  else if v0 = 4 then
    (some (v1 * v2))
  else if v0 = 5 then
    (if v2 = 0 then none else
    some (v1 / v2))
  else if v0 = 6 then
    (if v2 = 0 then none else
    some (v1 - v1 / v2 * v2))
  else if v0 = 7 then
    (if v2 ≤ v1 then
      (some 0)
    else
      (some 1))
  else if v0 = 8 then
    (if v1 ≤ v2 then
      (some 0)
    else
      (some 1))
  else (if v1 = v2 then
    (some 1)
  else
    (some 0))
set_option maxRecDepth 20000 in
theorem w_X12_reckon (d : Nat) (hd : 0 ≤ d) (v0 : Int32) (v1 : Int32) (v2 : Int32) (M : HMem) : GX iX12_reckon d (eP M) (f_X12_reckon v0 v1 v2) 0 [some (.inl v0), some (.inl v1), some (.inl v2)] [] M := by
  rw [f_X12_reckon]
  refine gx_iload_n dX12_reckon_0 rfl ?_
  refine gx_swT (k := 2) (kI := 2) (off := 43) (tgt := 44) (by decide) dX12_reckon_1 (by decide) (by decide) rfl (by decide) ?_ (fun q1_2 => ?_)
  · refine gx_iload_n dX12_reckon_44 rfl ?_
    refine gx_iload_n dX12_reckon_45 rfl ?_
    refine gx_iadd dX12_reckon_46 ?_
    exact gx_iret rfl rfl dX12_reckon_47
  refine gx_swT (k := 3) (kI := 3) (off := 47) (tgt := 48) (by decide) dX12_reckon_1 (by decide) (by decide) rfl (by decide) ?_ (fun q1_3 => ?_)
  · refine gx_iload_n dX12_reckon_48 rfl ?_
    refine gx_iload_n dX12_reckon_49 rfl ?_
    refine gx_isub dX12_reckon_50 ?_
    exact gx_iret rfl rfl dX12_reckon_51
  refine gx_swT (k := 4) (kI := 4) (off := 51) (tgt := 52) (by decide) dX12_reckon_1 (by decide) (by decide) rfl (by decide) ?_ (fun q1_4 => ?_)
  · refine gx_iload_n dX12_reckon_52 rfl ?_
    refine gx_iload_n dX12_reckon_53 rfl ?_
    refine gx_imul dX12_reckon_54 ?_
    exact gx_iret rfl rfl dX12_reckon_55
  refine gx_swT (k := 5) (kI := 5) (off := 55) (tgt := 56) (by decide) dX12_reckon_1 (by decide) (by decide) rfl (by decide) ?_ (fun q1_5 => ?_)
  · refine gx_iload_n dX12_reckon_56 rfl ?_
    refine gx_iload_n dX12_reckon_57 rfl ?_
    refine gx_idiv dX12_reckon_58 ?_
    exact gx_iret rfl rfl dX12_reckon_59
  refine gx_swT (k := 6) (kI := 6) (off := 59) (tgt := 60) (by decide) dX12_reckon_1 (by decide) (by decide) rfl (by decide) ?_ (fun q1_6 => ?_)
  · refine gx_iload_n dX12_reckon_60 rfl ?_
    refine gx_iload_n dX12_reckon_61 rfl ?_
    refine gx_irem dX12_reckon_62 ?_
    exact gx_iret rfl rfl dX12_reckon_63
  refine gx_swT (k := 7) (kI := 7) (off := 63) (tgt := 64) (by decide) dX12_reckon_1 (by decide) (by decide) rfl (by decide) ?_ (fun q1_7 => ?_)
  · refine gx_iload_n dX12_reckon_64 rfl ?_
    refine gx_iload_n dX12_reckon_65 rfl ?_
    refine gx_icmp_ge (tgt := 73) dX12_reckon_66 (by decide) ?_ ?_
    · refine gx_iconst (x := 0) (by decide) dX12_reckon_73 ?_
      exact gx_iret rfl rfl dX12_reckon_74
    refine gx_iconst (x := 1) (by decide) dX12_reckon_69 ?_
    refine gx_goto (tgt := 74) dX12_reckon_70 (by decide) ?_
    exact gx_iret rfl rfl dX12_reckon_74
  refine gx_swT (k := 8) (kI := 8) (off := 74) (tgt := 75) (by decide) dX12_reckon_1 (by decide) (by decide) rfl (by decide) ?_ (fun q1_8 => ?_)
  · refine gx_iload_n dX12_reckon_75 rfl ?_
    refine gx_iload_n dX12_reckon_76 rfl ?_
    refine gx_icmp_le (tgt := 84) dX12_reckon_77 (by decide) ?_ ?_
    · refine gx_iconst (x := 0) (by decide) dX12_reckon_84 ?_
      exact gx_iret rfl rfl dX12_reckon_85
    refine gx_iconst (x := 1) (by decide) dX12_reckon_80 ?_
    refine gx_goto (tgt := 85) dX12_reckon_81 (by decide) ?_
    exact gx_iret rfl rfl dX12_reckon_85
  refine gx_swTd (tgt := 86) dX12_reckon_1 (by have := lv_neT q1_2 (a := 2) (by decide); have := lv_neT q1_3 (a := 3) (by decide); have := lv_neT q1_4 (a := 4) (by decide); have := lv_neT q1_5 (a := 5) (by decide); have := lv_neT q1_6 (a := 6) (by decide); have := lv_neT q1_7 (a := 7) (by decide); have := lv_neT q1_8 (a := 8) (by decide); omega) (by decide) ?_
  refine gx_iload_n dX12_reckon_86 rfl ?_
  refine gx_iload_n dX12_reckon_87 rfl ?_
  refine gx_icmp_ne (tgt := 95) dX12_reckon_88 (by decide) ?_ ?_
  · refine gx_iconst (x := 0) (by decide) dX12_reckon_95 ?_
    exact gx_iret rfl rfl dX12_reckon_96
  refine gx_iconst (x := 1) (by decide) dX12_reckon_91 ?_
  refine gx_goto (tgt := 96) dX12_reckon_92 (by decide) ?_
  exact gx_iret rfl rfl dX12_reckon_96
theorem c_X12_reckon (d : Nat) (hd : 0 ≤ d) (v0 : Int32) (v1 : Int32) (v2 : Int32) (M : HMem) : MX iX12_reckon d [.inl v0, .inl v1, .inl v2] M (eP M) (f_X12_reckon v0 v1 v2) := mx_of (by decide +kernel) (Nat.le_of_ble_eq_true rfl) rfl (w_X12_reckon d hd v0 v1 v2 M)
-- X12_comesTo
def f_X12_comesTo_J203 (n : Nat) (r16 : Int32 → Int32 → HMem → Option (Int32 × HMem)) (v2 : Int32) (v3 : Int32) (v4 : Int32) (v5 : Int32) (v6 : Int32) (M : HMem) : Option (Int32 × HMem) :=
  if hib (v3 - 1) 260 then
  if hib v3 260 then
  hb1 (f_X12_reckon v6 (M 96 (Int32.toNatClampNeg (v3 - 1))) (M 96 (Int32.toNatClampNeg v3))) (fun x101 =>
  if hib (v3 - 1) 260 then
  r16 v3 v5 (hset M 96 (Int32.toNatClampNeg (v3 - 1)) x101)
  else none)
  else none
  else none
set_option maxRecDepth 20000 in
theorem w_X12_comesTo_J203 (d : Nat) (hd : 1 ≤ d) (n : Nat) (r16 : Int32 → Int32 → HMem → Option (Int32 × HMem)) (M : HMem) (v2 : Int32) (v3 : Int32) (v4 : Int32) (v5 : Int32) (v6 : Int32) (hr16 : ∀ (v3 : Int32) (v5 : Int32) (M : HMem), GX iX12_comesTo d eI (r16 v3 v5 M) 16 [some (.inr (some 74)), none, some (.inl v2), some (.inl v3), some (.inl v4), some (.inl v5), none, none] [] M) : GX iX12_comesTo d eI (f_X12_comesTo_J203 n r16 v2 v3 v4 v5 v6 M) 203 [some (.inr (some 74)), none, some (.inl v2), some (.inl v3), some (.inl v4), some (.inl v5), some (.inl v6), none] [] M := by
  rw [f_X12_comesTo_J203]
  refine gx_aload_n dX12_comesTo_203 rfl ?_
  refine gx_getR fl_X12_74 sh74 rfl dX12_comesTo_204 ?_
  refine gx_iload_n dX12_comesTo_207 rfl ?_
  refine gx_iconst (x := 1) (by decide) dX12_comesTo_208 ?_
  refine gx_isub dX12_comesTo_209 ?_
  refine gx_iload dX12_comesTo_210 rfl ?_
  refine gx_aload_n dX12_comesTo_212 rfl ?_
  refine gx_getR fl_X12_74 sh74 rfl dX12_comesTo_213 ?_
  refine gx_iload_n dX12_comesTo_216 rfl ?_
  refine gx_iconst (x := 1) (by decide) dX12_comesTo_217 ?_
  refine gx_isub dX12_comesTo_218 ?_
  refine gx_iaload sh96 dX12_comesTo_219 ?_
  refine gx_aload_n dX12_comesTo_220 rfl ?_
  refine gx_getR fl_X12_74 sh74 rfl dX12_comesTo_221 ?_
  refine gx_iload_n dX12_comesTo_224 rfl ?_
  refine gx_iaload sh96 dX12_comesTo_225 ?_
  refine gx_cS_ip (av := [.inl v6, .inl (M 96 (Int32.toNatClampNeg (v3 - 1))), .inl (M 96 (Int32.toNatClampNeg v3))]) (st := [.inl (v3 - 1), .inr (some 96)]) ml_X12_233 (by omega) (c_X12_reckon (d - 1) (by omega) v6 (M 96 (Int32.toNatClampNeg (v3 - 1))) (M 96 (Int32.toNatClampNeg v3)) M) rfl rfl (Nat.le_of_ble_eq_true rfl) dX12_comesTo_226 (fun x101 => ?_)
  refine gx_iastore sh96 dX12_comesTo_229 ?_
  refine gx_goto (tgt := 16) dX12_comesTo_230 (by decide) ?_
  refine gx_mk (lv' := [some (.inr (some 74)), none, some (.inl v2), some (.inl v3), some (.inl v4), some (.inl v5), none, none]) [true, false, true, true, true, true, false, false] rfl ?_
  exact hr16 v3 v5 (hset M 96 (Int32.toNatClampNeg (v3 - 1)) x101)
def f_X12_comesTo_J155 (n : Nat) (r16 : Int32 → Int32 → HMem → Option (Int32 × HMem)) (v2 : Int32) (v3 : Int32) (v4 : Int32) (v5 : Int32) (v7 : Int32) (s0 : Int32) (s1 : Int32) (M : HMem) : Option (Int32 × HMem) :=
  if s1 = s0 then
    (r16 v3 (v4 + v7) M)
  else
    (r16 (v3 - 1) v5 M)
set_option maxRecDepth 20000 in
theorem w_X12_comesTo_J155 (d : Nat) (hd : 1 ≤ d) (n : Nat) (r16 : Int32 → Int32 → HMem → Option (Int32 × HMem)) (M : HMem) (v2 : Int32) (v3 : Int32) (v4 : Int32) (v5 : Int32) (v7 : Int32) (s0 : Int32) (s1 : Int32) (hr16 : ∀ (v3 : Int32) (v5 : Int32) (M : HMem), GX iX12_comesTo d eI (r16 v3 v5 M) 16 [some (.inr (some 74)), none, some (.inl v2), some (.inl v3), some (.inl v4), some (.inl v5), none, none] [] M) : GX iX12_comesTo d eI (f_X12_comesTo_J155 n r16 v2 v3 v4 v5 v7 s0 s1 M) 155 [some (.inr (some 74)), none, some (.inl v2), some (.inl v3), some (.inl v4), some (.inl v5), none, some (.inl v7)] [.inl s0, .inl s1] M := by
  rw [f_X12_comesTo_J155]
  refine gx_icmp_ne (tgt := 168) dX12_comesTo_155 (by decide) ?_ ?_
  · refine gx_iload_n dX12_comesTo_168 rfl ?_
    refine gx_iconst (x := 1) (by decide) dX12_comesTo_169 ?_
    refine gx_isub dX12_comesTo_170 ?_
    refine gx_istore_n (lv' := [some (.inr (some 74)), none, some (.inl v2), some (.inl (v3 - 1)), some (.inl v4), some (.inl v5), none, some (.inl v7)]) dX12_comesTo_171 (by decide) rfl ?_
    refine gx_goto (tgt := 230) dX12_comesTo_172 (by decide) ?_
    refine gx_goto (tgt := 16) dX12_comesTo_230 (by decide) ?_
    refine gx_mk (lv' := [some (.inr (some 74)), none, some (.inl v2), some (.inl (v3 - 1)), some (.inl v4), some (.inl v5), none, none]) [true, false, true, true, true, true, false, false] rfl ?_
    exact hr16 (v3 - 1) v5 M
  refine gx_iload dX12_comesTo_158 rfl ?_
  refine gx_iload dX12_comesTo_160 rfl ?_
  refine gx_iadd dX12_comesTo_162 ?_
  refine gx_istore (lv' := [some (.inr (some 74)), none, some (.inl v2), some (.inl v3), some (.inl v4), some (.inl (v4 + v7)), none, some (.inl v7)]) dX12_comesTo_163 (by decide) rfl ?_
  refine gx_goto (tgt := 230) dX12_comesTo_165 (by decide) ?_
  refine gx_goto (tgt := 16) dX12_comesTo_230 (by decide) ?_
  refine gx_mk (lv' := [some (.inr (some 74)), none, some (.inl v2), some (.inl v3), some (.inl v4), some (.inl (v4 + v7)), none, none]) [true, false, true, true, true, true, false, false] rfl ?_
  exact hr16 v3 (v4 + v7) M
def f_X12_comesTo_J135 (n : Nat) (r16 : Int32 → Int32 → HMem → Option (Int32 × HMem)) (v2 : Int32) (v3 : Int32) (v4 : Int32) (v5 : Int32) (v6 : Int32) (v7 : Int32) (M : HMem) : Option (Int32 × HMem) :=
  if hib (v3 - 1) 260 then
  if v6 = 12 then
    (f_X12_comesTo_J155 n r16 v2 v3 v4 v5 v7 1 (M 96 (Int32.toNatClampNeg (v3 - 1))) M)
  else
    (f_X12_comesTo_J155 n r16 v2 v3 v4 v5 v7 0 (M 96 (Int32.toNatClampNeg (v3 - 1))) M)
  else none
set_option maxRecDepth 20000 in
theorem w_X12_comesTo_J135 (d : Nat) (hd : 1 ≤ d) (n : Nat) (r16 : Int32 → Int32 → HMem → Option (Int32 × HMem)) (M : HMem) (v2 : Int32) (v3 : Int32) (v4 : Int32) (v5 : Int32) (v6 : Int32) (v7 : Int32) (hr16 : ∀ (v3 : Int32) (v5 : Int32) (M : HMem), GX iX12_comesTo d eI (r16 v3 v5 M) 16 [some (.inr (some 74)), none, some (.inl v2), some (.inl v3), some (.inl v4), some (.inl v5), none, none] [] M) : GX iX12_comesTo d eI (f_X12_comesTo_J135 n r16 v2 v3 v4 v5 v6 v7 M) 135 [some (.inr (some 74)), none, some (.inl v2), some (.inl v3), some (.inl v4), some (.inl v5), some (.inl v6), some (.inl v7)] [] M := by
  rw [f_X12_comesTo_J135]
  refine gx_aload_n dX12_comesTo_135 rfl ?_
  refine gx_getR fl_X12_74 sh74 rfl dX12_comesTo_136 ?_
  refine gx_iload_n dX12_comesTo_139 rfl ?_
  refine gx_iconst (x := 1) (by decide) dX12_comesTo_140 ?_
  refine gx_isub dX12_comesTo_141 ?_
  refine gx_iaload sh96 dX12_comesTo_142 ?_
  refine gx_iload dX12_comesTo_143 rfl ?_
  refine gx_bipush (x := 12) (by decide) dX12_comesTo_145 ?_
  refine gx_icmp_ne (tgt := 154) dX12_comesTo_147 (by decide) ?_ ?_
  · refine gx_iconst (x := 0) (by decide) dX12_comesTo_154 ?_
    refine gx_mk (lv' := [some (.inr (some 74)), none, some (.inl v2), some (.inl v3), some (.inl v4), some (.inl v5), none, some (.inl v7)]) [true, false, true, true, true, true, false, true] rfl ?_
    exact w_X12_comesTo_J155 d hd n r16 M v2 v3 v4 v5 v7 0 (M 96 (Int32.toNatClampNeg (v3 - 1))) hr16
  refine gx_iconst (x := 1) (by decide) dX12_comesTo_150 ?_
  refine gx_goto (tgt := 155) dX12_comesTo_151 (by decide) ?_
  refine gx_mk (lv' := [some (.inr (some 74)), none, some (.inl v2), some (.inl v3), some (.inl v4), some (.inl v5), none, some (.inl v7)]) [true, false, true, true, true, true, false, true] rfl ?_
  exact w_X12_comesTo_J155 d hd n r16 M v2 v3 v4 v5 v7 1 (M 96 (Int32.toNatClampNeg (v3 - 1))) hr16
def f_X12_comesTo_J63 (n : Nat) (r16 : Int32 → Int32 → HMem → Option (Int32 × HMem)) (v2 : Int32) (v3 : Int32) (v4 : Int32) (v5 : Int32) (v6 : Int32) (v7 : Int32) (M : HMem) : Option (Int32 × HMem) :=
  if v6 = 0 then
    (if hib v3 260 then
    r16 (v3 + 1) v5 (hset M 96 (Int32.toNatClampNeg v3) v7)
    else none)
  else
    (if hib v7 8 then
    if hib v3 260 then
    r16 (v3 + 1) v5 (hset M 96 (Int32.toNatClampNeg v3) (M 97 (Int32.toNatClampNeg v7)))
    else none
    else none)
set_option maxRecDepth 20000 in
theorem w_X12_comesTo_J63 (d : Nat) (hd : 1 ≤ d) (n : Nat) (r16 : Int32 → Int32 → HMem → Option (Int32 × HMem)) (M : HMem) (v2 : Int32) (v3 : Int32) (v4 : Int32) (v5 : Int32) (v6 : Int32) (v7 : Int32) (hr16 : ∀ (v3 : Int32) (v5 : Int32) (M : HMem), GX iX12_comesTo d eI (r16 v3 v5 M) 16 [some (.inr (some 74)), none, some (.inl v2), some (.inl v3), some (.inl v4), some (.inl v5), none, none] [] M) : GX iX12_comesTo d eI (f_X12_comesTo_J63 n r16 v2 v3 v4 v5 v6 v7 M) 63 [some (.inr (some 74)), none, some (.inl v2), some (.inl v3), some (.inl v4), some (.inl v5), some (.inl v6), some (.inl v7)] [] M := by
  rw [f_X12_comesTo_J63]
  refine gx_aload_n dX12_comesTo_63 rfl ?_
  refine gx_getR fl_X12_74 sh74 rfl dX12_comesTo_64 ?_
  refine gx_iload_n dX12_comesTo_67 rfl ?_
  refine gx_iload dX12_comesTo_68 rfl ?_
  refine gx_if_ne (tgt := 78) dX12_comesTo_70 (by decide) ?_ ?_
  · refine gx_aload_n dX12_comesTo_78 rfl ?_
    refine gx_getR fl_X12_77 sh74 rfl dX12_comesTo_79 ?_
    refine gx_iload dX12_comesTo_82 rfl ?_
    refine gx_iaload sh97 dX12_comesTo_84 ?_
    refine gx_iastore sh96 dX12_comesTo_85 ?_
    refine gx_iload_n dX12_comesTo_86 rfl ?_
    refine gx_iconst (x := 1) (by decide) dX12_comesTo_87 ?_
    refine gx_iadd dX12_comesTo_88 ?_
    refine gx_istore_n (lv' := [some (.inr (some 74)), none, some (.inl v2), some (.inl (v3 + 1)), some (.inl v4), some (.inl v5), some (.inl v6), some (.inl v7)]) dX12_comesTo_89 (by decide) rfl ?_
    refine gx_goto (tgt := 230) dX12_comesTo_90 (by decide) ?_
    refine gx_goto (tgt := 16) dX12_comesTo_230 (by decide) ?_
    refine gx_mk (lv' := [some (.inr (some 74)), none, some (.inl v2), some (.inl (v3 + 1)), some (.inl v4), some (.inl v5), none, none]) [true, false, true, true, true, true, false, false] rfl ?_
    exact hr16 (v3 + 1) v5 (hset M 96 (Int32.toNatClampNeg v3) (M 97 (Int32.toNatClampNeg v7)))
  refine gx_iload dX12_comesTo_73 rfl ?_
  refine gx_goto (tgt := 85) dX12_comesTo_75 (by decide) ?_
  refine gx_iastore sh96 dX12_comesTo_85 ?_
  refine gx_iload_n dX12_comesTo_86 rfl ?_
  refine gx_iconst (x := 1) (by decide) dX12_comesTo_87 ?_
  refine gx_iadd dX12_comesTo_88 ?_
  refine gx_istore_n (lv' := [some (.inr (some 74)), none, some (.inl v2), some (.inl (v3 + 1)), some (.inl v4), some (.inl v5), some (.inl v6), some (.inl v7)]) dX12_comesTo_89 (by decide) rfl ?_
  refine gx_goto (tgt := 230) dX12_comesTo_90 (by decide) ?_
  refine gx_goto (tgt := 16) dX12_comesTo_230 (by decide) ?_
  refine gx_mk (lv' := [some (.inr (some 74)), none, some (.inl v2), some (.inl (v3 + 1)), some (.inl v4), some (.inl v5), none, none]) [true, false, true, true, true, true, false, false] rfl ?_
  exact hr16 (v3 + 1) v5 (hset M 96 (Int32.toNatClampNeg v3) v7)
def f_X12_comesTo_L16 (n : Nat) (v2 : Int32) (v4 : Int32) : Nat → Int32 → Int32 → HMem → Option (Int32 × HMem)
  | 0, _, _, _ => none
  | k + 1, v3, v5, M =>
    if v2 ≤ v5 then
      (some (M 96 0, M))
    else
      (if hib v5 260 then
      if hib v5 260 then
      hb1 (some ((M 91 (Int32.toNatClampNeg v5)) - (M 91 (Int32.toNatClampNeg v5)) / 1048576 * 1048576)) (fun x101 =>
      if ((M 91 (Int32.toNatClampNeg v5)) / 1048576) = 0 then
        (f_X12_comesTo_J63 n (f_X12_comesTo_L16 n v2 v4 k) v2 v3 v4 (v5 + 1) ((M 91 (Int32.toNatClampNeg v5)) / 1048576) x101 M)
      else
        (if ((M 91 (Int32.toNatClampNeg v5)) / 1048576) = 1 then
          (f_X12_comesTo_J63 n (f_X12_comesTo_L16 n v2 v4 k) v2 v3 v4 (v5 + 1) ((M 91 (Int32.toNatClampNeg v5)) / 1048576) x101 M)
        else
          (if ((M 91 (Int32.toNatClampNeg v5)) / 1048576) = 10 then
            (if hib (v3 - 1) 260 then
            if hib (v3 - 1) 260 then
            f_X12_comesTo_L16 n v2 v4 k v3 (v5 + 1) (hset M 96 (Int32.toNatClampNeg (v3 - 1)) (1 - (M 96 (Int32.toNatClampNeg (v3 - 1)))))
            else none
            else none)
          else
            (if ((M 91 (Int32.toNatClampNeg v5)) / 1048576) = 11 then
              (f_X12_comesTo_J135 n (f_X12_comesTo_L16 n v2 v4 k) v2 v3 v4 (v5 + 1) ((M 91 (Int32.toNatClampNeg v5)) / 1048576) x101 M)
            else
              (if ((M 91 (Int32.toNatClampNeg v5)) / 1048576) = 12 then
                (f_X12_comesTo_J135 n (f_X12_comesTo_L16 n v2 v4 k) v2 v3 v4 (v5 + 1) ((M 91 (Int32.toNatClampNeg v5)) / 1048576) x101 M)
              else
                (if ((M 91 (Int32.toNatClampNeg v5)) / 1048576) = 5 then
                  (if hib (v3 - 1) 260 then
                  if (M 96 (Int32.toNatClampNeg (v3 - 1))) = 0 then
                    (some (0, M))
                  else
                    (f_X12_comesTo_J203 n (f_X12_comesTo_L16 n v2 v4 k) v2 (v3 - 1) v4 (v5 + 1) ((M 91 (Int32.toNatClampNeg v5)) / 1048576) M)
                  else none)
                else
                  (if ((M 91 (Int32.toNatClampNeg v5)) / 1048576) = 6 then
                    (if hib (v3 - 1) 260 then
                    if (M 96 (Int32.toNatClampNeg (v3 - 1))) = 0 then
                      (some (0, M))
                    else
                      (f_X12_comesTo_J203 n (f_X12_comesTo_L16 n v2 v4 k) v2 (v3 - 1) v4 (v5 + 1) ((M 91 (Int32.toNatClampNeg v5)) / 1048576) M)
                    else none)
                  else
                    (f_X12_comesTo_J203 n (f_X12_comesTo_L16 n v2 v4 k) v2 (v3 - 1) v4 (v5 + 1) ((M 91 (Int32.toNatClampNeg v5)) / 1048576) M))))))))
      else none
      else none)
set_option maxRecDepth 20000 in
theorem w_X12_comesTo_L16 (d : Nat) (hd : 1 ≤ d) (n : Nat) (v2 : Int32) (v4 : Int32) : ∀ (k : Nat) (v3 : Int32) (v5 : Int32) (M : HMem), GX iX12_comesTo d eI (f_X12_comesTo_L16 n v2 v4 k v3 v5 M) 16 [some (.inr (some 74)), none, some (.inl v2), some (.inl v3), some (.inl v4), some (.inl v5), none, none] [] M := by
  intro k
  induction k with
  | zero => intro v3 v5 M; exact gx_none
  | succ k ih =>
    intro v3 v5 M
    rw [f_X12_comesTo_L16]
    refine gx_iload dX12_comesTo_16 rfl ?_
    refine gx_iload_n dX12_comesTo_18 rfl ?_
    refine gx_icmp_ge (tgt := 233) dX12_comesTo_19 (by decide) ?_ ?_
    · refine gx_aload_n dX12_comesTo_233 rfl ?_
      refine gx_getR fl_X12_74 sh74 rfl dX12_comesTo_234 ?_
      refine gx_iconst (x := 0) (by decide) dX12_comesTo_237 ?_
      refine gx_ialoadL (j := 0) sh96 (by decide) (by decide) dX12_comesTo_238 ?_
      exact gx_iret rfl rfl dX12_comesTo_239
    refine gx_aload_n dX12_comesTo_22 rfl ?_
    refine gx_getR fl_X12_59 sh74 rfl dX12_comesTo_23 ?_
    refine gx_iload dX12_comesTo_26 rfl ?_
    refine gx_iaload sh91 dX12_comesTo_28 ?_
    refine gx_ldc (x := 1048576) mw1455 dX12_comesTo_29 ?_
    refine gx_idivL (by decide) dX12_comesTo_31 ?_
    refine gx_istore (lv' := [some (.inr (some 74)), none, some (.inl v2), some (.inl v3), some (.inl v4), some (.inl v5), some (.inl ((M 91 (Int32.toNatClampNeg v5)) / 1048576)), none]) dX12_comesTo_32 (by decide) rfl ?_
    refine gx_aload_n dX12_comesTo_34 rfl ?_
    refine gx_getR fl_X12_59 sh74 rfl dX12_comesTo_35 ?_
    refine gx_iload dX12_comesTo_38 rfl ?_
    refine gx_iaload sh91 dX12_comesTo_40 ?_
    refine gx_ldc (x := 1048576) mw1455 dX12_comesTo_41 ?_
    refine gx_iremL (by decide) dX12_comesTo_43 ?_
    refine gx_ni (fun x101 => ?_)
    refine gx_istore (lv' := [some (.inr (some 74)), none, some (.inl v2), some (.inl v3), some (.inl v4), some (.inl v5), some (.inl ((M 91 (Int32.toNatClampNeg v5)) / 1048576)), some (.inl x101)]) dX12_comesTo_44 (by decide) rfl ?_
    refine gx_iload dX12_comesTo_46 rfl ?_
    refine gx_iconst (x := 1) (by decide) dX12_comesTo_48 ?_
    refine gx_iadd dX12_comesTo_49 ?_
    refine gx_istore (lv' := [some (.inr (some 74)), none, some (.inl v2), some (.inl v3), some (.inl v4), some (.inl (v5 + 1)), some (.inl ((M 91 (Int32.toNatClampNeg v5)) / 1048576)), some (.inl x101)]) dX12_comesTo_50 (by decide) rfl ?_
    refine gx_iload dX12_comesTo_52 rfl ?_
    refine gx_if_eq (tgt := 63) dX12_comesTo_54 (by decide) ?_ ?_
    · refine gx_mk (lv' := [some (.inr (some 74)), none, some (.inl v2), some (.inl v3), some (.inl v4), some (.inl (v5 + 1)), some (.inl ((M 91 (Int32.toNatClampNeg v5)) / 1048576)), some (.inl x101)]) [true, false, true, true, true, true, true, true] rfl ?_
      exact w_X12_comesTo_J63 d hd n (f_X12_comesTo_L16 n v2 v4 k) M v2 v3 v4 (v5 + 1) ((M 91 (Int32.toNatClampNeg v5)) / 1048576) x101 ih
    refine gx_iload dX12_comesTo_57 rfl ?_
    refine gx_iconst (x := 1) (by decide) dX12_comesTo_59 ?_
    refine gx_icmp_ne (tgt := 93) dX12_comesTo_60 (by decide) ?_ ?_
    · refine gx_iload dX12_comesTo_93 rfl ?_
      refine gx_bipush (x := 10) (by decide) dX12_comesTo_95 ?_
      refine gx_icmp_ne (tgt := 121) dX12_comesTo_97 (by decide) ?_ ?_
      · refine gx_iload dX12_comesTo_121 rfl ?_
        refine gx_bipush (x := 11) (by decide) dX12_comesTo_123 ?_
        refine gx_icmp_eq (tgt := 135) dX12_comesTo_125 (by decide) ?_ ?_
        · refine gx_mk (lv' := [some (.inr (some 74)), none, some (.inl v2), some (.inl v3), some (.inl v4), some (.inl (v5 + 1)), some (.inl ((M 91 (Int32.toNatClampNeg v5)) / 1048576)), some (.inl x101)]) [true, false, true, true, true, true, true, true] rfl ?_
          exact w_X12_comesTo_J135 d hd n (f_X12_comesTo_L16 n v2 v4 k) M v2 v3 v4 (v5 + 1) ((M 91 (Int32.toNatClampNeg v5)) / 1048576) x101 ih
        refine gx_iload dX12_comesTo_128 rfl ?_
        refine gx_bipush (x := 12) (by decide) dX12_comesTo_130 ?_
        refine gx_icmp_ne (tgt := 175) dX12_comesTo_132 (by decide) ?_ ?_
        · refine gx_iload_n dX12_comesTo_175 rfl ?_
          refine gx_iconst (x := 1) (by decide) dX12_comesTo_176 ?_
          refine gx_isub dX12_comesTo_177 ?_
          refine gx_istore_n (lv' := [some (.inr (some 74)), none, some (.inl v2), some (.inl (v3 - 1)), some (.inl v4), some (.inl (v5 + 1)), some (.inl ((M 91 (Int32.toNatClampNeg v5)) / 1048576)), some (.inl x101)]) dX12_comesTo_178 (by decide) rfl ?_
          refine gx_iload dX12_comesTo_179 rfl ?_
          refine gx_iconst (x := 5) (by decide) dX12_comesTo_181 ?_
          refine gx_icmp_eq (tgt := 192) dX12_comesTo_182 (by decide) ?_ ?_
          · refine gx_aload_n dX12_comesTo_192 rfl ?_
            refine gx_getR fl_X12_74 sh74 rfl dX12_comesTo_193 ?_
            refine gx_iload_n dX12_comesTo_196 rfl ?_
            refine gx_iaload sh96 dX12_comesTo_197 ?_
            refine gx_if_ne (tgt := 203) dX12_comesTo_198 (by decide) ?_ ?_
            · refine gx_mk (lv' := [some (.inr (some 74)), none, some (.inl v2), some (.inl (v3 - 1)), some (.inl v4), some (.inl (v5 + 1)), some (.inl ((M 91 (Int32.toNatClampNeg v5)) / 1048576)), none]) [true, false, true, true, true, true, true, false] rfl ?_
              exact w_X12_comesTo_J203 d hd n (f_X12_comesTo_L16 n v2 v4 k) M v2 (v3 - 1) v4 (v5 + 1) ((M 91 (Int32.toNatClampNeg v5)) / 1048576) ih
            refine gx_iconst (x := 0) (by decide) dX12_comesTo_201 ?_
            exact gx_iret rfl rfl dX12_comesTo_202
          refine gx_iload dX12_comesTo_185 rfl ?_
          refine gx_bipush (x := 6) (by decide) dX12_comesTo_187 ?_
          refine gx_icmp_ne (tgt := 203) dX12_comesTo_189 (by decide) ?_ ?_
          · refine gx_mk (lv' := [some (.inr (some 74)), none, some (.inl v2), some (.inl (v3 - 1)), some (.inl v4), some (.inl (v5 + 1)), some (.inl ((M 91 (Int32.toNatClampNeg v5)) / 1048576)), none]) [true, false, true, true, true, true, true, false] rfl ?_
            exact w_X12_comesTo_J203 d hd n (f_X12_comesTo_L16 n v2 v4 k) M v2 (v3 - 1) v4 (v5 + 1) ((M 91 (Int32.toNatClampNeg v5)) / 1048576) ih
          refine gx_aload_n dX12_comesTo_192 rfl ?_
          refine gx_getR fl_X12_74 sh74 rfl dX12_comesTo_193 ?_
          refine gx_iload_n dX12_comesTo_196 rfl ?_
          refine gx_iaload sh96 dX12_comesTo_197 ?_
          refine gx_if_ne (tgt := 203) dX12_comesTo_198 (by decide) ?_ ?_
          · refine gx_mk (lv' := [some (.inr (some 74)), none, some (.inl v2), some (.inl (v3 - 1)), some (.inl v4), some (.inl (v5 + 1)), some (.inl ((M 91 (Int32.toNatClampNeg v5)) / 1048576)), none]) [true, false, true, true, true, true, true, false] rfl ?_
            exact w_X12_comesTo_J203 d hd n (f_X12_comesTo_L16 n v2 v4 k) M v2 (v3 - 1) v4 (v5 + 1) ((M 91 (Int32.toNatClampNeg v5)) / 1048576) ih
          refine gx_iconst (x := 0) (by decide) dX12_comesTo_201 ?_
          exact gx_iret rfl rfl dX12_comesTo_202
        refine gx_mk (lv' := [some (.inr (some 74)), none, some (.inl v2), some (.inl v3), some (.inl v4), some (.inl (v5 + 1)), some (.inl ((M 91 (Int32.toNatClampNeg v5)) / 1048576)), some (.inl x101)]) [true, false, true, true, true, true, true, true] rfl ?_
        exact w_X12_comesTo_J135 d hd n (f_X12_comesTo_L16 n v2 v4 k) M v2 v3 v4 (v5 + 1) ((M 91 (Int32.toNatClampNeg v5)) / 1048576) x101 ih
      refine gx_aload_n dX12_comesTo_100 rfl ?_
      refine gx_getR fl_X12_74 sh74 rfl dX12_comesTo_101 ?_
      refine gx_iload_n dX12_comesTo_104 rfl ?_
      refine gx_iconst (x := 1) (by decide) dX12_comesTo_105 ?_
      refine gx_isub dX12_comesTo_106 ?_
      refine gx_iconst (x := 1) (by decide) dX12_comesTo_107 ?_
      refine gx_aload_n dX12_comesTo_108 rfl ?_
      refine gx_getR fl_X12_74 sh74 rfl dX12_comesTo_109 ?_
      refine gx_iload_n dX12_comesTo_112 rfl ?_
      refine gx_iconst (x := 1) (by decide) dX12_comesTo_113 ?_
      refine gx_isub dX12_comesTo_114 ?_
      refine gx_iaload sh96 dX12_comesTo_115 ?_
      refine gx_isub dX12_comesTo_116 ?_
      refine gx_iastore sh96 dX12_comesTo_117 ?_
      refine gx_goto (tgt := 230) dX12_comesTo_118 (by decide) ?_
      refine gx_goto (tgt := 16) dX12_comesTo_230 (by decide) ?_
      refine gx_mk (lv' := [some (.inr (some 74)), none, some (.inl v2), some (.inl v3), some (.inl v4), some (.inl (v5 + 1)), none, none]) [true, false, true, true, true, true, false, false] rfl ?_
      exact ih v3 (v5 + 1) (hset M 96 (Int32.toNatClampNeg (v3 - 1)) (1 - (M 96 (Int32.toNatClampNeg (v3 - 1)))))
    refine gx_mk (lv' := [some (.inr (some 74)), none, some (.inl v2), some (.inl v3), some (.inl v4), some (.inl (v5 + 1)), some (.inl ((M 91 (Int32.toNatClampNeg v5)) / 1048576)), some (.inl x101)]) [true, false, true, true, true, true, true, true] rfl ?_
    exact w_X12_comesTo_J63 d hd n (f_X12_comesTo_L16 n v2 v4 k) M v2 v3 v4 (v5 + 1) ((M 91 (Int32.toNatClampNeg v5)) / 1048576) x101 ih
def f_X12_comesTo (n : Nat) (v1 : Int32) (v2 : Int32) (M : HMem) : Option (Int32 × HMem) :=
  f_X12_comesTo_L16 n v2 (260 * (v1 / 260)) n 0 v1 M
set_option maxRecDepth 20000 in
theorem w_X12_comesTo (d : Nat) (hd : 1 ≤ d) (n : Nat) (v1 : Int32) (v2 : Int32) (M : HMem) : GX iX12_comesTo d eI (f_X12_comesTo n v1 v2 M) 0 [some (.inr (some 74)), some (.inl v1), some (.inl v2), none, none, none, none, none] [] M := by
  rw [f_X12_comesTo]
  refine gx_iconst (x := 0) (by decide) dX12_comesTo_0 ?_
  refine gx_istore_n (lv' := [some (.inr (some 74)), some (.inl v1), some (.inl v2), some (.inl 0), none, none, none, none]) dX12_comesTo_1 (by decide) rfl ?_
  refine gx_sipush (x := 260) (by decide) dX12_comesTo_2 ?_
  refine gx_iload_n dX12_comesTo_5 rfl ?_
  refine gx_sipush (x := 260) (by decide) dX12_comesTo_6 ?_
  refine gx_idivL (by decide) dX12_comesTo_9 ?_
  refine gx_imul dX12_comesTo_10 ?_
  refine gx_istore (lv' := [some (.inr (some 74)), some (.inl v1), some (.inl v2), some (.inl 0), some (.inl (260 * (v1 / 260))), none, none, none]) dX12_comesTo_11 (by decide) rfl ?_
  refine gx_iload_n dX12_comesTo_13 rfl ?_
  refine gx_istore (lv' := [some (.inr (some 74)), some (.inl v1), some (.inl v2), some (.inl 0), some (.inl (260 * (v1 / 260))), some (.inl v1), none, none]) dX12_comesTo_14 (by decide) rfl ?_
  refine gx_mk (lv' := [some (.inr (some 74)), none, some (.inl v2), some (.inl 0), some (.inl (260 * (v1 / 260))), some (.inl v1), none, none]) [true, false, true, true, true, true, false, false] rfl ?_
  exact w_X12_comesTo_L16 d hd n v2 (260 * (v1 / 260)) n 0 v1 M
theorem c_X12_comesTo (d : Nat) (hd : 1 ≤ d) (n : Nat) (v1 : Int32) (v2 : Int32) (M : HMem) : MX iX12_comesTo d [.inr (some 74), .inl v1, .inl v2] M eI (f_X12_comesTo n v1 v2 M) := mx_of (by decide +kernel) (Nat.le_of_ble_eq_true rfl) rfl (w_X12_comesTo d hd n v1 v2 M)
-- X12_byLaw
def f_X12_byLaw_L2 (n : Nat) (v1 : Int32) (v2 : Int32) : Nat → Int32 → HMem → Option (Int32 × HMem)
  | 0, _, _ => none
  | k + 1, v3, M =>
    if (M 74 21) ≤ v3 then
      (some (0, M))
    else
      (if hib v3 16 then
      if (M 92 (Int32.toNatClampNeg v3)) = v1 then
        (if hib v3 16 then
        if hib v3 16 then
        hb2 (f_X12_comesTo n (M 94 (Int32.toNatClampNeg v3)) (M 95 (Int32.toNatClampNeg v3)) M) (fun x101 M102 =>
        if x101 = 1 then
          (if hib v3 16 then
          if hib v3 16 then
          hb2 (f_X12_comesTo n (M102 93 (Int32.toNatClampNeg v3)) (M102 94 (Int32.toNatClampNeg v3)) M102) (fun x103 M104 =>
          if 0 ≤ x103 then
            (if x103 ≤ v2 then
              (some (x103, M104))
            else
              (some (v2, M104)))
          else
            (some (0, M104)))
          else none
          else none)
        else
          (f_X12_byLaw_L2 n v1 v2 k (v3 + 1) M102))
        else none
        else none)
      else
        (f_X12_byLaw_L2 n v1 v2 k (v3 + 1) M)
      else none)
set_option maxRecDepth 20000 in
theorem w_X12_byLaw_L2 (d : Nat) (hd : 2 ≤ d) (n : Nat) (v1 : Int32) (v2 : Int32) : ∀ (k : Nat) (v3 : Int32) (M : HMem), GX iX12_byLaw d eI (f_X12_byLaw_L2 n v1 v2 k v3 M) 2 [some (.inr (some 74)), some (.inl v1), some (.inl v2), some (.inl v3), none] [] M := by
  intro k
  induction k with
  | zero => intro v3 M; exact gx_none
  | succ k ih =>
    intro v3 M
    rw [f_X12_byLaw_L2]
    refine gx_iload_n dX12_byLaw_2 rfl ?_
    refine gx_aload_n dX12_byLaw_3 rfl ?_
    refine gx_getI fl_X12_230 sh74 rfl dX12_byLaw_4 ?_
    refine gx_icmp_ge (tgt := 89) dX12_byLaw_7 (by decide) ?_ ?_
    · refine gx_iconst (x := 0) (by decide) dX12_byLaw_89 ?_
      exact gx_iret rfl rfl dX12_byLaw_90
    refine gx_aload_n dX12_byLaw_10 rfl ?_
    refine gx_getR fl_X12_62 sh74 rfl dX12_byLaw_11 ?_
    refine gx_iload_n dX12_byLaw_14 rfl ?_
    refine gx_iaload sh92 dX12_byLaw_15 ?_
    refine gx_iload_n dX12_byLaw_16 rfl ?_
    refine gx_icmp_ne (tgt := 83) dX12_byLaw_17 (by decide) ?_ ?_
    · refine gx_iinc (y := v3 + 1) (lv' := [some (.inr (some 74)), some (.inl v1), some (.inl v2), some (.inl (v3 + 1)), none]) dX12_byLaw_83 rfl rfl (by decide) rfl ?_
      refine gx_goto (tgt := 2) dX12_byLaw_86 (by decide) ?_
      refine gx_mk (lv' := [some (.inr (some 74)), some (.inl v1), some (.inl v2), some (.inl (v3 + 1)), none]) [true, true, true, true, false] rfl ?_
      exact ih (v3 + 1) M
    refine gx_aload_n dX12_byLaw_20 rfl ?_
    refine gx_aload_n dX12_byLaw_21 rfl ?_
    refine gx_getR fl_X12_68 sh74 rfl dX12_byLaw_22 ?_
    refine gx_iload_n dX12_byLaw_25 rfl ?_
    refine gx_iaload sh94 dX12_byLaw_26 ?_
    refine gx_aload_n dX12_byLaw_27 rfl ?_
    refine gx_getR fl_X12_71 sh74 rfl dX12_byLaw_28 ?_
    refine gx_iload_n dX12_byLaw_31 rfl ?_
    refine gx_iaload sh95 dX12_byLaw_32 ?_
    refine gx_cV_im (av := [.inl (M 94 (Int32.toNatClampNeg v3)), .inl (M 95 (Int32.toNatClampNeg v3))]) (st := []) ml_X12_237 (by omega) sh74 (c_X12_comesTo (d - 1) (by omega) n (M 94 (Int32.toNatClampNeg v3)) (M 95 (Int32.toNatClampNeg v3)) M) rfl rfl (Nat.le_of_ble_eq_true rfl) dX12_byLaw_33 (fun x101 M102 => ?_)
    refine gx_iconst (x := 1) (by decide) dX12_byLaw_36 ?_
    refine gx_icmp_eq (tgt := 43) dX12_byLaw_37 (by decide) ?_ ?_
    · refine gx_aload_n dX12_byLaw_43 rfl ?_
      refine gx_aload_n dX12_byLaw_44 rfl ?_
      refine gx_getR fl_X12_65 sh74 rfl dX12_byLaw_45 ?_
      refine gx_iload_n dX12_byLaw_48 rfl ?_
      refine gx_iaload sh93 dX12_byLaw_49 ?_
      refine gx_aload_n dX12_byLaw_50 rfl ?_
      refine gx_getR fl_X12_68 sh74 rfl dX12_byLaw_51 ?_
      refine gx_iload_n dX12_byLaw_54 rfl ?_
      refine gx_iaload sh94 dX12_byLaw_55 ?_
      refine gx_cV_im (av := [.inl (M102 93 (Int32.toNatClampNeg v3)), .inl (M102 94 (Int32.toNatClampNeg v3))]) (st := []) ml_X12_237 (by omega) sh74 (c_X12_comesTo (d - 1) (by omega) n (M102 93 (Int32.toNatClampNeg v3)) (M102 94 (Int32.toNatClampNeg v3)) M102) rfl rfl (Nat.le_of_ble_eq_true rfl) dX12_byLaw_56 (fun x103 M104 => ?_)
      refine gx_istore (lv' := [some (.inr (some 74)), some (.inl v1), some (.inl v2), some (.inl v3), some (.inl x103)]) dX12_byLaw_59 (by decide) rfl ?_
      refine gx_iload dX12_byLaw_61 rfl ?_
      refine gx_if_ge (tgt := 70) dX12_byLaw_63 (by decide) ?_ ?_
      · refine gx_iload dX12_byLaw_70 rfl ?_
        refine gx_iload_n dX12_byLaw_72 rfl ?_
        refine gx_icmp_le (tgt := 80) dX12_byLaw_73 (by decide) ?_ ?_
        · refine gx_iload dX12_byLaw_80 rfl ?_
          exact gx_iret rfl rfl dX12_byLaw_82
        refine gx_iload_n dX12_byLaw_76 rfl ?_
        refine gx_goto (tgt := 82) dX12_byLaw_77 (by decide) ?_
        exact gx_iret rfl rfl dX12_byLaw_82
      refine gx_iconst (x := 0) (by decide) dX12_byLaw_66 ?_
      refine gx_goto (tgt := 82) dX12_byLaw_67 (by decide) ?_
      exact gx_iret rfl rfl dX12_byLaw_82
    refine gx_goto (tgt := 83) dX12_byLaw_40 (by decide) ?_
    refine gx_iinc (y := v3 + 1) (lv' := [some (.inr (some 74)), some (.inl v1), some (.inl v2), some (.inl (v3 + 1)), none]) dX12_byLaw_83 rfl rfl (by decide) rfl ?_
    refine gx_goto (tgt := 2) dX12_byLaw_86 (by decide) ?_
    refine gx_mk (lv' := [some (.inr (some 74)), some (.inl v1), some (.inl v2), some (.inl (v3 + 1)), none]) [true, true, true, true, false] rfl ?_
    exact ih (v3 + 1) M102
def f_X12_byLaw (n : Nat) (v1 : Int32) (v2 : Int32) (M : HMem) : Option (Int32 × HMem) :=
  f_X12_byLaw_L2 n v1 v2 n 0 M
set_option maxRecDepth 20000 in
theorem w_X12_byLaw (d : Nat) (hd : 2 ≤ d) (n : Nat) (v1 : Int32) (v2 : Int32) (M : HMem) : GX iX12_byLaw d eI (f_X12_byLaw n v1 v2 M) 0 [some (.inr (some 74)), some (.inl v1), some (.inl v2), none, none] [] M := by
  rw [f_X12_byLaw]
  refine gx_iconst (x := 0) (by decide) dX12_byLaw_0 ?_
  refine gx_istore_n (lv' := [some (.inr (some 74)), some (.inl v1), some (.inl v2), some (.inl 0), none]) dX12_byLaw_1 (by decide) rfl ?_
  refine gx_mk (lv' := [some (.inr (some 74)), some (.inl v1), some (.inl v2), some (.inl 0), none]) [true, true, true, true, false] rfl ?_
  exact w_X12_byLaw_L2 d hd n v1 v2 n 0 M
theorem c_X12_byLaw (d : Nat) (hd : 2 ≤ d) (n : Nat) (v1 : Int32) (v2 : Int32) (M : HMem) : MX iX12_byLaw d [.inr (some 74), .inl v1, .inl v2] M eI (f_X12_byLaw n v1 v2 M) := mx_of (by decide +kernel) (Nat.le_of_ble_eq_true rfl) rfl (w_X12_byLaw d hd n v1 v2 M)
-- X12_holdsAny
def f_X12_holdsAny_L2 (n : Nat) (v1 : Int32) : Nat → Int32 → HMem → Option (Int32 × HMem)
  | 0, _, _ => none
  | k + 1, v2, M =>
    if (M 74 21) ≤ v2 then
      (some (0, M))
    else
      (if hib v2 16 then
      if (M 92 (Int32.toNatClampNeg v2)) = v1 then
        (if hib v2 16 then
        if hib v2 16 then
        hb2 (f_X12_comesTo n (M 94 (Int32.toNatClampNeg v2)) (M 95 (Int32.toNatClampNeg v2)) M) (fun x101 M102 =>
        if x101 = 1 then
          (some (1, M102))
        else
          (f_X12_holdsAny_L2 n v1 k (v2 + 1) M102))
        else none
        else none)
      else
        (f_X12_holdsAny_L2 n v1 k (v2 + 1) M)
      else none)
set_option maxRecDepth 20000 in
theorem w_X12_holdsAny_L2 (d : Nat) (hd : 2 ≤ d) (n : Nat) (v1 : Int32) : ∀ (k : Nat) (v2 : Int32) (M : HMem), GX iX12_holdsAny d eI (f_X12_holdsAny_L2 n v1 k v2 M) 2 [some (.inr (some 74)), some (.inl v1), some (.inl v2)] [] M := by
  intro k
  induction k with
  | zero => intro v2 M; exact gx_none
  | succ k ih =>
    intro v2 M
    rw [f_X12_holdsAny_L2]
    refine gx_iload_n dX12_holdsAny_2 rfl ?_
    refine gx_aload_n dX12_holdsAny_3 rfl ?_
    refine gx_getI fl_X12_230 sh74 rfl dX12_holdsAny_4 ?_
    refine gx_icmp_ge (tgt := 48) dX12_holdsAny_7 (by decide) ?_ ?_
    · refine gx_iconst (x := 0) (by decide) dX12_holdsAny_48 ?_
      exact gx_zret rfl (by decide) rfl dX12_holdsAny_49
    refine gx_aload_n dX12_holdsAny_10 rfl ?_
    refine gx_getR fl_X12_62 sh74 rfl dX12_holdsAny_11 ?_
    refine gx_iload_n dX12_holdsAny_14 rfl ?_
    refine gx_iaload sh92 dX12_holdsAny_15 ?_
    refine gx_iload_n dX12_holdsAny_16 rfl ?_
    refine gx_icmp_ne (tgt := 42) dX12_holdsAny_17 (by decide) ?_ ?_
    · refine gx_iinc (y := v2 + 1) (lv' := [some (.inr (some 74)), some (.inl v1), some (.inl (v2 + 1))]) dX12_holdsAny_42 rfl rfl (by decide) rfl ?_
      refine gx_goto (tgt := 2) dX12_holdsAny_45 (by decide) ?_
      refine gx_mk (lv' := [some (.inr (some 74)), some (.inl v1), some (.inl (v2 + 1))]) [true, true, true] rfl ?_
      exact ih (v2 + 1) M
    refine gx_aload_n dX12_holdsAny_20 rfl ?_
    refine gx_aload_n dX12_holdsAny_21 rfl ?_
    refine gx_getR fl_X12_68 sh74 rfl dX12_holdsAny_22 ?_
    refine gx_iload_n dX12_holdsAny_25 rfl ?_
    refine gx_iaload sh94 dX12_holdsAny_26 ?_
    refine gx_aload_n dX12_holdsAny_27 rfl ?_
    refine gx_getR fl_X12_71 sh74 rfl dX12_holdsAny_28 ?_
    refine gx_iload_n dX12_holdsAny_31 rfl ?_
    refine gx_iaload sh95 dX12_holdsAny_32 ?_
    refine gx_cV_im (av := [.inl (M 94 (Int32.toNatClampNeg v2)), .inl (M 95 (Int32.toNatClampNeg v2))]) (st := []) ml_X12_237 (by omega) sh74 (c_X12_comesTo (d - 1) (by omega) n (M 94 (Int32.toNatClampNeg v2)) (M 95 (Int32.toNatClampNeg v2)) M) rfl rfl (Nat.le_of_ble_eq_true rfl) dX12_holdsAny_33 (fun x101 M102 => ?_)
    refine gx_iconst (x := 1) (by decide) dX12_holdsAny_36 ?_
    refine gx_icmp_ne (tgt := 42) dX12_holdsAny_37 (by decide) ?_ ?_
    · refine gx_iinc (y := v2 + 1) (lv' := [some (.inr (some 74)), some (.inl v1), some (.inl (v2 + 1))]) dX12_holdsAny_42 rfl rfl (by decide) rfl ?_
      refine gx_goto (tgt := 2) dX12_holdsAny_45 (by decide) ?_
      refine gx_mk (lv' := [some (.inr (some 74)), some (.inl v1), some (.inl (v2 + 1))]) [true, true, true] rfl ?_
      exact ih (v2 + 1) M102
    refine gx_iconst (x := 1) (by decide) dX12_holdsAny_40 ?_
    exact gx_zret rfl (by decide) rfl dX12_holdsAny_41
def f_X12_holdsAny (n : Nat) (v1 : Int32) (M : HMem) : Option (Int32 × HMem) :=
  f_X12_holdsAny_L2 n v1 n 0 M
set_option maxRecDepth 20000 in
theorem w_X12_holdsAny (d : Nat) (hd : 2 ≤ d) (n : Nat) (v1 : Int32) (M : HMem) : GX iX12_holdsAny d eI (f_X12_holdsAny n v1 M) 0 [some (.inr (some 74)), some (.inl v1), none] [] M := by
  rw [f_X12_holdsAny]
  refine gx_iconst (x := 0) (by decide) dX12_holdsAny_0 ?_
  refine gx_istore_n (lv' := [some (.inr (some 74)), some (.inl v1), some (.inl 0)]) dX12_holdsAny_1 (by decide) rfl ?_
  refine gx_mk (lv' := [some (.inr (some 74)), some (.inl v1), some (.inl 0)]) [true, true, true] rfl ?_
  exact w_X12_holdsAny_L2 d hd n v1 n 0 M
theorem c_X12_holdsAny (d : Nat) (hd : 2 ≤ d) (n : Nat) (v1 : Int32) (M : HMem) : MX iX12_holdsAny d [.inr (some 74), .inl v1] M eI (f_X12_holdsAny n v1 M) := mx_of (by decide +kernel) (Nat.le_of_ble_eq_true rfl) rfl (w_X12_holdsAny d hd n v1 M)
-- X12_wayOf
def f_X12_wayOf (v0 : Int32) : Int32 :=
  if v0 = 117 then
    (0)
  else
    (if v0 = 114 then
      (1)
    else
      (if v0 = 100 then
        (2)
      else
        (if v0 = 108 then
          (3)
        else
          (if v0 = 46 then
            (4)
          else
            ((-1))))))
set_option maxRecDepth 20000 in
theorem w_X12_wayOf (d : Nat) (hd : 0 ≤ d) (v0 : Int32) (M : HMem) : GX iX12_wayOf d (eP M) (some (f_X12_wayOf v0)) 0 [some (.inl v0)] [] M := by
  rw [f_X12_wayOf]
  refine gx_iload_n dX12_wayOf_0 rfl ?_
  refine gx_bipush (x := 117) (by decide) dX12_wayOf_1 ?_
  refine gxt_icmp_ne (tgt := 10) dX12_wayOf_3 (by decide) ?_ ?_
  · refine gx_iload_n dX12_wayOf_10 rfl ?_
    refine gx_bipush (x := 114) (by decide) dX12_wayOf_11 ?_
    refine gxt_icmp_ne (tgt := 20) dX12_wayOf_13 (by decide) ?_ ?_
    · refine gx_iload_n dX12_wayOf_20 rfl ?_
      refine gx_bipush (x := 100) (by decide) dX12_wayOf_21 ?_
      refine gxt_icmp_ne (tgt := 30) dX12_wayOf_23 (by decide) ?_ ?_
      · refine gx_iload_n dX12_wayOf_30 rfl ?_
        refine gx_bipush (x := 108) (by decide) dX12_wayOf_31 ?_
        refine gxt_icmp_ne (tgt := 40) dX12_wayOf_33 (by decide) ?_ ?_
        · refine gx_iload_n dX12_wayOf_40 rfl ?_
          refine gx_bipush (x := 46) (by decide) dX12_wayOf_41 ?_
          refine gxt_icmp_ne (tgt := 50) dX12_wayOf_43 (by decide) ?_ ?_
          · refine gx_iconst (x := (-1)) (by decide) dX12_wayOf_50 ?_
            exact gx_iret rfl rfl dX12_wayOf_51
          refine gx_iconst (x := 4) (by decide) dX12_wayOf_46 ?_
          refine gx_goto (tgt := 51) dX12_wayOf_47 (by decide) ?_
          exact gx_iret rfl rfl dX12_wayOf_51
        refine gx_iconst (x := 3) (by decide) dX12_wayOf_36 ?_
        refine gx_goto (tgt := 51) dX12_wayOf_37 (by decide) ?_
        exact gx_iret rfl rfl dX12_wayOf_51
      refine gx_iconst (x := 2) (by decide) dX12_wayOf_26 ?_
      refine gx_goto (tgt := 51) dX12_wayOf_27 (by decide) ?_
      exact gx_iret rfl rfl dX12_wayOf_51
    refine gx_iconst (x := 1) (by decide) dX12_wayOf_16 ?_
    refine gx_goto (tgt := 51) dX12_wayOf_17 (by decide) ?_
    exact gx_iret rfl rfl dX12_wayOf_51
  refine gx_iconst (x := 0) (by decide) dX12_wayOf_6 ?_
  refine gx_goto (tgt := 51) dX12_wayOf_7 (by decide) ?_
  exact gx_iret rfl rfl dX12_wayOf_51
theorem c_X12_wayOf (d : Nat) (hd : 0 ≤ d) (v0 : Int32) (M : HMem) : MX iX12_wayOf d [.inl v0] M (eP M) (some (f_X12_wayOf v0)) := mx_of (by decide +kernel) (Nat.le_of_ble_eq_true rfl) rfl (w_X12_wayOf d hd v0 M)
-- X12_readsTimes
def f_X12_readsTimes  (M : HMem) : Option HMem :=
  hb1 (f_X12_here  (hset (hset M 74 41 (M 74 13)) 74 42 1)) (fun x101 =>
  if (f_X12_in x101 50 57) = 0 then
    (some (hset (hset M 74 41 (M 74 13)) 74 42 1))
  else
    (hb1 (f_X12_here  (hset (hset M 74 41 (M 74 13)) 74 42 1)) (fun x102 =>
    hb1 (some (hset (hset (hset M 74 41 (M 74 13)) 74 42 1) 74 42 (x102 - 48))) (fun M103 =>
    some (hset M103 74 13 ((M103 74 13) + 1))))))
set_option maxRecDepth 20000 in
theorem w_X12_readsTimes (d : Nat) (hd : 1 ≤ d)  (M : HMem) : GX iX12_readsTimes d eV (f_X12_readsTimes  M) 0 [some (.inr (some 74))] [] M := by
  rw [f_X12_readsTimes]
  refine gx_aload_n dX12_readsTimes_0 rfl ?_
  refine gx_aload_n dX12_readsTimes_1 rfl ?_
  refine gx_getI fl_X12_137 sh74 rfl dX12_readsTimes_2 ?_
  refine gx_putI fl_X12_241 fp_X12_41 sh74 rfl dX12_readsTimes_5 ?_
  refine gx_aload_n dX12_readsTimes_8 rfl ?_
  refine gx_iconst (x := 1) (by decide) dX12_readsTimes_9 ?_
  refine gx_putI fl_X12_244 fp_X12_42 sh74 rfl dX12_readsTimes_10 ?_
  refine gx_aload_n dX12_readsTimes_13 rfl ?_
  refine gx_cV_ip (av := []) (st := []) ml_X12_143 (by omega) sh74 (c_X12_here (d - 1) (by omega)  (hset (hset M 74 41 (M 74 13)) 74 42 1)) rfl rfl (Nat.le_of_ble_eq_true rfl) dX12_readsTimes_14 (fun x101 => ?_)
  refine gx_bipush (x := 50) (by decide) dX12_readsTimes_17 ?_
  refine gx_bipush (x := 57) (by decide) dX12_readsTimes_19 ?_
  refine gx_cS_it (av := [.inl x101, .inl 50, .inl 57]) (st := []) ml_X12_118 (by omega) (c_X12_in (d - 1) (by omega) x101 50 57 (hset (hset M 74 41 (M 74 13)) 74 42 1)) rfl rfl (Nat.le_of_ble_eq_true rfl) dX12_readsTimes_21 ?_
  refine gx_if_ne (tgt := 28) dX12_readsTimes_24 (by decide) ?_ ?_
  · refine gx_aload_n dX12_readsTimes_28 rfl ?_
    refine gx_aload_n dX12_readsTimes_29 rfl ?_
    refine gx_cV_ip (av := []) (st := [.inr (some 74)]) ml_X12_143 (by omega) sh74 (c_X12_here (d - 1) (by omega)  (hset (hset M 74 41 (M 74 13)) 74 42 1)) rfl rfl (Nat.le_of_ble_eq_true rfl) dX12_readsTimes_30 (fun x102 => ?_)
    refine gx_bipush (x := 48) (by decide) dX12_readsTimes_33 ?_
    refine gx_isub dX12_readsTimes_35 ?_
    refine gx_putI fl_X12_244 fp_X12_42 sh74 rfl dX12_readsTimes_36 ?_
    refine gx_aload_n dX12_readsTimes_39 rfl ?_
    refine gx_aload_n dX12_readsTimes_40 rfl ?_
    refine gx_nm (fun M103 => ?_)
    refine gx_getI fl_X12_137 sh74 rfl dX12_readsTimes_41 ?_
    refine gx_iconst (x := 1) (by decide) dX12_readsTimes_44 ?_
    refine gx_iadd dX12_readsTimes_45 ?_
    refine gx_putI fl_X12_137 fp_X12_13 sh74 rfl dX12_readsTimes_46 ?_
    exact gx_vret rfl rfl dX12_readsTimes_49
  exact gx_vret rfl rfl dX12_readsTimes_27
theorem c_X12_readsTimes (d : Nat) (hd : 1 ≤ d)  (M : HMem) : MX iX12_readsTimes d [.inr (some 74)] M eV (f_X12_readsTimes  M) := mx_of (by decide +kernel) (Nat.le_of_ble_eq_true rfl) rfl (w_X12_readsTimes d hd  M)
-- X12_repeats
def f_X12_repeats_L31 (n : Nat) (v1 : Int32) (v2 : Int32) (v4 : Int32) : Nat → Int32 → HMem → Option (Int32 × HMem)
  | 0, _, _ => none
  | k + 1, v5, M =>
    if (v4 * v2) ≤ v5 then
      (some (1, hset M 74 39 (v1 + (v4 * v2))))
    else
      (if hib ((v1 + v5) - v4) 96 then
      if hib (v1 + v5) 96 then
      f_X12_repeats_L31 n v1 v2 v4 k (v5 + 1) (hset M 98 (Int32.toNatClampNeg (v1 + v5)) (M 98 (Int32.toNatClampNeg ((v1 + v5) - v4))))
      else none
      else none)
set_option maxRecDepth 20000 in
theorem w_X12_repeats_L31 (d : Nat) (hd : 1 ≤ d) (n : Nat) (v1 : Int32) (v2 : Int32) (v4 : Int32) : ∀ (k : Nat) (v5 : Int32) (M : HMem), GX iX12_repeats d eI (f_X12_repeats_L31 n v1 v2 v4 k v5 M) 31 [some (.inr (some 74)), some (.inl v1), some (.inl v2), none, some (.inl v4), some (.inl v5)] [] M := by
  intro k
  induction k with
  | zero => intro v5 M; exact gx_none
  | succ k ih =>
    intro v5 M
    rw [f_X12_repeats_L31]
    refine gx_iload dX12_repeats_31 rfl ?_
    refine gx_iload dX12_repeats_33 rfl ?_
    refine gx_iload_n dX12_repeats_35 rfl ?_
    refine gx_imul dX12_repeats_36 ?_
    refine gx_icmp_ge (tgt := 67) dX12_repeats_37 (by decide) ?_ ?_
    · refine gx_aload_n dX12_repeats_67 rfl ?_
      refine gx_iload_n dX12_repeats_68 rfl ?_
      refine gx_iload dX12_repeats_69 rfl ?_
      refine gx_iload_n dX12_repeats_71 rfl ?_
      refine gx_imul dX12_repeats_72 ?_
      refine gx_iadd dX12_repeats_73 ?_
      refine gx_putI fl_X12_247 fp_X12_39 sh74 rfl dX12_repeats_74 ?_
      refine gx_iconst (x := 1) (by decide) dX12_repeats_77 ?_
      exact gx_zret rfl (by decide) rfl dX12_repeats_78
    refine gx_aload_n dX12_repeats_40 rfl ?_
    refine gx_getR fl_X12_80 sh74 rfl dX12_repeats_41 ?_
    refine gx_iload_n dX12_repeats_44 rfl ?_
    refine gx_iload dX12_repeats_45 rfl ?_
    refine gx_iadd dX12_repeats_47 ?_
    refine gx_aload_n dX12_repeats_48 rfl ?_
    refine gx_getR fl_X12_80 sh74 rfl dX12_repeats_49 ?_
    refine gx_iload_n dX12_repeats_52 rfl ?_
    refine gx_iload dX12_repeats_53 rfl ?_
    refine gx_iadd dX12_repeats_55 ?_
    refine gx_iload dX12_repeats_56 rfl ?_
    refine gx_isub dX12_repeats_58 ?_
    refine gx_iaload sh98 dX12_repeats_59 ?_
    refine gx_iastore sh98 dX12_repeats_60 ?_
    refine gx_iinc (y := v5 + 1) (lv' := [some (.inr (some 74)), some (.inl v1), some (.inl v2), none, some (.inl v4), some (.inl (v5 + 1))]) dX12_repeats_61 rfl rfl (by decide) rfl ?_
    refine gx_goto (tgt := 31) dX12_repeats_64 (by decide) ?_
    refine gx_mk (lv' := [some (.inr (some 74)), some (.inl v1), some (.inl v2), none, some (.inl v4), some (.inl (v5 + 1))]) [true, true, true, false, true, true] rfl ?_
    exact ih (v5 + 1) (hset M 98 (Int32.toNatClampNeg (v1 + v5)) (M 98 (Int32.toNatClampNeg ((v1 + v5) - v4))))
def f_X12_repeats (n : Nat) (v1 : Int32) (v2 : Int32) (v3 : Int32) (M : HMem) : Option (Int32 × HMem) :=
  if (v1 + (((M 74 39) - v1) * v2)) ≤ 96 then
    (f_X12_repeats_L31 n v1 v2 ((M 74 39) - v1) n ((M 74 39) - v1) M)
  else
    (hb2 (f_X12_wrongAt 6 v3 M) (fun x101 M102 =>
    if x101 &&& 1 = x101 then some (x101, M102) else none))
set_option maxRecDepth 20000 in
theorem w_X12_repeats (d : Nat) (hd : 1 ≤ d) (n : Nat) (v1 : Int32) (v2 : Int32) (v3 : Int32) (M : HMem) : GX iX12_repeats d eI (f_X12_repeats n v1 v2 v3 M) 0 [some (.inr (some 74)), some (.inl v1), some (.inl v2), some (.inl v3), none, none] [] M := by
  rw [f_X12_repeats]
  refine gx_aload_n dX12_repeats_0 rfl ?_
  refine gx_getI fl_X12_247 sh74 rfl dX12_repeats_1 ?_
  refine gx_iload_n dX12_repeats_4 rfl ?_
  refine gx_isub dX12_repeats_5 ?_
  refine gx_istore (lv' := [some (.inr (some 74)), some (.inl v1), some (.inl v2), some (.inl v3), some (.inl ((M 74 39) - v1)), none]) dX12_repeats_6 (by decide) rfl ?_
  refine gx_iload_n dX12_repeats_8 rfl ?_
  refine gx_iload dX12_repeats_9 rfl ?_
  refine gx_iload_n dX12_repeats_11 rfl ?_
  refine gx_imul dX12_repeats_12 ?_
  refine gx_iadd dX12_repeats_13 ?_
  refine gx_bipush (x := 96) (by decide) dX12_repeats_14 ?_
  refine gx_icmp_le (tgt := 27) dX12_repeats_16 (by decide) ?_ ?_
  · refine gx_iload dX12_repeats_27 rfl ?_
    refine gx_istore (lv' := [some (.inr (some 74)), some (.inl v1), some (.inl v2), some (.inl v3), some (.inl ((M 74 39) - v1)), some (.inl ((M 74 39) - v1))]) dX12_repeats_29 (by decide) rfl ?_
    refine gx_mk (lv' := [some (.inr (some 74)), some (.inl v1), some (.inl v2), none, some (.inl ((M 74 39) - v1)), some (.inl ((M 74 39) - v1))]) [true, true, true, false, true, true] rfl ?_
    exact w_X12_repeats_L31 d hd n v1 v2 ((M 74 39) - v1) n ((M 74 39) - v1) M
  refine gx_aload_n dX12_repeats_19 rfl ?_
  refine gx_bipush (x := 6) (by decide) dX12_repeats_20 ?_
  refine gx_iload_n dX12_repeats_22 rfl ?_
  refine gx_cV_im (av := [.inl 6, .inl v3]) (st := []) ml_X12_150 (by omega) sh74 (c_X12_wrongAt (d - 1) (by omega) 6 v3 M) rfl rfl (Nat.le_of_ble_eq_true rfl) dX12_repeats_23 (fun x101 M102 => ?_)
  exact gx_zretG rfl rfl dX12_repeats_26
theorem c_X12_repeats (d : Nat) (hd : 1 ≤ d) (n : Nat) (v1 : Int32) (v2 : Int32) (v3 : Int32) (M : HMem) : MX iX12_repeats d [.inr (some 74), .inl v1, .inl v2, .inl v3] M eI (f_X12_repeats n v1 v2 v3 M) := mx_of (by decide +kernel) (Nat.le_of_ble_eq_true rfl) rfl (w_X12_repeats d hd n v1 v2 v3 M)
-- X12_readsStep
def f_X12_readsStep_L196 (n : Nat)  : Nat → HMem → Option (Int32 × HMem)
  | 0, _ => none
  | k + 1, M =>
    hb1 (f_X12_here  M) (fun x101 =>
    if x101 = 41 then
      (if (M 74 40) ≤ 0 then
        (some (1, M))
      else
        (hb1 (some (hset (hset M 74 13 ((M 74 13) + 1)) 74 40 (((hset M 74 13 ((M 74 13) + 1)) 74 40) - 1))) (fun M102 =>
        if hib (M102 74 40) 2 then
        if hib (M102 74 40) 2 then
        if hib (M102 74 40) 2 then
        hb2 (f_X12_repeats n (M102 100 (Int32.toNatClampNeg (M102 74 40))) (M102 101 (Int32.toNatClampNeg (M102 74 40))) (M102 99 (Int32.toNatClampNeg (M102 74 40))) M102) (fun x103 M104 =>
        if x103 = 0 then
          (some (0, M104))
        else
          (f_X12_readsStep_L196 n k  M104))
        else none
        else none
        else none)))
    else
      (some (1, M)))
set_option maxRecDepth 20000 in
theorem w_X12_readsStep_L196 (d : Nat) (hd : 2 ≤ d) (n : Nat)  : ∀ (k : Nat)  (M : HMem), GX iX12_readsStep d eI (f_X12_readsStep_L196 n k  M) 196 [some (.inr (some 74)), none, none, none] [] M := by
  intro k
  induction k with
  | zero => intro  M; exact gx_none
  | succ k ih =>
    intro  M
    rw [f_X12_readsStep_L196]
    refine gx_aload_n dX12_readsStep_196 rfl ?_
    refine gx_cV_ip (av := []) (st := []) ml_X12_143 (by omega) sh74 (c_X12_here (d - 1) (by omega)  M) rfl rfl (Nat.le_of_ble_eq_true rfl) dX12_readsStep_197 (fun x101 => ?_)
    refine gx_bipush (x := 41) (by decide) dX12_readsStep_200 ?_
    refine gx_icmp_ne (tgt := 268) dX12_readsStep_202 (by decide) ?_ ?_
    · refine gx_iconst (x := 1) (by decide) dX12_readsStep_268 ?_
      exact gx_zret rfl (by decide) rfl dX12_readsStep_269
    refine gx_aload_n dX12_readsStep_205 rfl ?_
    refine gx_getI fl_X12_253 sh74 rfl dX12_readsStep_206 ?_
    refine gx_if_le (tgt := 268) dX12_readsStep_209 (by decide) ?_ ?_
    · refine gx_iconst (x := 1) (by decide) dX12_readsStep_268 ?_
      exact gx_zret rfl (by decide) rfl dX12_readsStep_269
    refine gx_aload_n dX12_readsStep_212 rfl ?_
    refine gx_aload_n dX12_readsStep_213 rfl ?_
    refine gx_getI fl_X12_137 sh74 rfl dX12_readsStep_214 ?_
    refine gx_iconst (x := 1) (by decide) dX12_readsStep_217 ?_
    refine gx_iadd dX12_readsStep_218 ?_
    refine gx_putI fl_X12_137 fp_X12_13 sh74 rfl dX12_readsStep_219 ?_
    refine gx_aload_n dX12_readsStep_222 rfl ?_
    refine gx_aload_n dX12_readsStep_223 rfl ?_
    refine gx_getI fl_X12_253 sh74 rfl dX12_readsStep_224 ?_
    refine gx_iconst (x := 1) (by decide) dX12_readsStep_227 ?_
    refine gx_isub dX12_readsStep_228 ?_
    refine gx_putI fl_X12_253 fp_X12_40 sh74 rfl dX12_readsStep_229 ?_
    refine gx_aload_n dX12_readsStep_232 rfl ?_
    refine gx_aload_n dX12_readsStep_233 rfl ?_
    refine gx_getR fl_X12_86 sh74 rfl dX12_readsStep_234 ?_
    refine gx_aload_n dX12_readsStep_237 rfl ?_
    refine gx_nm (fun M102 => ?_)
    refine gx_getI fl_X12_253 sh74 rfl dX12_readsStep_238 ?_
    refine gx_iaload sh100 dX12_readsStep_241 ?_
    refine gx_aload_n dX12_readsStep_242 rfl ?_
    refine gx_getR fl_X12_89 sh74 rfl dX12_readsStep_243 ?_
    refine gx_aload_n dX12_readsStep_246 rfl ?_
    refine gx_getI fl_X12_253 sh74 rfl dX12_readsStep_247 ?_
    refine gx_iaload sh101 dX12_readsStep_250 ?_
    refine gx_aload_n dX12_readsStep_251 rfl ?_
    refine gx_getR fl_X12_83 sh74 rfl dX12_readsStep_252 ?_
    refine gx_aload_n dX12_readsStep_255 rfl ?_
    refine gx_getI fl_X12_253 sh74 rfl dX12_readsStep_256 ?_
    refine gx_iaload sh99 dX12_readsStep_259 ?_
    refine gx_cV_im (av := [.inl (M102 100 (Int32.toNatClampNeg (M102 74 40))), .inl (M102 101 (Int32.toNatClampNeg (M102 74 40))), .inl (M102 99 (Int32.toNatClampNeg (M102 74 40)))]) (st := []) ml_X12_259 (by omega) sh74 (c_X12_repeats (d - 1) (by omega) n (M102 100 (Int32.toNatClampNeg (M102 74 40))) (M102 101 (Int32.toNatClampNeg (M102 74 40))) (M102 99 (Int32.toNatClampNeg (M102 74 40))) M102) rfl rfl (Nat.le_of_ble_eq_true rfl) dX12_readsStep_260 (fun x103 M104 => ?_)
    refine gx_if_ne (tgt := 196) dX12_readsStep_263 (by decide) ?_ ?_
    · refine gx_mk (lv' := [some (.inr (some 74)), none, none, none]) [true, false, false, false] rfl ?_
      exact ih  M104
    refine gx_iconst (x := 0) (by decide) dX12_readsStep_266 ?_
    exact gx_zret rfl (by decide) rfl dX12_readsStep_267
def f_X12_readsStep_L4 (n : Nat)  : Nat → HMem → Option (Int32 × HMem)
  | 0, _ => none
  | k + 1, M =>
    hb1 (f_X12_here  M) (fun x101 =>
    if x101 = 40 then
      (if (M 74 40) = 2 then
        (hb2 (f_X12_wrongAt 5 (M 74 13) M) (fun x115 M116 =>
        if x115 &&& 1 = x115 then some (x115, M116) else none))
      else
        (if hib (M 74 40) 2 then
        hb1 (some (hset M 99 (Int32.toNatClampNeg (M 74 40)) (M 74 41))) (fun M110 =>
        if hib (M110 74 40) 2 then
        hb1 (some (hset M110 100 (Int32.toNatClampNeg (M110 74 40)) (M110 74 39))) (fun M111 =>
        if hib (M111 74 40) 2 then
        hb1 (some (hset M111 101 (Int32.toNatClampNeg (M111 74 40)) (M111 74 42))) (fun M112 =>
        hb1 (some (hset (hset M112 74 40 ((M112 74 40) + 1)) 74 13 (((hset M112 74 40 ((M112 74 40) + 1)) 74 13) + 1))) (fun M113 =>
        hb1 (f_X12_readsTimes  M113) (fun M114 =>
        f_X12_readsStep_L4 n k  M114)))
        else none)
        else none)
        else none))
    else
      (hb1 (f_X12_here  M) (fun x102 =>
      if (f_X12_wayOf x102) = (-1) then
        (hb2 (f_X12_wrongAt 1 (M 74 13) M) (fun x108 M109 =>
        if x108 &&& 1 = x108 then some (x108, M109) else none))
      else
        (if ((M 74 39) + (M 74 42)) ≤ 96 then
          (if hib ((hset M 74 13 ((M 74 13) + 1)) 74 39) 96 then
          hb1 (some (hset (hset M 74 13 ((M 74 13) + 1)) 98 (Int32.toNatClampNeg ((hset M 74 13 ((M 74 13) + 1)) 74 39)) (f_X12_wayOf x102))) (fun M103 =>
          hb2 (f_X12_repeats n (((hset M103 74 39 ((M103 74 39) + 1)) 74 39) - 1) (M 74 42) (M 74 41) (hset M103 74 39 ((M103 74 39) + 1))) (fun x104 M105 =>
          if x104 = 0 then
            (some (0, M105))
          else
            (f_X12_readsStep_L196 n n  M105)))
          else none)
        else
          (hb2 (f_X12_wrongAt 6 (M 74 41) M) (fun x106 M107 =>
          if x106 &&& 1 = x106 then some (x106, M107) else none))))))
set_option maxRecDepth 20000 in
theorem w_X12_readsStep_L4 (d : Nat) (hd : 2 ≤ d) (n : Nat)  : ∀ (k : Nat)  (M : HMem), GX iX12_readsStep d eI (f_X12_readsStep_L4 n k  M) 4 [some (.inr (some 74)), none, none, none] [] M := by
  intro k
  induction k with
  | zero => intro  M; exact gx_none
  | succ k ih =>
    intro  M
    rw [f_X12_readsStep_L4]
    refine gx_aload_n dX12_readsStep_4 rfl ?_
    refine gx_cV_ip (av := []) (st := []) ml_X12_143 (by omega) sh74 (c_X12_here (d - 1) (by omega)  M) rfl rfl (Nat.le_of_ble_eq_true rfl) dX12_readsStep_5 (fun x101 => ?_)
    refine gx_bipush (x := 40) (by decide) dX12_readsStep_8 ?_
    refine gx_icmp_ne (tgt := 97) dX12_readsStep_10 (by decide) ?_ ?_
    · refine gx_aload_n dX12_readsStep_97 rfl ?_
      refine gx_getI fl_X12_241 sh74 rfl dX12_readsStep_98 ?_
      refine gx_istore_n (lv' := [some (.inr (some 74)), some (.inl (M 74 41)), none, none]) dX12_readsStep_101 (by decide) rfl ?_
      refine gx_aload_n dX12_readsStep_102 rfl ?_
      refine gx_getI fl_X12_244 sh74 rfl dX12_readsStep_103 ?_
      refine gx_istore_n (lv' := [some (.inr (some 74)), some (.inl (M 74 41)), some (.inl (M 74 42)), none]) dX12_readsStep_106 (by decide) rfl ?_
      refine gx_aload_n dX12_readsStep_107 rfl ?_
      refine gx_cV_ip (av := []) (st := []) ml_X12_143 (by omega) sh74 (c_X12_here (d - 1) (by omega)  M) rfl rfl (Nat.le_of_ble_eq_true rfl) dX12_readsStep_108 (fun x102 => ?_)
      refine gx_cS_it (av := [.inl x102]) (st := []) ml_X12_256 (by omega) (c_X12_wayOf (d - 1) (by omega) x102 M) rfl rfl (Nat.le_of_ble_eq_true rfl) dX12_readsStep_111 ?_
      refine gx_istore_n (lv' := [some (.inr (some 74)), some (.inl (M 74 41)), some (.inl (M 74 42)), some (.inl (f_X12_wayOf x102))]) dX12_readsStep_114 (by decide) rfl ?_
      refine gx_iload_n dX12_readsStep_115 rfl ?_
      refine gx_iconst (x := (-1)) (by decide) dX12_readsStep_116 ?_
      refine gx_icmp_ne (tgt := 130) dX12_readsStep_117 (by decide) ?_ ?_
      · refine gx_aload_n dX12_readsStep_130 rfl ?_
        refine gx_getI fl_X12_247 sh74 rfl dX12_readsStep_131 ?_
        refine gx_iload_n dX12_readsStep_134 rfl ?_
        refine gx_iadd dX12_readsStep_135 ?_
        refine gx_bipush (x := 96) (by decide) dX12_readsStep_136 ?_
        refine gx_icmp_le (tgt := 149) dX12_readsStep_138 (by decide) ?_ ?_
        · refine gx_aload_n dX12_readsStep_149 rfl ?_
          refine gx_aload_n dX12_readsStep_150 rfl ?_
          refine gx_getI fl_X12_137 sh74 rfl dX12_readsStep_151 ?_
          refine gx_iconst (x := 1) (by decide) dX12_readsStep_154 ?_
          refine gx_iadd dX12_readsStep_155 ?_
          refine gx_putI fl_X12_137 fp_X12_13 sh74 rfl dX12_readsStep_156 ?_
          refine gx_aload_n dX12_readsStep_159 rfl ?_
          refine gx_getR fl_X12_80 sh74 rfl dX12_readsStep_160 ?_
          refine gx_aload_n dX12_readsStep_163 rfl ?_
          refine gx_getI fl_X12_247 sh74 rfl dX12_readsStep_164 ?_
          refine gx_iload_n dX12_readsStep_167 rfl ?_
          refine gx_iastore sh98 dX12_readsStep_168 ?_
          refine gx_aload_n dX12_readsStep_169 rfl ?_
          refine gx_aload_n dX12_readsStep_170 rfl ?_
          refine gx_nm (fun M103 => ?_)
          refine gx_getI fl_X12_247 sh74 rfl dX12_readsStep_171 ?_
          refine gx_iconst (x := 1) (by decide) dX12_readsStep_174 ?_
          refine gx_iadd dX12_readsStep_175 ?_
          refine gx_putI fl_X12_247 fp_X12_39 sh74 rfl dX12_readsStep_176 ?_
          refine gx_aload_n dX12_readsStep_179 rfl ?_
          refine gx_aload_n dX12_readsStep_180 rfl ?_
          refine gx_getI fl_X12_247 sh74 rfl dX12_readsStep_181 ?_
          refine gx_iconst (x := 1) (by decide) dX12_readsStep_184 ?_
          refine gx_isub dX12_readsStep_185 ?_
          refine gx_iload_n dX12_readsStep_186 rfl ?_
          refine gx_iload_n dX12_readsStep_187 rfl ?_
          refine gx_cV_im (av := [.inl (((hset M103 74 39 ((M103 74 39) + 1)) 74 39) - 1), .inl (M 74 42), .inl (M 74 41)]) (st := []) ml_X12_259 (by omega) sh74 (c_X12_repeats (d - 1) (by omega) n (((hset M103 74 39 ((M103 74 39) + 1)) 74 39) - 1) (M 74 42) (M 74 41) (hset M103 74 39 ((M103 74 39) + 1))) rfl rfl (Nat.le_of_ble_eq_true rfl) dX12_readsStep_188 (fun x104 M105 => ?_)
          refine gx_if_ne (tgt := 196) dX12_readsStep_191 (by decide) ?_ ?_
          · refine gx_mk (lv' := [some (.inr (some 74)), none, none, none]) [true, false, false, false] rfl ?_
            exact w_X12_readsStep_L196 d hd n  n  M105
          refine gx_iconst (x := 0) (by decide) dX12_readsStep_194 ?_
          exact gx_zret rfl (by decide) rfl dX12_readsStep_195
        refine gx_aload_n dX12_readsStep_141 rfl ?_
        refine gx_bipush (x := 6) (by decide) dX12_readsStep_142 ?_
        refine gx_iload_n dX12_readsStep_144 rfl ?_
        refine gx_cV_im (av := [.inl 6, .inl (M 74 41)]) (st := []) ml_X12_150 (by omega) sh74 (c_X12_wrongAt (d - 1) (by omega) 6 (M 74 41) M) rfl rfl (Nat.le_of_ble_eq_true rfl) dX12_readsStep_145 (fun x106 M107 => ?_)
        exact gx_zretG rfl rfl dX12_readsStep_148
      refine gx_aload_n dX12_readsStep_120 rfl ?_
      refine gx_iconst (x := 1) (by decide) dX12_readsStep_121 ?_
      refine gx_aload_n dX12_readsStep_122 rfl ?_
      refine gx_getI fl_X12_137 sh74 rfl dX12_readsStep_123 ?_
      refine gx_cV_im (av := [.inl 1, .inl (M 74 13)]) (st := []) ml_X12_150 (by omega) sh74 (c_X12_wrongAt (d - 1) (by omega) 1 (M 74 13) M) rfl rfl (Nat.le_of_ble_eq_true rfl) dX12_readsStep_126 (fun x108 M109 => ?_)
      exact gx_zretG rfl rfl dX12_readsStep_129
    refine gx_aload_n dX12_readsStep_13 rfl ?_
    refine gx_getI fl_X12_253 sh74 rfl dX12_readsStep_14 ?_
    refine gx_iconst (x := 2) (by decide) dX12_readsStep_17 ?_
    refine gx_icmp_ne (tgt := 31) dX12_readsStep_18 (by decide) ?_ ?_
    · refine gx_aload_n dX12_readsStep_31 rfl ?_
      refine gx_getR fl_X12_83 sh74 rfl dX12_readsStep_32 ?_
      refine gx_aload_n dX12_readsStep_35 rfl ?_
      refine gx_getI fl_X12_253 sh74 rfl dX12_readsStep_36 ?_
      refine gx_aload_n dX12_readsStep_39 rfl ?_
      refine gx_getI fl_X12_241 sh74 rfl dX12_readsStep_40 ?_
      refine gx_iastore sh99 dX12_readsStep_43 ?_
      refine gx_aload_n dX12_readsStep_44 rfl ?_
      refine gx_getR fl_X12_86 sh74 rfl dX12_readsStep_45 ?_
      refine gx_aload_n dX12_readsStep_48 rfl ?_
      refine gx_nm (fun M110 => ?_)
      refine gx_getI fl_X12_253 sh74 rfl dX12_readsStep_49 ?_
      refine gx_aload_n dX12_readsStep_52 rfl ?_
      refine gx_getI fl_X12_247 sh74 rfl dX12_readsStep_53 ?_
      refine gx_iastore sh100 dX12_readsStep_56 ?_
      refine gx_aload_n dX12_readsStep_57 rfl ?_
      refine gx_getR fl_X12_89 sh74 rfl dX12_readsStep_58 ?_
      refine gx_aload_n dX12_readsStep_61 rfl ?_
      refine gx_nm (fun M111 => ?_)
      refine gx_getI fl_X12_253 sh74 rfl dX12_readsStep_62 ?_
      refine gx_aload_n dX12_readsStep_65 rfl ?_
      refine gx_getI fl_X12_244 sh74 rfl dX12_readsStep_66 ?_
      refine gx_iastore sh101 dX12_readsStep_69 ?_
      refine gx_aload_n dX12_readsStep_70 rfl ?_
      refine gx_aload_n dX12_readsStep_71 rfl ?_
      refine gx_nm (fun M112 => ?_)
      refine gx_getI fl_X12_253 sh74 rfl dX12_readsStep_72 ?_
      refine gx_iconst (x := 1) (by decide) dX12_readsStep_75 ?_
      refine gx_iadd dX12_readsStep_76 ?_
      refine gx_putI fl_X12_253 fp_X12_40 sh74 rfl dX12_readsStep_77 ?_
      refine gx_aload_n dX12_readsStep_80 rfl ?_
      refine gx_aload_n dX12_readsStep_81 rfl ?_
      refine gx_getI fl_X12_137 sh74 rfl dX12_readsStep_82 ?_
      refine gx_iconst (x := 1) (by decide) dX12_readsStep_85 ?_
      refine gx_iadd dX12_readsStep_86 ?_
      refine gx_putI fl_X12_137 fp_X12_13 sh74 rfl dX12_readsStep_87 ?_
      refine gx_aload_n dX12_readsStep_90 rfl ?_
      refine gx_nm (fun M113 => ?_)
      refine gx_cV_vm (av := []) (st := []) ml_X12_250 (by omega) sh74 (c_X12_readsTimes (d - 1) (by omega)  M113) rfl rfl (Nat.le_of_ble_eq_true rfl) dX12_readsStep_91 (fun M114 => ?_)
      refine gx_goto (tgt := 4) dX12_readsStep_94 (by decide) ?_
      refine gx_mk (lv' := [some (.inr (some 74)), none, none, none]) [true, false, false, false] rfl ?_
      exact ih  M114
    refine gx_aload_n dX12_readsStep_21 rfl ?_
    refine gx_iconst (x := 5) (by decide) dX12_readsStep_22 ?_
    refine gx_aload_n dX12_readsStep_23 rfl ?_
    refine gx_getI fl_X12_137 sh74 rfl dX12_readsStep_24 ?_
    refine gx_cV_im (av := [.inl 5, .inl (M 74 13)]) (st := []) ml_X12_150 (by omega) sh74 (c_X12_wrongAt (d - 1) (by omega) 5 (M 74 13) M) rfl rfl (Nat.le_of_ble_eq_true rfl) dX12_readsStep_27 (fun x115 M116 => ?_)
    exact gx_zretG rfl rfl dX12_readsStep_30
def f_X12_readsStep (n : Nat)  (M : HMem) : Option (Int32 × HMem) :=
  hb1 (f_X12_readsTimes  M) (fun M101 =>
  f_X12_readsStep_L4 n n  M101)
set_option maxRecDepth 20000 in
theorem w_X12_readsStep (d : Nat) (hd : 2 ≤ d) (n : Nat)  (M : HMem) : GX iX12_readsStep d eI (f_X12_readsStep n  M) 0 [some (.inr (some 74)), none, none, none] [] M := by
  rw [f_X12_readsStep]
  refine gx_aload_n dX12_readsStep_0 rfl ?_
  refine gx_cV_vm (av := []) (st := []) ml_X12_250 (by omega) sh74 (c_X12_readsTimes (d - 1) (by omega)  M) rfl rfl (Nat.le_of_ble_eq_true rfl) dX12_readsStep_1 (fun M101 => ?_)
  refine gx_mk (lv' := [some (.inr (some 74)), none, none, none]) [true, false, false, false] rfl ?_
  exact w_X12_readsStep_L4 d hd n  n  M101
theorem c_X12_readsStep (d : Nat) (hd : 2 ≤ d) (n : Nat)  (M : HMem) : MX iX12_readsStep d [.inr (some 74)] M eI (f_X12_readsStep n  M) := mx_of (by decide +kernel) (Nat.le_of_ble_eq_true rfl) rfl (w_X12_readsStep d hd n  M)
-- X12_beside
def f_X12_beside_J47 (v0 : Int32) (v2 : Int32) (s0 : Int32) (s1 : Int32) : Int32 :=
  if (f_X12_isPlace v2 (s1 + s0)) = 0 then
    (v0)
  else
    (((16 * (s1 + s0)) + v2))
set_option maxRecDepth 20000 in
theorem w_X12_beside_J47 (d : Nat) (hd : 2 ≤ d) (M : HMem) (v0 : Int32) (v2 : Int32) (s0 : Int32) (s1 : Int32) : GX iX12_beside d (eP M) (some (f_X12_beside_J47 v0 v2 s0 s1)) 47 [some (.inl v0), none, some (.inl v2), none] [.inl s0, .inl s1] M := by
  rw [f_X12_beside_J47]
  refine gx_iadd dX12_beside_47 ?_
  refine gx_istore_n (lv' := [some (.inl v0), none, some (.inl v2), some (.inl (s1 + s0))]) dX12_beside_48 (by decide) rfl ?_
  refine gx_iload_n dX12_beside_49 rfl ?_
  refine gx_iload_n dX12_beside_50 rfl ?_
  refine gx_cS_it (av := [.inl v2, .inl (s1 + s0)]) (st := []) ml_X12_126 (by omega) (c_X12_isPlace (d - 1) (by omega) v2 (s1 + s0) M) rfl rfl (Nat.le_of_ble_eq_true rfl) dX12_beside_51 ?_
  refine gxt_if_eq (tgt := 66) dX12_beside_54 (by decide) ?_ ?_
  · refine gx_iload_n dX12_beside_66 rfl ?_
    exact gx_iret rfl rfl dX12_beside_67
  refine gx_bipush (x := 16) (by decide) dX12_beside_57 ?_
  refine gx_iload_n dX12_beside_59 rfl ?_
  refine gx_imul dX12_beside_60 ?_
  refine gx_iload_n dX12_beside_61 rfl ?_
  refine gx_iadd dX12_beside_62 ?_
  refine gx_goto (tgt := 67) dX12_beside_63 (by decide) ?_
  exact gx_iret rfl rfl dX12_beside_67
def f_X12_beside_J23 (v0 : Int32) (v1 : Int32) (s0 : Int32) (s1 : Int32) : Int32 :=
  if v1 = 2 then
    (f_X12_beside_J47 v0 (s1 + s0) 1 (v0 / 16))
  else
    (if v1 = 0 then
      (f_X12_beside_J47 v0 (s1 + s0) (-1) (v0 / 16))
    else
      (f_X12_beside_J47 v0 (s1 + s0) 0 (v0 / 16)))
set_option maxRecDepth 20000 in
theorem w_X12_beside_J23 (d : Nat) (hd : 2 ≤ d) (M : HMem) (v0 : Int32) (v1 : Int32) (s0 : Int32) (s1 : Int32) : GX iX12_beside d (eP M) (some (f_X12_beside_J23 v0 v1 s0 s1)) 23 [some (.inl v0), some (.inl v1), none, none] [.inl s0, .inl s1] M := by
  rw [f_X12_beside_J23]
  refine gx_iadd dX12_beside_23 ?_
  refine gx_istore_n (lv' := [some (.inl v0), some (.inl v1), some (.inl (s1 + s0)), none]) dX12_beside_24 (by decide) rfl ?_
  refine gx_iload_n dX12_beside_25 rfl ?_
  refine gx_bipush (x := 16) (by decide) dX12_beside_26 ?_
  refine gx_idivL (by decide) dX12_beside_28 ?_
  refine gx_iload_n dX12_beside_29 rfl ?_
  refine gx_iconst (x := 2) (by decide) dX12_beside_30 ?_
  refine gxt_icmp_ne (tgt := 38) dX12_beside_31 (by decide) ?_ ?_
  · refine gx_iload_n dX12_beside_38 rfl ?_
    refine gxt_if_ne (tgt := 46) dX12_beside_39 (by decide) ?_ ?_
    · refine gx_iconst (x := 0) (by decide) dX12_beside_46 ?_
      refine gx_mk (lv' := [some (.inl v0), none, some (.inl (s1 + s0)), none]) [true, false, true, false] rfl ?_
      exact w_X12_beside_J47 d hd M v0 (s1 + s0) 0 (v0 / 16)
    refine gx_iconst (x := (-1)) (by decide) dX12_beside_42 ?_
    refine gx_goto (tgt := 47) dX12_beside_43 (by decide) ?_
    refine gx_mk (lv' := [some (.inl v0), none, some (.inl (s1 + s0)), none]) [true, false, true, false] rfl ?_
    exact w_X12_beside_J47 d hd M v0 (s1 + s0) (-1) (v0 / 16)
  refine gx_iconst (x := 1) (by decide) dX12_beside_34 ?_
  refine gx_goto (tgt := 47) dX12_beside_35 (by decide) ?_
  refine gx_mk (lv' := [some (.inl v0), none, some (.inl (s1 + s0)), none]) [true, false, true, false] rfl ?_
  exact w_X12_beside_J47 d hd M v0 (s1 + s0) 1 (v0 / 16)
def f_X12_beside (v0 : Int32) (v1 : Int32) : Int32 :=
  if v1 = 1 then
    (f_X12_beside_J23 v0 v1 1 (v0 - v0 / 16 * 16))
  else
    (if v1 = 3 then
      (f_X12_beside_J23 v0 v1 (-1) (v0 - v0 / 16 * 16))
    else
      (f_X12_beside_J23 v0 v1 0 (v0 - v0 / 16 * 16)))
set_option maxRecDepth 20000 in
theorem w_X12_beside (d : Nat) (hd : 2 ≤ d) (v0 : Int32) (v1 : Int32) (M : HMem) : GX iX12_beside d (eP M) (some (f_X12_beside v0 v1)) 0 [some (.inl v0), some (.inl v1), none, none] [] M := by
  rw [f_X12_beside]
  refine gx_iload_n dX12_beside_0 rfl ?_
  refine gx_bipush (x := 16) (by decide) dX12_beside_1 ?_
  refine gx_iremL (by decide) dX12_beside_3 ?_
  refine gx_iload_n dX12_beside_4 rfl ?_
  refine gx_iconst (x := 1) (by decide) dX12_beside_5 ?_
  refine gxt_icmp_ne (tgt := 13) dX12_beside_6 (by decide) ?_ ?_
  · refine gx_iload_n dX12_beside_13 rfl ?_
    refine gx_iconst (x := 3) (by decide) dX12_beside_14 ?_
    refine gxt_icmp_ne (tgt := 22) dX12_beside_15 (by decide) ?_ ?_
    · refine gx_iconst (x := 0) (by decide) dX12_beside_22 ?_
      refine gx_mk (lv' := [some (.inl v0), some (.inl v1), none, none]) [true, true, false, false] rfl ?_
      exact w_X12_beside_J23 d hd M v0 v1 0 (v0 - v0 / 16 * 16)
    refine gx_iconst (x := (-1)) (by decide) dX12_beside_18 ?_
    refine gx_goto (tgt := 23) dX12_beside_19 (by decide) ?_
    refine gx_mk (lv' := [some (.inl v0), some (.inl v1), none, none]) [true, true, false, false] rfl ?_
    exact w_X12_beside_J23 d hd M v0 v1 (-1) (v0 - v0 / 16 * 16)
  refine gx_iconst (x := 1) (by decide) dX12_beside_9 ?_
  refine gx_goto (tgt := 23) dX12_beside_10 (by decide) ?_
  refine gx_mk (lv' := [some (.inl v0), some (.inl v1), none, none]) [true, true, false, false] rfl ?_
  exact w_X12_beside_J23 d hd M v0 v1 1 (v0 - v0 / 16 * 16)
theorem c_X12_beside (d : Nat) (hd : 2 ≤ d) (v0 : Int32) (v1 : Int32) (M : HMem) : MX iX12_beside d [.inl v0, .inl v1] M (eP M) (some (f_X12_beside v0 v1)) := mx_of (by decide +kernel) (Nat.le_of_ble_eq_true rfl) rfl (w_X12_beside d hd v0 v1 M)
-- X12_line
def f_X12_line_L157 (n : Nat) (v1 : Int32) : Nat → Int32 → HMem → Option (Int32 × HMem)
  | 0, _, _ => none
  | k + 1, v7, M =>
    if (M 74 39) ≤ v7 then
      (some (M 74 39, M))
    else
      (if hib v7 96 then
      if hib ((96 * v1) + v7) 768 then
      hb1 (some (hset M 80 (Int32.toNatClampNeg ((96 * v1) + v7)) (M 98 (Int32.toNatClampNeg v7)))) (fun M101 =>
      if hib ((97 * v1) + v7) 776 then
      if hib v7 96 then
      if hib (((97 * v1) + v7) + 1) 776 then
      f_X12_line_L157 n v1 k (v7 + 1) (hset M101 81 (Int32.toNatClampNeg (((97 * v1) + v7) + 1)) (f_X12_beside (M101 81 (Int32.toNatClampNeg ((97 * v1) + v7))) (M101 98 (Int32.toNatClampNeg v7))))
      else none
      else none
      else none)
      else none
      else none)
set_option maxRecDepth 20000 in
theorem w_X12_line_L157 (d : Nat) (hd : 3 ≤ d) (n : Nat) (v1 : Int32) : ∀ (k : Nat) (v7 : Int32) (M : HMem), GX iX12_line d eI (f_X12_line_L157 n v1 k v7 M) 157 [some (.inr (some 74)), some (.inl v1), none, none, none, none, none, some (.inl v7)] [] M := by
  intro k
  induction k with
  | zero => intro v7 M; exact gx_none
  | succ k ih =>
    intro v7 M
    rw [f_X12_line_L157]
    refine gx_iload dX12_line_157 rfl ?_
    refine gx_aload_n dX12_line_159 rfl ?_
    refine gx_getI fl_X12_247 sh74 rfl dX12_line_160 ?_
    refine gx_icmp_ge (tgt := 227) dX12_line_163 (by decide) ?_ ?_
    · refine gx_aload_n dX12_line_227 rfl ?_
      refine gx_getI fl_X12_247 sh74 rfl dX12_line_228 ?_
      exact gx_iret rfl rfl dX12_line_231
    refine gx_aload_n dX12_line_166 rfl ?_
    refine gx_getR fl_X12_25 sh74 rfl dX12_line_167 ?_
    refine gx_bipush (x := 96) (by decide) dX12_line_170 ?_
    refine gx_iload_n dX12_line_172 rfl ?_
    refine gx_imul dX12_line_173 ?_
    refine gx_iload dX12_line_174 rfl ?_
    refine gx_iadd dX12_line_176 ?_
    refine gx_aload_n dX12_line_177 rfl ?_
    refine gx_getR fl_X12_80 sh74 rfl dX12_line_178 ?_
    refine gx_iload dX12_line_181 rfl ?_
    refine gx_iaload sh98 dX12_line_183 ?_
    refine gx_iastore sh80 dX12_line_184 ?_
    refine gx_aload_n dX12_line_185 rfl ?_
    refine gx_getR fl_X12_28 sh74 rfl dX12_line_186 ?_
    refine gx_bipush (x := 97) (by decide) dX12_line_189 ?_
    refine gx_iload_n dX12_line_191 rfl ?_
    refine gx_imul dX12_line_192 ?_
    refine gx_iload dX12_line_193 rfl ?_
    refine gx_iadd dX12_line_195 ?_
    refine gx_iconst (x := 1) (by decide) dX12_line_196 ?_
    refine gx_iadd dX12_line_197 ?_
    refine gx_aload_n dX12_line_198 rfl ?_
    refine gx_getR fl_X12_28 sh74 rfl dX12_line_199 ?_
    refine gx_bipush (x := 97) (by decide) dX12_line_202 ?_
    refine gx_iload_n dX12_line_204 rfl ?_
    refine gx_imul dX12_line_205 ?_
    refine gx_iload dX12_line_206 rfl ?_
    refine gx_iadd dX12_line_208 ?_
    refine gx_nm (fun M101 => ?_)
    refine gx_iaload sh81 dX12_line_209 ?_
    refine gx_aload_n dX12_line_210 rfl ?_
    refine gx_getR fl_X12_80 sh74 rfl dX12_line_211 ?_
    refine gx_iload dX12_line_214 rfl ?_
    refine gx_iaload sh98 dX12_line_216 ?_
    refine gx_cS_it (av := [.inl (M101 81 (Int32.toNatClampNeg ((97 * v1) + v7))), .inl (M101 98 (Int32.toNatClampNeg v7))]) (st := [.inl (((97 * v1) + v7) + 1), .inr (some 81)]) ml_X12_265 (by omega) (c_X12_beside (d - 1) (by omega) (M101 81 (Int32.toNatClampNeg ((97 * v1) + v7))) (M101 98 (Int32.toNatClampNeg v7)) M101) rfl rfl (Nat.le_of_ble_eq_true rfl) dX12_line_217 ?_
    refine gx_iastore sh81 dX12_line_220 ?_
    refine gx_iinc (y := v7 + 1) (lv' := [some (.inr (some 74)), some (.inl v1), none, none, none, none, none, some (.inl (v7 + 1))]) dX12_line_221 rfl rfl (by decide) rfl ?_
    refine gx_goto (tgt := 157) dX12_line_224 (by decide) ?_
    refine gx_mk (lv' := [some (.inr (some 74)), some (.inl v1), none, none, none, none, none, some (.inl (v7 + 1))]) [true, true, false, false, false, false, false, true] rfl ?_
    exact ih (v7 + 1) (hset M101 81 (Int32.toNatClampNeg (((97 * v1) + v7) + 1)) (f_X12_beside (M101 81 (Int32.toNatClampNeg ((97 * v1) + v7))) (M101 98 (Int32.toNatClampNeg v7))))
def f_X12_line_J106 (n : Nat) (v1 : Int32) (v2 : Int32) (v3 : Int32) (v4 : Int32) (v6 : Int32) (M : HMem) : Option (Int32 × HMem) :=
  if v6 = 0 then
    (some ((hset M 74 12 0) 74 15, hset M 74 12 0))
  else
    (if hib v1 8 then
    if hib v1 8 then
    if hib (97 * v1) 776 then
    f_X12_line_L157 n v1 n 0 (hset (hset (hset (hset M 74 12 0) 78 (Int32.toNatClampNeg v1) ((hset M 74 12 0) 74 39)) 79 (Int32.toNatClampNeg v1) v4) 81 (Int32.toNatClampNeg (97 * v1)) ((16 * v3) + v2))
    else none
    else none
    else none)
set_option maxRecDepth 20000 in
theorem w_X12_line_J106 (d : Nat) (hd : 3 ≤ d) (n : Nat) (M : HMem) (v1 : Int32) (v2 : Int32) (v3 : Int32) (v4 : Int32) (v6 : Int32) : GX iX12_line d eI (f_X12_line_J106 n v1 v2 v3 v4 v6 M) 106 [some (.inr (some 74)), some (.inl v1), some (.inl v2), some (.inl v3), some (.inl v4), none, some (.inl v6), none] [] M := by
  rw [f_X12_line_J106]
  refine gx_aload_n dX12_line_106 rfl ?_
  refine gx_iconst (x := 0) (by decide) dX12_line_107 ?_
  refine gx_putI fl_X12_130 fp_X12_12 sh74 rfl dX12_line_108 ?_
  refine gx_iload dX12_line_111 rfl ?_
  refine gx_if_ne (tgt := 121) dX12_line_113 (by decide) ?_ ?_
  · refine gx_aload_n dX12_line_121 rfl ?_
    refine gx_getR fl_X12_19 sh74 rfl dX12_line_122 ?_
    refine gx_iload_n dX12_line_125 rfl ?_
    refine gx_aload_n dX12_line_126 rfl ?_
    refine gx_getI fl_X12_247 sh74 rfl dX12_line_127 ?_
    refine gx_iastore sh78 dX12_line_130 ?_
    refine gx_aload_n dX12_line_131 rfl ?_
    refine gx_getR fl_X12_22 sh74 rfl dX12_line_132 ?_
    refine gx_iload_n dX12_line_135 rfl ?_
    refine gx_iload dX12_line_136 rfl ?_
    refine gx_iastore sh79 dX12_line_138 ?_
    refine gx_aload_n dX12_line_139 rfl ?_
    refine gx_getR fl_X12_28 sh74 rfl dX12_line_140 ?_
    refine gx_bipush (x := 97) (by decide) dX12_line_143 ?_
    refine gx_iload_n dX12_line_145 rfl ?_
    refine gx_imul dX12_line_146 ?_
    refine gx_bipush (x := 16) (by decide) dX12_line_147 ?_
    refine gx_iload_n dX12_line_149 rfl ?_
    refine gx_imul dX12_line_150 ?_
    refine gx_iload_n dX12_line_151 rfl ?_
    refine gx_iadd dX12_line_152 ?_
    refine gx_iastore sh81 dX12_line_153 ?_
    refine gx_iconst (x := 0) (by decide) dX12_line_154 ?_
    refine gx_istore (lv' := [some (.inr (some 74)), some (.inl v1), some (.inl v2), some (.inl v3), some (.inl v4), none, some (.inl v6), some (.inl 0)]) dX12_line_155 (by decide) rfl ?_
    refine gx_mk (lv' := [some (.inr (some 74)), some (.inl v1), none, none, none, none, none, some (.inl 0)]) [true, true, false, false, false, false, false, true] rfl ?_
    exact w_X12_line_L157 d hd n v1 n 0 (hset (hset (hset (hset M 74 12 0) 78 (Int32.toNatClampNeg v1) ((hset M 74 12 0) 74 39)) 79 (Int32.toNatClampNeg v1) v4) 81 (Int32.toNatClampNeg (97 * v1)) ((16 * v3) + v2))
  refine gx_aload_n dX12_line_116 rfl ?_
  refine gx_getI fl_X12_147 sh74 rfl dX12_line_117 ?_
  exact gx_iret rfl rfl dX12_line_120
def f_X12_line_L74 (n : Nat) (v1 : Int32) (v2 : Int32) (v3 : Int32) (v4 : Int32) : Nat → Int32 → HMem → Option (Int32 × HMem)
  | 0, _, _ => none
  | k + 1, v6, M =>
    if v6 = 0 then
      (f_X12_line_J106 n v1 v2 v3 v4 v6 M)
    else
      (if (M 74 13) < (M 74 14) then
        (hb2 (f_X12_readsStep n  M) (fun x101 M102 =>
        f_X12_line_L74 n v1 v2 v3 v4 k x101 M102))
      else
        (if (M 74 40) ≤ 0 then
          (f_X12_line_J106 n v1 v2 v3 v4 v6 M)
        else
          (hb2 (f_X12_readsStep n  M) (fun x103 M104 =>
          f_X12_line_L74 n v1 v2 v3 v4 k x103 M104))))
set_option maxRecDepth 20000 in
theorem w_X12_line_L74 (d : Nat) (hd : 3 ≤ d) (n : Nat) (v1 : Int32) (v2 : Int32) (v3 : Int32) (v4 : Int32) : ∀ (k : Nat) (v6 : Int32) (M : HMem), GX iX12_line d eI (f_X12_line_L74 n v1 v2 v3 v4 k v6 M) 74 [some (.inr (some 74)), some (.inl v1), some (.inl v2), some (.inl v3), some (.inl v4), none, some (.inl v6), none] [] M := by
  intro k
  induction k with
  | zero => intro v6 M; exact gx_none
  | succ k ih =>
    intro v6 M
    rw [f_X12_line_L74]
    refine gx_iload dX12_line_74 rfl ?_
    refine gx_if_eq (tgt := 106) dX12_line_76 (by decide) ?_ ?_
    · refine gx_mk (lv' := [some (.inr (some 74)), some (.inl v1), some (.inl v2), some (.inl v3), some (.inl v4), none, some (.inl v6), none]) [true, true, true, true, true, false, true, false] rfl ?_
      exact w_X12_line_J106 d hd n M v1 v2 v3 v4 v6
    refine gx_aload_n dX12_line_79 rfl ?_
    refine gx_getI fl_X12_137 sh74 rfl dX12_line_80 ?_
    refine gx_aload_n dX12_line_83 rfl ?_
    refine gx_getI fl_X12_140 sh74 rfl dX12_line_84 ?_
    refine gx_icmp_lt (tgt := 97) dX12_line_87 (by decide) ?_ ?_
    · refine gx_aload_n dX12_line_97 rfl ?_
      refine gx_cV_im (av := []) (st := []) ml_X12_262 (by omega) sh74 (c_X12_readsStep (d - 1) (by omega) n  M) rfl rfl (Nat.le_of_ble_eq_true rfl) dX12_line_98 (fun x101 M102 => ?_)
      refine gx_istore (lv' := [some (.inr (some 74)), some (.inl v1), some (.inl v2), some (.inl v3), some (.inl v4), none, some (.inl x101), none]) dX12_line_101 (by decide) rfl ?_
      refine gx_goto (tgt := 74) dX12_line_103 (by decide) ?_
      refine gx_mk (lv' := [some (.inr (some 74)), some (.inl v1), some (.inl v2), some (.inl v3), some (.inl v4), none, some (.inl x101), none]) [true, true, true, true, true, false, true, false] rfl ?_
      exact ih x101 M102
    refine gx_aload_n dX12_line_90 rfl ?_
    refine gx_getI fl_X12_253 sh74 rfl dX12_line_91 ?_
    refine gx_if_le (tgt := 106) dX12_line_94 (by decide) ?_ ?_
    · refine gx_mk (lv' := [some (.inr (some 74)), some (.inl v1), some (.inl v2), some (.inl v3), some (.inl v4), none, some (.inl v6), none]) [true, true, true, true, true, false, true, false] rfl ?_
      exact w_X12_line_J106 d hd n M v1 v2 v3 v4 v6
    refine gx_aload_n dX12_line_97 rfl ?_
    refine gx_cV_im (av := []) (st := []) ml_X12_262 (by omega) sh74 (c_X12_readsStep (d - 1) (by omega) n  M) rfl rfl (Nat.le_of_ble_eq_true rfl) dX12_line_98 (fun x103 M104 => ?_)
    refine gx_istore (lv' := [some (.inr (some 74)), some (.inl v1), some (.inl v2), some (.inl v3), some (.inl v4), none, some (.inl x103), none]) dX12_line_101 (by decide) rfl ?_
    refine gx_goto (tgt := 74) dX12_line_103 (by decide) ?_
    refine gx_mk (lv' := [some (.inr (some 74)), some (.inl v1), some (.inl v2), some (.inl v3), some (.inl v4), none, some (.inl x103), none]) [true, true, true, true, true, false, true, false] rfl ?_
    exact ih x103 M104
def f_X12_line (n : Nat) (v1 : Int32) (v2 : Int32) (v3 : Int32) (v4 : Int32) (v5 : Int32) (M : HMem) : Option (Int32 × HMem) :=
  if (f_X12_in v1 0 7) = 0 then
    (some ((-1), M))
  else
    (if (f_X12_isPlace v2 v3) = 0 then
      (some ((-1), M))
    else
      (if (f_X12_in v4 0 9999) = 0 then
        (some ((-1), M))
      else
        (if (f_X12_in v5 1 60) = 0 then
          (some ((-1), M))
        else
          (if v5 ≤ (M 74 12) then
            (hb1 (some (hset (hset (f_X12_beginsText v5 M) 74 39 0) 74 40 0)) (fun M101 =>
            hb2 (f_X12_readsStep n  M101) (fun x102 M103 =>
            f_X12_line_L74 n v1 v2 v3 v4 n x102 M103)))
          else
            (some ((-1), M))))))
set_option maxRecDepth 20000 in
theorem w_X12_line (d : Nat) (hd : 3 ≤ d) (n : Nat) (v1 : Int32) (v2 : Int32) (v3 : Int32) (v4 : Int32) (v5 : Int32) (M : HMem) : GX iX12_line d eI (f_X12_line n v1 v2 v3 v4 v5 M) 0 [some (.inr (some 74)), some (.inl v1), some (.inl v2), some (.inl v3), some (.inl v4), some (.inl v5), none, none] [] M := by
  rw [f_X12_line]
  refine gx_iload_n dX12_line_0 rfl ?_
  refine gx_iconst (x := 0) (by decide) dX12_line_1 ?_
  refine gx_bipush (x := 7) (by decide) dX12_line_2 ?_
  refine gx_cS_it (av := [.inl v1, .inl 0, .inl 7]) (st := []) ml_X12_118 (by omega) (c_X12_in (d - 1) (by omega) v1 0 7 M) rfl rfl (Nat.le_of_ble_eq_true rfl) dX12_line_4 ?_
  refine gx_if_eq (tgt := 50) dX12_line_7 (by decide) ?_ ?_
  · refine gx_iconst (x := (-1)) (by decide) dX12_line_50 ?_
    exact gx_iret rfl rfl dX12_line_51
  refine gx_iload_n dX12_line_10 rfl ?_
  refine gx_iload_n dX12_line_11 rfl ?_
  refine gx_cS_it (av := [.inl v2, .inl v3]) (st := []) ml_X12_126 (by omega) (c_X12_isPlace (d - 1) (by omega) v2 v3 M) rfl rfl (Nat.le_of_ble_eq_true rfl) dX12_line_12 ?_
  refine gx_if_eq (tgt := 50) dX12_line_15 (by decide) ?_ ?_
  · refine gx_iconst (x := (-1)) (by decide) dX12_line_50 ?_
    exact gx_iret rfl rfl dX12_line_51
  refine gx_iload dX12_line_18 rfl ?_
  refine gx_iconst (x := 0) (by decide) dX12_line_20 ?_
  refine gx_sipush (x := 9999) (by decide) dX12_line_21 ?_
  refine gx_cS_it (av := [.inl v4, .inl 0, .inl 9999]) (st := []) ml_X12_118 (by omega) (c_X12_in (d - 1) (by omega) v4 0 9999 M) rfl rfl (Nat.le_of_ble_eq_true rfl) dX12_line_24 ?_
  refine gx_if_eq (tgt := 50) dX12_line_27 (by decide) ?_ ?_
  · refine gx_iconst (x := (-1)) (by decide) dX12_line_50 ?_
    exact gx_iret rfl rfl dX12_line_51
  refine gx_iload dX12_line_30 rfl ?_
  refine gx_iconst (x := 1) (by decide) dX12_line_32 ?_
  refine gx_bipush (x := 60) (by decide) dX12_line_33 ?_
  refine gx_cS_it (av := [.inl v5, .inl 1, .inl 60]) (st := []) ml_X12_118 (by omega) (c_X12_in (d - 1) (by omega) v5 1 60 M) rfl rfl (Nat.le_of_ble_eq_true rfl) dX12_line_35 ?_
  refine gx_if_eq (tgt := 50) dX12_line_38 (by decide) ?_ ?_
  · refine gx_iconst (x := (-1)) (by decide) dX12_line_50 ?_
    exact gx_iret rfl rfl dX12_line_51
  refine gx_iload dX12_line_41 rfl ?_
  refine gx_aload_n dX12_line_43 rfl ?_
  refine gx_getI fl_X12_130 sh74 rfl dX12_line_44 ?_
  refine gx_icmp_le (tgt := 52) dX12_line_47 (by decide) ?_ ?_
  · refine gx_aload_n dX12_line_52 rfl ?_
    refine gx_iload dX12_line_53 rfl ?_
    refine gx_cV_vt (av := [.inl v5]) (st := []) ml_X12_221 (by omega) sh74 (c_X12_beginsText (d - 1) (by omega) v5 M) rfl rfl (Nat.le_of_ble_eq_true rfl) dX12_line_55 ?_
    refine gx_aload_n dX12_line_58 rfl ?_
    refine gx_iconst (x := 0) (by decide) dX12_line_59 ?_
    refine gx_putI fl_X12_247 fp_X12_39 sh74 rfl dX12_line_60 ?_
    refine gx_aload_n dX12_line_63 rfl ?_
    refine gx_iconst (x := 0) (by decide) dX12_line_64 ?_
    refine gx_putI fl_X12_253 fp_X12_40 sh74 rfl dX12_line_65 ?_
    refine gx_aload_n dX12_line_68 rfl ?_
    refine gx_nm (fun M101 => ?_)
    refine gx_cV_im (av := []) (st := []) ml_X12_262 (by omega) sh74 (c_X12_readsStep (d - 1) (by omega) n  M101) rfl rfl (Nat.le_of_ble_eq_true rfl) dX12_line_69 (fun x102 M103 => ?_)
    refine gx_istore (lv' := [some (.inr (some 74)), some (.inl v1), some (.inl v2), some (.inl v3), some (.inl v4), some (.inl v5), some (.inl x102), none]) dX12_line_72 (by decide) rfl ?_
    refine gx_mk (lv' := [some (.inr (some 74)), some (.inl v1), some (.inl v2), some (.inl v3), some (.inl v4), none, some (.inl x102), none]) [true, true, true, true, true, false, true, false] rfl ?_
    exact w_X12_line_L74 d hd n v1 v2 v3 v4 n x102 M103
  refine gx_iconst (x := (-1)) (by decide) dX12_line_50 ?_
  exact gx_iret rfl rfl dX12_line_51
theorem c_X12_line (d : Nat) (hd : 3 ≤ d) (n : Nat) (v1 : Int32) (v2 : Int32) (v3 : Int32) (v4 : Int32) (v5 : Int32) (M : HMem) : MX iX12_line d [.inr (some 74), .inl v1, .inl v2, .inl v3, .inl v4, .inl v5] M eI (f_X12_line n v1 v2 v3 v4 v5 M) := mx_of (by decide +kernel) (Nat.le_of_ble_eq_true rfl) rfl (w_X12_line d hd n v1 v2 v3 v4 v5 M)

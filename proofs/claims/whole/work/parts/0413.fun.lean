-- X12_hasBeen
def f_X12_hasBeen_L3 (n : Nat) (v1 : Int32) (v2 : Int32) (v3 : Int32) (v4 : Int32) (M : HMem) : Nat → Int32 → Option Int32
  | 0, _ => none
  | k + 1, v5 =>
    if hib v1 8 then
    if (M 78 (Int32.toNatClampNeg v1)) < v5 then
      (some 0)
    else
      (if hib ((97 * v1) + v5) 776 then
      if (M 81 (Int32.toNatClampNeg ((97 * v1) + v5))) = v2 then
        (if hib v1 8 then
        if v4 < (f_X12_size (((M 79 (Int32.toNatClampNeg v1)) + v5) - v3)) then
          (f_X12_hasBeen_L3 n v1 v2 v3 v4 M k (v5 + 1))
        else
          (some 1)
        else none)
      else
        (f_X12_hasBeen_L3 n v1 v2 v3 v4 M k (v5 + 1))
      else none)
    else none
set_option maxRecDepth 20000 in
theorem w_X12_hasBeen_L3 (d : Nat) (hd : 1 ≤ d) (n : Nat) (M : HMem) (v1 : Int32) (v2 : Int32) (v3 : Int32) (v4 : Int32) : ∀ (k : Nat) (v5 : Int32), GX iX12_hasBeen d (eP M) (f_X12_hasBeen_L3 n v1 v2 v3 v4 M k v5) 3 [some (.inr (some 74)), some (.inl v1), some (.inl v2), some (.inl v3), some (.inl v4), some (.inl v5)] [] M := by
  intro k
  induction k with
  | zero => intro v5; exact gx_none
  | succ k ih =>
    intro v5
    rw [f_X12_hasBeen_L3]
    refine gx_iload dX12_hasBeen_3 rfl ?_
    refine gx_aload_n dX12_hasBeen_5 rfl ?_
    refine gx_getR fl_X12_19 sh74 rfl dX12_hasBeen_6 ?_
    refine gx_iload_n dX12_hasBeen_9 rfl ?_
    refine gx_iaload sh78 dX12_hasBeen_10 ?_
    refine gx_icmp_gt (tgt := 57) dX12_hasBeen_11 (by decide) ?_ ?_
    · refine gx_iconst (x := 0) (by decide) dX12_hasBeen_57 ?_
      exact gx_zret rfl (by decide) rfl dX12_hasBeen_58
    refine gx_aload_n dX12_hasBeen_14 rfl ?_
    refine gx_getR fl_X12_28 sh74 rfl dX12_hasBeen_15 ?_
    refine gx_bipush (x := 97) (by decide) dX12_hasBeen_18 ?_
    refine gx_iload_n dX12_hasBeen_20 rfl ?_
    refine gx_imul dX12_hasBeen_21 ?_
    refine gx_iload dX12_hasBeen_22 rfl ?_
    refine gx_iadd dX12_hasBeen_24 ?_
    refine gx_iaload sh81 dX12_hasBeen_25 ?_
    refine gx_iload_n dX12_hasBeen_26 rfl ?_
    refine gx_icmp_ne (tgt := 51) dX12_hasBeen_27 (by decide) ?_ ?_
    · refine gx_iinc (y := v5 + 1) (lv' := [some (.inr (some 74)), some (.inl v1), some (.inl v2), some (.inl v3), some (.inl v4), some (.inl (v5 + 1))]) dX12_hasBeen_51 rfl rfl (by decide) rfl ?_
      refine gx_goto (tgt := 3) dX12_hasBeen_54 (by decide) ?_
      refine gx_mk (lv' := [some (.inr (some 74)), some (.inl v1), some (.inl v2), some (.inl v3), some (.inl v4), some (.inl (v5 + 1))]) [true, true, true, true, true, true] rfl ?_
      exact ih (v5 + 1)
    refine gx_aload_n dX12_hasBeen_30 rfl ?_
    refine gx_getR fl_X12_22 sh74 rfl dX12_hasBeen_31 ?_
    refine gx_iload_n dX12_hasBeen_34 rfl ?_
    refine gx_iaload sh79 dX12_hasBeen_35 ?_
    refine gx_iload dX12_hasBeen_36 rfl ?_
    refine gx_iadd dX12_hasBeen_38 ?_
    refine gx_iload_n dX12_hasBeen_39 rfl ?_
    refine gx_isub dX12_hasBeen_40 ?_
    refine gx_cS_it (av := [.inl (((M 79 (Int32.toNatClampNeg v1)) + v5) - v3)]) (st := []) ml_X12_359 (by omega) (c_X12_size (d - 1) (by omega) (((M 79 (Int32.toNatClampNeg v1)) + v5) - v3) M) rfl rfl (Nat.le_of_ble_eq_true rfl) dX12_hasBeen_41 ?_
    refine gx_iload dX12_hasBeen_44 rfl ?_
    refine gx_icmp_gt (tgt := 51) dX12_hasBeen_46 (by decide) ?_ ?_
    · refine gx_iinc (y := v5 + 1) (lv' := [some (.inr (some 74)), some (.inl v1), some (.inl v2), some (.inl v3), some (.inl v4), some (.inl (v5 + 1))]) dX12_hasBeen_51 rfl rfl (by decide) rfl ?_
      refine gx_goto (tgt := 3) dX12_hasBeen_54 (by decide) ?_
      refine gx_mk (lv' := [some (.inr (some 74)), some (.inl v1), some (.inl v2), some (.inl v3), some (.inl v4), some (.inl (v5 + 1))]) [true, true, true, true, true, true] rfl ?_
      exact ih (v5 + 1)
    refine gx_iconst (x := 1) (by decide) dX12_hasBeen_49 ?_
    exact gx_zret rfl (by decide) rfl dX12_hasBeen_50
def f_X12_hasBeen (n : Nat) (v1 : Int32) (v2 : Int32) (v3 : Int32) (v4 : Int32) (M : HMem) : Option Int32 :=
  f_X12_hasBeen_L3 n v1 v2 v3 v4 M n 0
set_option maxRecDepth 20000 in
theorem w_X12_hasBeen (d : Nat) (hd : 1 ≤ d) (n : Nat) (v1 : Int32) (v2 : Int32) (v3 : Int32) (v4 : Int32) (M : HMem) : GX iX12_hasBeen d (eP M) (f_X12_hasBeen n v1 v2 v3 v4 M) 0 [some (.inr (some 74)), some (.inl v1), some (.inl v2), some (.inl v3), some (.inl v4), none] [] M := by
  rw [f_X12_hasBeen]
  refine gx_iconst (x := 0) (by decide) dX12_hasBeen_0 ?_
  refine gx_istore (lv' := [some (.inr (some 74)), some (.inl v1), some (.inl v2), some (.inl v3), some (.inl v4), some (.inl 0)]) dX12_hasBeen_1 (by decide) rfl ?_
  refine gx_mk (lv' := [some (.inr (some 74)), some (.inl v1), some (.inl v2), some (.inl v3), some (.inl v4), some (.inl 0)]) [true, true, true, true, true, true] rfl ?_
  exact w_X12_hasBeen_L3 d hd n M v1 v2 v3 v4 n 0
theorem c_X12_hasBeen (d : Nat) (hd : 1 ≤ d) (n : Nat) (v1 : Int32) (v2 : Int32) (v3 : Int32) (v4 : Int32) (M : HMem) : MX iX12_hasBeen d [.inr (some 74), .inl v1, .inl v2, .inl v3, .inl v4] M (eP M) (f_X12_hasBeen n v1 v2 v3 v4 M) := mx_of (by decide +kernel) (Nat.le_of_ble_eq_true rfl) rfl (w_X12_hasBeen d hd n v1 v2 v3 v4 M)
-- X12_couldBe
def f_X12_couldBe_J148 (n : Nat) (r71 : Int32 → Int32 → Option (Int32 × HMem)) (v1 : Int32) (v2 : Int32) (v3 : Int32) (v4 : Int32) (v5 : Int32) (M : HMem) : Option (Int32 × HMem) :=
  if v5 = 0 then
    (r71 v3 (v4 + 1))
  else
    (r71 (v3 ||| (1 <<< (v4 &&& 31))) (v4 + 1))
set_option maxRecDepth 20000 in
theorem w_X12_couldBe_J148 (d : Nat) (hd : 2 ≤ d) (n : Nat) (r71 : Int32 → Int32 → Option (Int32 × HMem)) (M : HMem) (v1 : Int32) (v2 : Int32) (v3 : Int32) (v4 : Int32) (v5 : Int32) (hr71 : ∀ (v3 : Int32) (v4 : Int32), GX iX12_couldBe d eI (r71 v3 v4) 71 [some (.inr (some 74)), some (.inl v1), some (.inl v2), some (.inl v3), some (.inl v4), none, none] [] M) : GX iX12_couldBe d eI (f_X12_couldBe_J148 n r71 v1 v2 v3 v4 v5 M) 148 [some (.inr (some 74)), some (.inl v1), some (.inl v2), some (.inl v3), some (.inl v4), some (.inl v5), none] [] M := by
  rw [f_X12_couldBe_J148]
  refine gx_iload dX12_couldBe_148 rfl ?_
  refine gx_if_eq (tgt := 160) dX12_couldBe_150 (by decide) ?_ ?_
  · refine gx_iinc (y := v4 + 1) (lv' := [some (.inr (some 74)), some (.inl v1), some (.inl v2), some (.inl v3), some (.inl (v4 + 1)), some (.inl v5), none]) dX12_couldBe_160 rfl rfl (by decide) rfl ?_
    refine gx_goto (tgt := 71) dX12_couldBe_163 (by decide) ?_
    refine gx_mk (lv' := [some (.inr (some 74)), some (.inl v1), some (.inl v2), some (.inl v3), some (.inl (v4 + 1)), none, none]) [true, true, true, true, true, false, false] rfl ?_
    exact hr71 v3 (v4 + 1)
  refine gx_iload_n dX12_couldBe_153 rfl ?_
  refine gx_iconst (x := 1) (by decide) dX12_couldBe_154 ?_
  refine gx_iload dX12_couldBe_155 rfl ?_
  refine gx_ishl dX12_couldBe_157 ?_
  refine gx_ior dX12_couldBe_158 ?_
  refine gx_istore_n (lv' := [some (.inr (some 74)), some (.inl v1), some (.inl v2), some (.inl (v3 ||| (1 <<< (v4 &&& 31)))), some (.inl v4), some (.inl v5), none]) dX12_couldBe_159 (by decide) rfl ?_
  refine gx_iinc (y := v4 + 1) (lv' := [some (.inr (some 74)), some (.inl v1), some (.inl v2), some (.inl (v3 ||| (1 <<< (v4 &&& 31)))), some (.inl (v4 + 1)), some (.inl v5), none]) dX12_couldBe_160 rfl rfl (by decide) rfl ?_
  refine gx_goto (tgt := 71) dX12_couldBe_163 (by decide) ?_
  refine gx_mk (lv' := [some (.inr (some 74)), some (.inl v1), some (.inl v2), some (.inl (v3 ||| (1 <<< (v4 &&& 31)))), some (.inl (v4 + 1)), none, none]) [true, true, true, true, true, false, false] rfl ?_
  exact hr71 (v3 ||| (1 <<< (v4 &&& 31))) (v4 + 1)
def f_X12_couldBe_L89 (n : Nat) (r71 : Int32 → Int32 → Option (Int32 × HMem)) (v1 : Int32) (v2 : Int32) (v3 : Int32) (v4 : Int32) (M : HMem) : Nat → Int32 → Int32 → Option (Int32 × HMem)
  | 0, _, _ => none
  | k + 1, v5, v6 =>
    if v1 ≤ v6 then
      (f_X12_couldBe_J148 n r71 v1 v2 v3 v4 v5 M)
    else
      (if v5 = 0 then
        (f_X12_couldBe_J148 n r71 v1 v2 v3 v4 v5 M)
      else
        (hb1 (f_X12_octet (3 * v6) M) (fun x101 =>
        hb1 (f_X12_octet ((3 * v6) + 1) M) (fun x102 =>
        hb1 (f_X12_octet ((3 * v6) + 2) M) (fun x103 =>
        hb1 (f_X12_hasBeen n v4 x101 (x102 + (256 * x103)) v2 M) (fun x104 =>
        f_X12_couldBe_L89 n r71 v1 v2 v3 v4 M k x104 (v6 + 1)))))))
set_option maxRecDepth 20000 in
theorem w_X12_couldBe_L89 (d : Nat) (hd : 2 ≤ d) (n : Nat) (r71 : Int32 → Int32 → Option (Int32 × HMem)) (M : HMem) (v1 : Int32) (v2 : Int32) (v3 : Int32) (v4 : Int32) (hr71 : ∀ (v3 : Int32) (v4 : Int32), GX iX12_couldBe d eI (r71 v3 v4) 71 [some (.inr (some 74)), some (.inl v1), some (.inl v2), some (.inl v3), some (.inl v4), none, none] [] M) : ∀ (k : Nat) (v5 : Int32) (v6 : Int32), GX iX12_couldBe d eI (f_X12_couldBe_L89 n r71 v1 v2 v3 v4 M k v5 v6) 89 [some (.inr (some 74)), some (.inl v1), some (.inl v2), some (.inl v3), some (.inl v4), some (.inl v5), some (.inl v6)] [] M := by
  intro k
  induction k with
  | zero => intro v5 v6; exact gx_none
  | succ k ih =>
    intro v5 v6
    rw [f_X12_couldBe_L89]
    refine gx_iload dX12_couldBe_89 rfl ?_
    refine gx_iload_n dX12_couldBe_91 rfl ?_
    refine gx_icmp_ge (tgt := 148) dX12_couldBe_92 (by decide) ?_ ?_
    · refine gx_mk (lv' := [some (.inr (some 74)), some (.inl v1), some (.inl v2), some (.inl v3), some (.inl v4), some (.inl v5), none]) [true, true, true, true, true, true, false] rfl ?_
      exact w_X12_couldBe_J148 d hd n r71 M v1 v2 v3 v4 v5 hr71
    refine gx_iload dX12_couldBe_95 rfl ?_
    refine gx_if_eq (tgt := 148) dX12_couldBe_97 (by decide) ?_ ?_
    · refine gx_mk (lv' := [some (.inr (some 74)), some (.inl v1), some (.inl v2), some (.inl v3), some (.inl v4), some (.inl v5), none]) [true, true, true, true, true, true, false] rfl ?_
      exact w_X12_couldBe_J148 d hd n r71 M v1 v2 v3 v4 v5 hr71
    refine gx_aload_n dX12_couldBe_100 rfl ?_
    refine gx_iload dX12_couldBe_101 rfl ?_
    refine gx_aload_n dX12_couldBe_103 rfl ?_
    refine gx_iconst (x := 3) (by decide) dX12_couldBe_104 ?_
    refine gx_iload dX12_couldBe_105 rfl ?_
    refine gx_imul dX12_couldBe_107 ?_
    refine gx_cV_ip (av := [.inl (3 * v6)]) (st := [.inl v4, .inr (some 74)]) ml_X12_383 (by omega) sh74 (c_X12_octet (d - 1) (by omega) (3 * v6) M) rfl rfl (Nat.le_of_ble_eq_true rfl) dX12_couldBe_108 (fun x101 => ?_)
    refine gx_aload_n dX12_couldBe_111 rfl ?_
    refine gx_iconst (x := 3) (by decide) dX12_couldBe_112 ?_
    refine gx_iload dX12_couldBe_113 rfl ?_
    refine gx_imul dX12_couldBe_115 ?_
    refine gx_iconst (x := 1) (by decide) dX12_couldBe_116 ?_
    refine gx_iadd dX12_couldBe_117 ?_
    refine gx_cV_ip (av := [.inl ((3 * v6) + 1)]) (st := [.inl x101, .inl v4, .inr (some 74)]) ml_X12_383 (by omega) sh74 (c_X12_octet (d - 1) (by omega) ((3 * v6) + 1) M) rfl rfl (Nat.le_of_ble_eq_true rfl) dX12_couldBe_118 (fun x102 => ?_)
    refine gx_sipush (x := 256) (by decide) dX12_couldBe_121 ?_
    refine gx_aload_n dX12_couldBe_124 rfl ?_
    refine gx_iconst (x := 3) (by decide) dX12_couldBe_125 ?_
    refine gx_iload dX12_couldBe_126 rfl ?_
    refine gx_imul dX12_couldBe_128 ?_
    refine gx_iconst (x := 2) (by decide) dX12_couldBe_129 ?_
    refine gx_iadd dX12_couldBe_130 ?_
    refine gx_cV_ip (av := [.inl ((3 * v6) + 2)]) (st := [.inl 256, .inl x102, .inl x101, .inl v4, .inr (some 74)]) ml_X12_383 (by omega) sh74 (c_X12_octet (d - 1) (by omega) ((3 * v6) + 2) M) rfl rfl (Nat.le_of_ble_eq_true rfl) dX12_couldBe_131 (fun x103 => ?_)
    refine gx_imul dX12_couldBe_134 ?_
    refine gx_iadd dX12_couldBe_135 ?_
    refine gx_iload_n dX12_couldBe_136 rfl ?_
    refine gx_cV_ip (av := [.inl v4, .inl x101, .inl (x102 + (256 * x103)), .inl v2]) (st := []) ml_X12_386 (by omega) sh74 (c_X12_hasBeen (d - 1) (by omega) n v4 x101 (x102 + (256 * x103)) v2 M) rfl rfl (Nat.le_of_ble_eq_true rfl) dX12_couldBe_137 (fun x104 => ?_)
    refine gx_istore (lv' := [some (.inr (some 74)), some (.inl v1), some (.inl v2), some (.inl v3), some (.inl v4), some (.inl x104), some (.inl v6)]) dX12_couldBe_140 (by decide) rfl ?_
    refine gx_iinc (y := v6 + 1) (lv' := [some (.inr (some 74)), some (.inl v1), some (.inl v2), some (.inl v3), some (.inl v4), some (.inl x104), some (.inl (v6 + 1))]) dX12_couldBe_142 rfl rfl (by decide) rfl ?_
    refine gx_goto (tgt := 89) dX12_couldBe_145 (by decide) ?_
    refine gx_mk (lv' := [some (.inr (some 74)), some (.inl v1), some (.inl v2), some (.inl v3), some (.inl v4), some (.inl x104), some (.inl (v6 + 1))]) [true, true, true, true, true, true, true] rfl ?_
    exact ih x104 (v6 + 1)
def f_X12_couldBe_L71 (n : Nat) (v1 : Int32) (v2 : Int32) (M : HMem) : Nat → Int32 → Int32 → Option (Int32 × HMem)
  | 0, _, _ => none
  | k + 1, v3, v4 =>
    if 8 ≤ v4 then
      (some (v3, M))
    else
      (hb1 (f_X12_hasLine v4 M) (fun x101 =>
      f_X12_couldBe_L89 n (f_X12_couldBe_L71 n v1 v2 M k) v1 v2 v3 v4 M n x101 0))
set_option maxRecDepth 20000 in
theorem w_X12_couldBe_L71 (d : Nat) (hd : 2 ≤ d) (n : Nat) (M : HMem) (v1 : Int32) (v2 : Int32) : ∀ (k : Nat) (v3 : Int32) (v4 : Int32), GX iX12_couldBe d eI (f_X12_couldBe_L71 n v1 v2 M k v3 v4) 71 [some (.inr (some 74)), some (.inl v1), some (.inl v2), some (.inl v3), some (.inl v4), none, none] [] M := by
  intro k
  induction k with
  | zero => intro v3 v4; exact gx_none
  | succ k ih =>
    intro v3 v4
    rw [f_X12_couldBe_L71]
    refine gx_iload dX12_couldBe_71 rfl ?_
    refine gx_bipush (x := 8) (by decide) dX12_couldBe_73 ?_
    refine gx_icmp_ge (tgt := 166) dX12_couldBe_75 (by decide) ?_ ?_
    · refine gx_iload_n dX12_couldBe_166 rfl ?_
      exact gx_iret rfl rfl dX12_couldBe_167
    refine gx_aload_n dX12_couldBe_78 rfl ?_
    refine gx_iload dX12_couldBe_79 rfl ?_
    refine gx_cV_ip (av := [.inl v4]) (st := []) ml_X12_122 (by omega) sh74 (c_X12_hasLine (d - 1) (by omega) v4 M) rfl rfl (Nat.le_of_ble_eq_true rfl) dX12_couldBe_81 (fun x101 => ?_)
    refine gx_istore (lv' := [some (.inr (some 74)), some (.inl v1), some (.inl v2), some (.inl v3), some (.inl v4), some (.inl x101), none]) dX12_couldBe_84 (by decide) rfl ?_
    refine gx_iconst (x := 0) (by decide) dX12_couldBe_86 ?_
    refine gx_istore (lv' := [some (.inr (some 74)), some (.inl v1), some (.inl v2), some (.inl v3), some (.inl v4), some (.inl x101), some (.inl 0)]) dX12_couldBe_87 (by decide) rfl ?_
    refine gx_mk (lv' := [some (.inr (some 74)), some (.inl v1), some (.inl v2), some (.inl v3), some (.inl v4), some (.inl x101), some (.inl 0)]) [true, true, true, true, true, true, true] rfl ?_
    exact w_X12_couldBe_L89 d hd n (f_X12_couldBe_L71 n v1 v2 M k) M v1 v2 v3 v4 ih n x101 0
def f_X12_couldBe_L39 (n : Nat) (v1 : Int32) (v2 : Int32) (M : HMem) : Nat → Int32 → Option (Int32 × HMem)
  | 0, _ => none
  | k + 1, v3 =>
    if v1 ≤ v3 then
      (f_X12_couldBe_L71 n v1 v2 M n 0 0)
    else
      (hb1 (f_X12_octet (3 * v3) M) (fun x101 =>
      if x101 < 192 then
        (f_X12_couldBe_L39 n v1 v2 M k (v3 + 1))
      else
        (some ((-2), M))))
set_option maxRecDepth 20000 in
theorem w_X12_couldBe_L39 (d : Nat) (hd : 2 ≤ d) (n : Nat) (M : HMem) (v1 : Int32) (v2 : Int32) : ∀ (k : Nat) (v3 : Int32), GX iX12_couldBe d eI (f_X12_couldBe_L39 n v1 v2 M k v3) 39 [some (.inr (some 74)), some (.inl v1), some (.inl v2), some (.inl v3), none, none, none] [] M := by
  intro k
  induction k with
  | zero => intro v3; exact gx_none
  | succ k ih =>
    intro v3
    rw [f_X12_couldBe_L39]
    refine gx_iload_n dX12_couldBe_39 rfl ?_
    refine gx_iload_n dX12_couldBe_40 rfl ?_
    refine gx_icmp_ge (tgt := 66) dX12_couldBe_41 (by decide) ?_ ?_
    · refine gx_iconst (x := 0) (by decide) dX12_couldBe_66 ?_
      refine gx_istore_n (lv' := [some (.inr (some 74)), some (.inl v1), some (.inl v2), some (.inl 0), none, none, none]) dX12_couldBe_67 (by decide) rfl ?_
      refine gx_iconst (x := 0) (by decide) dX12_couldBe_68 ?_
      refine gx_istore (lv' := [some (.inr (some 74)), some (.inl v1), some (.inl v2), some (.inl 0), some (.inl 0), none, none]) dX12_couldBe_69 (by decide) rfl ?_
      refine gx_mk (lv' := [some (.inr (some 74)), some (.inl v1), some (.inl v2), some (.inl 0), some (.inl 0), none, none]) [true, true, true, true, true, false, false] rfl ?_
      exact w_X12_couldBe_L71 d hd n M v1 v2 n 0 0
    refine gx_aload_n dX12_couldBe_44 rfl ?_
    refine gx_iconst (x := 3) (by decide) dX12_couldBe_45 ?_
    refine gx_iload_n dX12_couldBe_46 rfl ?_
    refine gx_imul dX12_couldBe_47 ?_
    refine gx_cV_ip (av := [.inl (3 * v3)]) (st := []) ml_X12_383 (by omega) sh74 (c_X12_octet (d - 1) (by omega) (3 * v3) M) rfl rfl (Nat.le_of_ble_eq_true rfl) dX12_couldBe_48 (fun x101 => ?_)
    refine gx_sipush (x := 192) (by decide) dX12_couldBe_51 ?_
    refine gx_icmp_lt (tgt := 60) dX12_couldBe_54 (by decide) ?_ ?_
    · refine gx_iinc (y := v3 + 1) (lv' := [some (.inr (some 74)), some (.inl v1), some (.inl v2), some (.inl (v3 + 1)), none, none, none]) dX12_couldBe_60 rfl rfl (by decide) rfl ?_
      refine gx_goto (tgt := 39) dX12_couldBe_63 (by decide) ?_
      refine gx_mk (lv' := [some (.inr (some 74)), some (.inl v1), some (.inl v2), some (.inl (v3 + 1)), none, none, none]) [true, true, true, true, false, false, false] rfl ?_
      exact ih (v3 + 1)
    refine gx_bipush (x := (-2)) (by decide) dX12_couldBe_57 ?_
    exact gx_iret rfl rfl dX12_couldBe_59
def f_X12_couldBe (n : Nat) (v1 : Int32) (v2 : Int32) (M : HMem) : Option (Int32 × HMem) :=
  if (f_X12_in v1 1 10) = 0 then
    (some ((-1), M))
  else
    (if (f_X12_in v2 0 99) = 0 then
      (some ((-1), M))
    else
      (if (3 * v1) ≤ (M 74 12) then
        (f_X12_couldBe_L39 n v1 v2 (hset M 74 12 0) n 0)
      else
        (some ((-1), M))))
set_option maxRecDepth 20000 in
theorem w_X12_couldBe (d : Nat) (hd : 2 ≤ d) (n : Nat) (v1 : Int32) (v2 : Int32) (M : HMem) : GX iX12_couldBe d eI (f_X12_couldBe n v1 v2 M) 0 [some (.inr (some 74)), some (.inl v1), some (.inl v2), none, none, none, none] [] M := by
  rw [f_X12_couldBe]
  refine gx_iload_n dX12_couldBe_0 rfl ?_
  refine gx_iconst (x := 1) (by decide) dX12_couldBe_1 ?_
  refine gx_bipush (x := 10) (by decide) dX12_couldBe_2 ?_
  refine gx_cS_it (av := [.inl v1, .inl 1, .inl 10]) (st := []) ml_X12_118 (by omega) (c_X12_in (d - 1) (by omega) v1 1 10 M) rfl rfl (Nat.le_of_ble_eq_true rfl) dX12_couldBe_4 ?_
  refine gx_if_eq (tgt := 30) dX12_couldBe_7 (by decide) ?_ ?_
  · refine gx_iconst (x := (-1)) (by decide) dX12_couldBe_30 ?_
    exact gx_iret rfl rfl dX12_couldBe_31
  refine gx_iload_n dX12_couldBe_10 rfl ?_
  refine gx_iconst (x := 0) (by decide) dX12_couldBe_11 ?_
  refine gx_bipush (x := 99) (by decide) dX12_couldBe_12 ?_
  refine gx_cS_it (av := [.inl v2, .inl 0, .inl 99]) (st := []) ml_X12_118 (by omega) (c_X12_in (d - 1) (by omega) v2 0 99 M) rfl rfl (Nat.le_of_ble_eq_true rfl) dX12_couldBe_14 ?_
  refine gx_if_eq (tgt := 30) dX12_couldBe_17 (by decide) ?_ ?_
  · refine gx_iconst (x := (-1)) (by decide) dX12_couldBe_30 ?_
    exact gx_iret rfl rfl dX12_couldBe_31
  refine gx_iconst (x := 3) (by decide) dX12_couldBe_20 ?_
  refine gx_iload_n dX12_couldBe_21 rfl ?_
  refine gx_imul dX12_couldBe_22 ?_
  refine gx_aload_n dX12_couldBe_23 rfl ?_
  refine gx_getI fl_X12_130 sh74 rfl dX12_couldBe_24 ?_
  refine gx_icmp_le (tgt := 32) dX12_couldBe_27 (by decide) ?_ ?_
  · refine gx_aload_n dX12_couldBe_32 rfl ?_
    refine gx_iconst (x := 0) (by decide) dX12_couldBe_33 ?_
    refine gx_putI fl_X12_130 fp_X12_12 sh74 rfl dX12_couldBe_34 ?_
    refine gx_iconst (x := 0) (by decide) dX12_couldBe_37 ?_
    refine gx_istore_n (lv' := [some (.inr (some 74)), some (.inl v1), some (.inl v2), some (.inl 0), none, none, none]) dX12_couldBe_38 (by decide) rfl ?_
    refine gx_mk (lv' := [some (.inr (some 74)), some (.inl v1), some (.inl v2), some (.inl 0), none, none, none]) [true, true, true, true, false, false, false] rfl ?_
    exact w_X12_couldBe_L39 d hd n (hset M 74 12 0) v1 v2 n 0
  refine gx_iconst (x := (-1)) (by decide) dX12_couldBe_30 ?_
  exact gx_iret rfl rfl dX12_couldBe_31
theorem c_X12_couldBe (d : Nat) (hd : 2 ≤ d) (n : Nat) (v1 : Int32) (v2 : Int32) (M : HMem) : MX iX12_couldBe d [.inr (some 74), .inl v1, .inl v2] M eI (f_X12_couldBe n v1 v2 M) := mx_of (by decide +kernel) (Nat.le_of_ble_eq_true rfl) rfl (w_X12_couldBe d hd n v1 v2 M)
-- X12_isAtEdge
def f_X12_isAtEdge (v0 : Int32) : Int32 :=
  if (v0 - v0 / 16 * 16) = 0 then
    (1)
  else
    (if (v0 - v0 / 16 * 16) = 15 then
      (1)
    else
      (if (v0 / 16) = 0 then
        (1)
      else
        (if (v0 / 16) = 11 then
          (1)
        else
          (0))))
set_option maxRecDepth 20000 in
theorem w_X12_isAtEdge (d : Nat) (hd : 0 ≤ d) (v0 : Int32) (M : HMem) : GX iX12_isAtEdge d (eP M) (some (f_X12_isAtEdge v0)) 0 [some (.inl v0)] [] M := by
  rw [f_X12_isAtEdge]
  refine gx_iload_n dX12_isAtEdge_0 rfl ?_
  refine gx_bipush (x := 16) (by decide) dX12_isAtEdge_1 ?_
  refine gx_iremL (by decide) dX12_isAtEdge_3 ?_
  refine gxt_if_eq (tgt := 32) dX12_isAtEdge_4 (by decide) ?_ ?_
  · refine gx_iconst (x := 1) (by decide) dX12_isAtEdge_32 ?_
    refine gx_goto (tgt := 37) dX12_isAtEdge_33 (by decide) ?_
    exact gx_zret rfl (by decide) rfl dX12_isAtEdge_37
  refine gx_iload_n dX12_isAtEdge_7 rfl ?_
  refine gx_bipush (x := 16) (by decide) dX12_isAtEdge_8 ?_
  refine gx_iremL (by decide) dX12_isAtEdge_10 ?_
  refine gx_bipush (x := 15) (by decide) dX12_isAtEdge_11 ?_
  refine gxt_icmp_eq (tgt := 32) dX12_isAtEdge_13 (by decide) ?_ ?_
  · refine gx_iconst (x := 1) (by decide) dX12_isAtEdge_32 ?_
    refine gx_goto (tgt := 37) dX12_isAtEdge_33 (by decide) ?_
    exact gx_zret rfl (by decide) rfl dX12_isAtEdge_37
  refine gx_iload_n dX12_isAtEdge_16 rfl ?_
  refine gx_bipush (x := 16) (by decide) dX12_isAtEdge_17 ?_
  refine gx_idivL (by decide) dX12_isAtEdge_19 ?_
  refine gxt_if_eq (tgt := 32) dX12_isAtEdge_20 (by decide) ?_ ?_
  · refine gx_iconst (x := 1) (by decide) dX12_isAtEdge_32 ?_
    refine gx_goto (tgt := 37) dX12_isAtEdge_33 (by decide) ?_
    exact gx_zret rfl (by decide) rfl dX12_isAtEdge_37
  refine gx_iload_n dX12_isAtEdge_23 rfl ?_
  refine gx_bipush (x := 16) (by decide) dX12_isAtEdge_24 ?_
  refine gx_idivL (by decide) dX12_isAtEdge_26 ?_
  refine gx_bipush (x := 11) (by decide) dX12_isAtEdge_27 ?_
  refine gxt_icmp_ne (tgt := 36) dX12_isAtEdge_29 (by decide) ?_ ?_
  · refine gx_iconst (x := 0) (by decide) dX12_isAtEdge_36 ?_
    exact gx_zret rfl (by decide) rfl dX12_isAtEdge_37
  refine gx_iconst (x := 1) (by decide) dX12_isAtEdge_32 ?_
  refine gx_goto (tgt := 37) dX12_isAtEdge_33 (by decide) ?_
  exact gx_zret rfl (by decide) rfl dX12_isAtEdge_37
theorem c_X12_isAtEdge (d : Nat) (hd : 0 ≤ d) (v0 : Int32) (M : HMem) : MX iX12_isAtEdge d [.inl v0] M (eP M) (some (f_X12_isAtEdge v0)) := mx_of (by decide +kernel) (Nat.le_of_ble_eq_true rfl) rfl (w_X12_isAtEdge d hd v0 M)
-- X12_heldIn
def f_X12_heldIn_L88 (n : Nat) (r54 : Int32 → Int32 → HMem → Option (Int32 × HMem)) (v3 : Int32) : Nat → Int32 → Int32 → HMem → Option (Int32 × HMem)
  | 0, _, _, _ => none
  | k + 1, v2, v4, M =>
    if 192 ≤ v4 then
      (r54 v2 (v3 + 1) M)
    else
      (if hib v4 192 then
      if (M 106 (Int32.toNatClampNeg v4)) = (-1) then
        (f_X12_heldIn_L88 n r54 v3 k v2 (v4 + 1) M)
      else
        (if hib v4 192 then
        f_X12_heldIn_L88 n r54 v3 k (v2 - 1) (v4 + 1) (hset M 108 (Int32.toNatClampNeg v4) (1 &&& 1))
        else none)
      else none)
set_option maxRecDepth 20000 in
theorem w_X12_heldIn_L88 (d : Nat) (hd : 4 ≤ d) (n : Nat) (r54 : Int32 → Int32 → HMem → Option (Int32 × HMem)) (v3 : Int32) (hr54 : ∀ (v2 : Int32) (v3 : Int32) (M : HMem), GX iX12_heldIn d eI (r54 v2 v3 M) 54 [some (.inr (some 74)), none, some (.inl v2), some (.inl v3), none] [] M) : ∀ (k : Nat) (v2 : Int32) (v4 : Int32) (M : HMem), GX iX12_heldIn d eI (f_X12_heldIn_L88 n r54 v3 k v2 v4 M) 88 [some (.inr (some 74)), none, some (.inl v2), some (.inl v3), some (.inl v4)] [] M := by
  intro k
  induction k with
  | zero => intro v2 v4 M; exact gx_none
  | succ k ih =>
    intro v2 v4 M
    rw [f_X12_heldIn_L88]
    refine gx_iload dX12_heldIn_88 rfl ?_
    refine gx_sipush (x := 192) (by decide) dX12_heldIn_90 ?_
    refine gx_icmp_ge (tgt := 128) dX12_heldIn_93 (by decide) ?_ ?_
    · refine gx_iinc (y := v3 + 1) (lv' := [some (.inr (some 74)), none, some (.inl v2), some (.inl (v3 + 1)), some (.inl v4)]) dX12_heldIn_128 rfl rfl (by decide) rfl ?_
      refine gx_goto (tgt := 54) dX12_heldIn_131 (by decide) ?_
      refine gx_mk (lv' := [some (.inr (some 74)), none, some (.inl v2), some (.inl (v3 + 1)), none]) [true, false, true, true, false] rfl ?_
      exact hr54 v2 (v3 + 1) M
    refine gx_aload_n dX12_heldIn_96 rfl ?_
    refine gx_getR fl_X12_104 sh74 rfl dX12_heldIn_97 ?_
    refine gx_iload dX12_heldIn_100 rfl ?_
    refine gx_iaload sh106 dX12_heldIn_102 ?_
    refine gx_iconst (x := (-1)) (by decide) dX12_heldIn_103 ?_
    refine gx_icmp_ne (tgt := 110) dX12_heldIn_104 (by decide) ?_ ?_
    · refine gx_aload_n dX12_heldIn_110 rfl ?_
      refine gx_getR fl_X12_110 sh74 rfl dX12_heldIn_111 ?_
      refine gx_iload dX12_heldIn_114 rfl ?_
      refine gx_iconst (x := 1) (by decide) dX12_heldIn_116 ?_
      refine gx_zastore sh108 dX12_heldIn_117 ?_
      refine gx_iload_n dX12_heldIn_118 rfl ?_
      refine gx_iconst (x := 1) (by decide) dX12_heldIn_119 ?_
      refine gx_isub dX12_heldIn_120 ?_
      refine gx_istore_n (lv' := [some (.inr (some 74)), none, some (.inl (v2 - 1)), some (.inl v3), some (.inl v4)]) dX12_heldIn_121 (by decide) rfl ?_
      refine gx_iinc (y := v4 + 1) (lv' := [some (.inr (some 74)), none, some (.inl (v2 - 1)), some (.inl v3), some (.inl (v4 + 1))]) dX12_heldIn_122 rfl rfl (by decide) rfl ?_
      refine gx_goto (tgt := 88) dX12_heldIn_125 (by decide) ?_
      refine gx_mk (lv' := [some (.inr (some 74)), none, some (.inl (v2 - 1)), some (.inl v3), some (.inl (v4 + 1))]) [true, false, true, true, true] rfl ?_
      exact ih (v2 - 1) (v4 + 1) (hset M 108 (Int32.toNatClampNeg v4) (1 &&& 1))
    refine gx_goto (tgt := 122) dX12_heldIn_107 (by decide) ?_
    refine gx_iinc (y := v4 + 1) (lv' := [some (.inr (some 74)), none, some (.inl v2), some (.inl v3), some (.inl (v4 + 1))]) dX12_heldIn_122 rfl rfl (by decide) rfl ?_
    refine gx_goto (tgt := 88) dX12_heldIn_125 (by decide) ?_
    refine gx_mk (lv' := [some (.inr (some 74)), none, some (.inl v2), some (.inl v3), some (.inl (v4 + 1))]) [true, false, true, true, true] rfl ?_
    exact ih v2 (v4 + 1) M
def f_X12_heldIn_L54 (n : Nat)  : Nat → Int32 → Int32 → HMem → Option (Int32 × HMem)
  | 0, _, _, _ => none
  | k + 1, v2, v3, M =>
    if 192 ≤ v3 then
      (some (v2, M))
    else
      (if (f_X12_isAtEdge v3) = 0 then
        (f_X12_heldIn_L54 n k v2 (v3 + 1) M)
      else
        (if hib v3 192 then
        if (M 108 (Int32.toNatClampNeg v3)) = 0 then
          (hb1 (f_X12_walksFrom n v3 M) (fun M101 =>
          f_X12_heldIn_L88 n (f_X12_heldIn_L54 n k) v3 n v2 0 M101))
        else
          (f_X12_heldIn_L54 n k v2 (v3 + 1) M)
        else none))
set_option maxRecDepth 20000 in
theorem w_X12_heldIn_L54 (d : Nat) (hd : 4 ≤ d) (n : Nat)  : ∀ (k : Nat) (v2 : Int32) (v3 : Int32) (M : HMem), GX iX12_heldIn d eI (f_X12_heldIn_L54 n k v2 v3 M) 54 [some (.inr (some 74)), none, some (.inl v2), some (.inl v3), none] [] M := by
  intro k
  induction k with
  | zero => intro v2 v3 M; exact gx_none
  | succ k ih =>
    intro v2 v3 M
    rw [f_X12_heldIn_L54]
    refine gx_iload_n dX12_heldIn_54 rfl ?_
    refine gx_sipush (x := 192) (by decide) dX12_heldIn_55 ?_
    refine gx_icmp_ge (tgt := 134) dX12_heldIn_58 (by decide) ?_ ?_
    · refine gx_iload_n dX12_heldIn_134 rfl ?_
      exact gx_iret rfl rfl dX12_heldIn_135
    refine gx_iload_n dX12_heldIn_61 rfl ?_
    refine gx_cS_it (av := [.inl v3]) (st := []) ml_X12_390 (by omega) (c_X12_isAtEdge (d - 1) (by omega) v3 M) rfl rfl (Nat.le_of_ble_eq_true rfl) dX12_heldIn_62 ?_
    refine gx_if_eq (tgt := 128) dX12_heldIn_65 (by decide) ?_ ?_
    · refine gx_iinc (y := v3 + 1) (lv' := [some (.inr (some 74)), none, some (.inl v2), some (.inl (v3 + 1)), none]) dX12_heldIn_128 rfl rfl (by decide) rfl ?_
      refine gx_goto (tgt := 54) dX12_heldIn_131 (by decide) ?_
      refine gx_mk (lv' := [some (.inr (some 74)), none, some (.inl v2), some (.inl (v3 + 1)), none]) [true, false, true, true, false] rfl ?_
      exact ih v2 (v3 + 1) M
    refine gx_aload_n dX12_heldIn_68 rfl ?_
    refine gx_getR fl_X12_110 sh74 rfl dX12_heldIn_69 ?_
    refine gx_iload_n dX12_heldIn_72 rfl ?_
    refine gx_zaload sh108 dX12_heldIn_73 ?_
    refine gx_if_eq (tgt := 80) dX12_heldIn_74 (by decide) ?_ ?_
    · refine gx_aload_n dX12_heldIn_80 rfl ?_
      refine gx_iload_n dX12_heldIn_81 rfl ?_
      refine gx_cV_vm (av := [.inl v3]) (st := []) ml_X12_380 (by omega) sh74 (c_X12_walksFrom (d - 1) (by omega) n v3 M) rfl rfl (Nat.le_of_ble_eq_true rfl) dX12_heldIn_82 (fun M101 => ?_)
      refine gx_iconst (x := 0) (by decide) dX12_heldIn_85 ?_
      refine gx_istore (lv' := [some (.inr (some 74)), none, some (.inl v2), some (.inl v3), some (.inl 0)]) dX12_heldIn_86 (by decide) rfl ?_
      refine gx_mk (lv' := [some (.inr (some 74)), none, some (.inl v2), some (.inl v3), some (.inl 0)]) [true, false, true, true, true] rfl ?_
      exact w_X12_heldIn_L88 d hd n (f_X12_heldIn_L54 n k) v3 ih n v2 0 M101
    refine gx_goto (tgt := 128) dX12_heldIn_77 (by decide) ?_
    refine gx_iinc (y := v3 + 1) (lv' := [some (.inr (some 74)), none, some (.inl v2), some (.inl (v3 + 1)), none]) dX12_heldIn_128 rfl rfl (by decide) rfl ?_
    refine gx_goto (tgt := 54) dX12_heldIn_131 (by decide) ?_
    refine gx_mk (lv' := [some (.inr (some 74)), none, some (.inl v2), some (.inl (v3 + 1)), none]) [true, false, true, true, false] rfl ?_
    exact ih v2 (v3 + 1) M
def f_X12_heldIn_L14 (n : Nat) (v1 : Int32) : Nat → Int32 → Int32 → HMem → Option (Int32 × HMem)
  | 0, _, _, _ => none
  | k + 1, v2, v3, M =>
    if 192 ≤ v3 then
      (f_X12_heldIn_L54 n n v2 0 M)
    else
      (hb1 (f_X12_isOn n v1 v3 M) (fun x101 =>
      if hib v3 192 then
      hb1 (some (hset M 108 (Int32.toNatClampNeg v3) (x101 &&& 1))) (fun M102 =>
      if hib v3 192 then
      if (M102 108 (Int32.toNatClampNeg v3)) = 0 then
        (f_X12_heldIn_L14 n v1 k (v2 + 1) (v3 + 1) M102)
      else
        (f_X12_heldIn_L14 n v1 k v2 (v3 + 1) M102)
      else none)
      else none))
set_option maxRecDepth 20000 in
theorem w_X12_heldIn_L14 (d : Nat) (hd : 4 ≤ d) (n : Nat) (v1 : Int32) : ∀ (k : Nat) (v2 : Int32) (v3 : Int32) (M : HMem), GX iX12_heldIn d eI (f_X12_heldIn_L14 n v1 k v2 v3 M) 14 [some (.inr (some 74)), some (.inl v1), some (.inl v2), some (.inl v3), none] [] M := by
  intro k
  induction k with
  | zero => intro v2 v3 M; exact gx_none
  | succ k ih =>
    intro v2 v3 M
    rw [f_X12_heldIn_L14]
    refine gx_iload_n dX12_heldIn_14 rfl ?_
    refine gx_sipush (x := 192) (by decide) dX12_heldIn_15 ?_
    refine gx_icmp_ge (tgt := 52) dX12_heldIn_18 (by decide) ?_ ?_
    · refine gx_iconst (x := 0) (by decide) dX12_heldIn_52 ?_
      refine gx_istore_n (lv' := [some (.inr (some 74)), some (.inl v1), some (.inl v2), some (.inl 0), none]) dX12_heldIn_53 (by decide) rfl ?_
      refine gx_mk (lv' := [some (.inr (some 74)), none, some (.inl v2), some (.inl 0), none]) [true, false, true, true, false] rfl ?_
      exact w_X12_heldIn_L54 d hd n  n v2 0 M
    refine gx_aload_n dX12_heldIn_21 rfl ?_
    refine gx_getR fl_X12_110 sh74 rfl dX12_heldIn_22 ?_
    refine gx_iload_n dX12_heldIn_25 rfl ?_
    refine gx_aload_n dX12_heldIn_26 rfl ?_
    refine gx_iload_n dX12_heldIn_27 rfl ?_
    refine gx_iload_n dX12_heldIn_28 rfl ?_
    refine gx_cV_ip (av := [.inl v1, .inl v3]) (st := [.inl v3, .inr (some 108)]) ml_X12_362 (by omega) sh74 (c_X12_isOn (d - 1) (by omega) n v1 v3 M) rfl rfl (Nat.le_of_ble_eq_true rfl) dX12_heldIn_29 (fun x101 => ?_)
    refine gx_zastore sh108 dX12_heldIn_32 ?_
    refine gx_aload_n dX12_heldIn_33 rfl ?_
    refine gx_getR fl_X12_110 sh74 rfl dX12_heldIn_34 ?_
    refine gx_iload_n dX12_heldIn_37 rfl ?_
    refine gx_nm (fun M102 => ?_)
    refine gx_zaload sh108 dX12_heldIn_38 ?_
    refine gx_if_ne (tgt := 46) dX12_heldIn_39 (by decide) ?_ ?_
    · refine gx_iinc (y := v3 + 1) (lv' := [some (.inr (some 74)), some (.inl v1), some (.inl v2), some (.inl (v3 + 1)), none]) dX12_heldIn_46 rfl rfl (by decide) rfl ?_
      refine gx_goto (tgt := 14) dX12_heldIn_49 (by decide) ?_
      refine gx_mk (lv' := [some (.inr (some 74)), some (.inl v1), some (.inl v2), some (.inl (v3 + 1)), none]) [true, true, true, true, false] rfl ?_
      exact ih v2 (v3 + 1) M102
    refine gx_iload_n dX12_heldIn_42 rfl ?_
    refine gx_iconst (x := 1) (by decide) dX12_heldIn_43 ?_
    refine gx_iadd dX12_heldIn_44 ?_
    refine gx_istore_n (lv' := [some (.inr (some 74)), some (.inl v1), some (.inl (v2 + 1)), some (.inl v3), none]) dX12_heldIn_45 (by decide) rfl ?_
    refine gx_iinc (y := v3 + 1) (lv' := [some (.inr (some 74)), some (.inl v1), some (.inl (v2 + 1)), some (.inl (v3 + 1)), none]) dX12_heldIn_46 rfl rfl (by decide) rfl ?_
    refine gx_goto (tgt := 14) dX12_heldIn_49 (by decide) ?_
    refine gx_mk (lv' := [some (.inr (some 74)), some (.inl v1), some (.inl (v2 + 1)), some (.inl (v3 + 1)), none]) [true, true, true, true, false] rfl ?_
    exact ih (v2 + 1) (v3 + 1) M102
def f_X12_heldIn (n : Nat) (v1 : Int32) (M : HMem) : Option (Int32 × HMem) :=
  hb1 (f_X12_hasLine v1 M) (fun x101 =>
  if x101 = 0 then
    (some ((-1), M))
  else
    (f_X12_heldIn_L14 n v1 n 0 0 M))
set_option maxRecDepth 20000 in
theorem w_X12_heldIn (d : Nat) (hd : 4 ≤ d) (n : Nat) (v1 : Int32) (M : HMem) : GX iX12_heldIn d eI (f_X12_heldIn n v1 M) 0 [some (.inr (some 74)), some (.inl v1), none, none, none] [] M := by
  rw [f_X12_heldIn]
  refine gx_aload_n dX12_heldIn_0 rfl ?_
  refine gx_iload_n dX12_heldIn_1 rfl ?_
  refine gx_cV_ip (av := [.inl v1]) (st := []) ml_X12_122 (by omega) sh74 (c_X12_hasLine (d - 1) (by omega) v1 M) rfl rfl (Nat.le_of_ble_eq_true rfl) dX12_heldIn_2 (fun x101 => ?_)
  refine gx_if_ne (tgt := 10) dX12_heldIn_5 (by decide) ?_ ?_
  · refine gx_iconst (x := 0) (by decide) dX12_heldIn_10 ?_
    refine gx_istore_n (lv' := [some (.inr (some 74)), some (.inl v1), some (.inl 0), none, none]) dX12_heldIn_11 (by decide) rfl ?_
    refine gx_iconst (x := 0) (by decide) dX12_heldIn_12 ?_
    refine gx_istore_n (lv' := [some (.inr (some 74)), some (.inl v1), some (.inl 0), some (.inl 0), none]) dX12_heldIn_13 (by decide) rfl ?_
    refine gx_mk (lv' := [some (.inr (some 74)), some (.inl v1), some (.inl 0), some (.inl 0), none]) [true, true, true, true, false] rfl ?_
    exact w_X12_heldIn_L14 d hd n v1 n 0 0 M
  refine gx_iconst (x := (-1)) (by decide) dX12_heldIn_8 ?_
  exact gx_iret rfl rfl dX12_heldIn_9
theorem c_X12_heldIn (d : Nat) (hd : 4 ≤ d) (n : Nat) (v1 : Int32) (M : HMem) : MX iX12_heldIn d [.inr (some 74), .inl v1] M eI (f_X12_heldIn n v1 M) := mx_of (by decide +kernel) (Nat.le_of_ble_eq_true rfl) rfl (w_X12_heldIn d hd n v1 M)
-- X12_turnsOf
def f_X12_turnsOf_L7 (n : Nat) (v1 : Int32) (M : HMem) : Nat → Int32 → Int32 → Int32 → Option Int32
  | 0, _, _, _ => none
  | k + 1, v2, v3, v4 =>
    if hib v1 8 then
    if (M 78 (Int32.toNatClampNeg v1)) ≤ v4 then
      (some v2)
    else
      (if hib ((96 * v1) + v4) 768 then
      if (M 80 (Int32.toNatClampNeg ((96 * v1) + v4))) = 4 then
        (f_X12_turnsOf_L7 n v1 M k v2 v3 (v4 + 1))
      else
        (if v3 = (-1) then
          (f_X12_turnsOf_L7 n v1 M k v2 (M 80 (Int32.toNatClampNeg ((96 * v1) + v4))) (v4 + 1))
        else
          (if (M 80 (Int32.toNatClampNeg ((96 * v1) + v4))) = v3 then
            (f_X12_turnsOf_L7 n v1 M k v2 (M 80 (Int32.toNatClampNeg ((96 * v1) + v4))) (v4 + 1))
          else
            (f_X12_turnsOf_L7 n v1 M k (v2 + 1) (M 80 (Int32.toNatClampNeg ((96 * v1) + v4))) (v4 + 1))))
      else none)
    else none
set_option maxRecDepth 20000 in
theorem w_X12_turnsOf_L7 (d : Nat) (hd : 0 ≤ d) (n : Nat) (M : HMem) (v1 : Int32) : ∀ (k : Nat) (v2 : Int32) (v3 : Int32) (v4 : Int32), GX iX12_turnsOf d (eP M) (f_X12_turnsOf_L7 n v1 M k v2 v3 v4) 7 [some (.inr (some 74)), some (.inl v1), some (.inl v2), some (.inl v3), some (.inl v4), none] [] M := by
  intro k
  induction k with
  | zero => intro v2 v3 v4; exact gx_none
  | succ k ih =>
    intro v2 v3 v4
    rw [f_X12_turnsOf_L7]
    refine gx_iload dX12_turnsOf_7 rfl ?_
    refine gx_aload_n dX12_turnsOf_9 rfl ?_
    refine gx_getR fl_X12_19 sh74 rfl dX12_turnsOf_10 ?_
    refine gx_iload_n dX12_turnsOf_13 rfl ?_
    refine gx_iaload sh78 dX12_turnsOf_14 ?_
    refine gx_icmp_ge (tgt := 65) dX12_turnsOf_15 (by decide) ?_ ?_
    · refine gx_iload_n dX12_turnsOf_65 rfl ?_
      exact gx_iret rfl rfl dX12_turnsOf_66
    refine gx_aload_n dX12_turnsOf_18 rfl ?_
    refine gx_getR fl_X12_25 sh74 rfl dX12_turnsOf_19 ?_
    refine gx_bipush (x := 96) (by decide) dX12_turnsOf_22 ?_
    refine gx_iload_n dX12_turnsOf_24 rfl ?_
    refine gx_imul dX12_turnsOf_25 ?_
    refine gx_iload dX12_turnsOf_26 rfl ?_
    refine gx_iadd dX12_turnsOf_28 ?_
    refine gx_iaload sh80 dX12_turnsOf_29 ?_
    refine gx_istore (lv' := [some (.inr (some 74)), some (.inl v1), some (.inl v2), some (.inl v3), some (.inl v4), some (.inl (M 80 (Int32.toNatClampNeg ((96 * v1) + v4))))]) dX12_turnsOf_30 (by decide) rfl ?_
    refine gx_iload dX12_turnsOf_32 rfl ?_
    refine gx_iconst (x := 4) (by decide) dX12_turnsOf_34 ?_
    refine gx_icmp_ne (tgt := 41) dX12_turnsOf_35 (by decide) ?_ ?_
    · refine gx_iload_n dX12_turnsOf_41 rfl ?_
      refine gx_iconst (x := (-1)) (by decide) dX12_turnsOf_42 ?_
      refine gx_icmp_eq (tgt := 56) dX12_turnsOf_43 (by decide) ?_ ?_
      · refine gx_iload dX12_turnsOf_56 rfl ?_
        refine gx_istore_n (lv' := [some (.inr (some 74)), some (.inl v1), some (.inl v2), some (.inl (M 80 (Int32.toNatClampNeg ((96 * v1) + v4)))), some (.inl v4), some (.inl (M 80 (Int32.toNatClampNeg ((96 * v1) + v4))))]) dX12_turnsOf_58 (by decide) rfl ?_
        refine gx_iinc (y := v4 + 1) (lv' := [some (.inr (some 74)), some (.inl v1), some (.inl v2), some (.inl (M 80 (Int32.toNatClampNeg ((96 * v1) + v4)))), some (.inl (v4 + 1)), some (.inl (M 80 (Int32.toNatClampNeg ((96 * v1) + v4))))]) dX12_turnsOf_59 rfl rfl (by decide) rfl ?_
        refine gx_goto (tgt := 7) dX12_turnsOf_62 (by decide) ?_
        refine gx_mk (lv' := [some (.inr (some 74)), some (.inl v1), some (.inl v2), some (.inl (M 80 (Int32.toNatClampNeg ((96 * v1) + v4)))), some (.inl (v4 + 1)), none]) [true, true, true, true, true, false] rfl ?_
        exact ih v2 (M 80 (Int32.toNatClampNeg ((96 * v1) + v4))) (v4 + 1)
      refine gx_iload dX12_turnsOf_46 rfl ?_
      refine gx_iload_n dX12_turnsOf_48 rfl ?_
      refine gx_icmp_eq (tgt := 56) dX12_turnsOf_49 (by decide) ?_ ?_
      · refine gx_iload dX12_turnsOf_56 rfl ?_
        refine gx_istore_n (lv' := [some (.inr (some 74)), some (.inl v1), some (.inl v2), some (.inl (M 80 (Int32.toNatClampNeg ((96 * v1) + v4)))), some (.inl v4), some (.inl (M 80 (Int32.toNatClampNeg ((96 * v1) + v4))))]) dX12_turnsOf_58 (by decide) rfl ?_
        refine gx_iinc (y := v4 + 1) (lv' := [some (.inr (some 74)), some (.inl v1), some (.inl v2), some (.inl (M 80 (Int32.toNatClampNeg ((96 * v1) + v4)))), some (.inl (v4 + 1)), some (.inl (M 80 (Int32.toNatClampNeg ((96 * v1) + v4))))]) dX12_turnsOf_59 rfl rfl (by decide) rfl ?_
        refine gx_goto (tgt := 7) dX12_turnsOf_62 (by decide) ?_
        refine gx_mk (lv' := [some (.inr (some 74)), some (.inl v1), some (.inl v2), some (.inl (M 80 (Int32.toNatClampNeg ((96 * v1) + v4)))), some (.inl (v4 + 1)), none]) [true, true, true, true, true, false] rfl ?_
        exact ih v2 (M 80 (Int32.toNatClampNeg ((96 * v1) + v4))) (v4 + 1)
      refine gx_iload_n dX12_turnsOf_52 rfl ?_
      refine gx_iconst (x := 1) (by decide) dX12_turnsOf_53 ?_
      refine gx_iadd dX12_turnsOf_54 ?_
      refine gx_istore_n (lv' := [some (.inr (some 74)), some (.inl v1), some (.inl (v2 + 1)), some (.inl v3), some (.inl v4), some (.inl (M 80 (Int32.toNatClampNeg ((96 * v1) + v4))))]) dX12_turnsOf_55 (by decide) rfl ?_
      refine gx_iload dX12_turnsOf_56 rfl ?_
      refine gx_istore_n (lv' := [some (.inr (some 74)), some (.inl v1), some (.inl (v2 + 1)), some (.inl (M 80 (Int32.toNatClampNeg ((96 * v1) + v4)))), some (.inl v4), some (.inl (M 80 (Int32.toNatClampNeg ((96 * v1) + v4))))]) dX12_turnsOf_58 (by decide) rfl ?_
      refine gx_iinc (y := v4 + 1) (lv' := [some (.inr (some 74)), some (.inl v1), some (.inl (v2 + 1)), some (.inl (M 80 (Int32.toNatClampNeg ((96 * v1) + v4)))), some (.inl (v4 + 1)), some (.inl (M 80 (Int32.toNatClampNeg ((96 * v1) + v4))))]) dX12_turnsOf_59 rfl rfl (by decide) rfl ?_
      refine gx_goto (tgt := 7) dX12_turnsOf_62 (by decide) ?_
      refine gx_mk (lv' := [some (.inr (some 74)), some (.inl v1), some (.inl (v2 + 1)), some (.inl (M 80 (Int32.toNatClampNeg ((96 * v1) + v4)))), some (.inl (v4 + 1)), none]) [true, true, true, true, true, false] rfl ?_
      exact ih (v2 + 1) (M 80 (Int32.toNatClampNeg ((96 * v1) + v4))) (v4 + 1)
    refine gx_goto (tgt := 59) dX12_turnsOf_38 (by decide) ?_
    refine gx_iinc (y := v4 + 1) (lv' := [some (.inr (some 74)), some (.inl v1), some (.inl v2), some (.inl v3), some (.inl (v4 + 1)), some (.inl (M 80 (Int32.toNatClampNeg ((96 * v1) + v4))))]) dX12_turnsOf_59 rfl rfl (by decide) rfl ?_
    refine gx_goto (tgt := 7) dX12_turnsOf_62 (by decide) ?_
    refine gx_mk (lv' := [some (.inr (some 74)), some (.inl v1), some (.inl v2), some (.inl v3), some (.inl (v4 + 1)), none]) [true, true, true, true, true, false] rfl ?_
    exact ih v2 v3 (v4 + 1)
def f_X12_turnsOf (n : Nat) (v1 : Int32) (M : HMem) : Option Int32 :=
  f_X12_turnsOf_L7 n v1 M n 0 (-1) 0
set_option maxRecDepth 20000 in
theorem w_X12_turnsOf (d : Nat) (hd : 0 ≤ d) (n : Nat) (v1 : Int32) (M : HMem) : GX iX12_turnsOf d (eP M) (f_X12_turnsOf n v1 M) 0 [some (.inr (some 74)), some (.inl v1), none, none, none, none] [] M := by
  rw [f_X12_turnsOf]
  refine gx_iconst (x := 0) (by decide) dX12_turnsOf_0 ?_
  refine gx_istore_n (lv' := [some (.inr (some 74)), some (.inl v1), some (.inl 0), none, none, none]) dX12_turnsOf_1 (by decide) rfl ?_
  refine gx_iconst (x := (-1)) (by decide) dX12_turnsOf_2 ?_
  refine gx_istore_n (lv' := [some (.inr (some 74)), some (.inl v1), some (.inl 0), some (.inl (-1)), none, none]) dX12_turnsOf_3 (by decide) rfl ?_
  refine gx_iconst (x := 0) (by decide) dX12_turnsOf_4 ?_
  refine gx_istore (lv' := [some (.inr (some 74)), some (.inl v1), some (.inl 0), some (.inl (-1)), some (.inl 0), none]) dX12_turnsOf_5 (by decide) rfl ?_
  refine gx_mk (lv' := [some (.inr (some 74)), some (.inl v1), some (.inl 0), some (.inl (-1)), some (.inl 0), none]) [true, true, true, true, true, false] rfl ?_
  exact w_X12_turnsOf_L7 d hd n M v1 n 0 (-1) 0
theorem c_X12_turnsOf (d : Nat) (hd : 0 ≤ d) (n : Nat) (v1 : Int32) (M : HMem) : MX iX12_turnsOf d [.inr (some 74), .inl v1] M (eP M) (f_X12_turnsOf n v1 M) := mx_of (by decide +kernel) (Nat.le_of_ble_eq_true rfl) rfl (w_X12_turnsOf d hd n v1 M)
-- X12_straightOf
def f_X12_straightOf_L10 (n : Nat) (v1 : Int32) (M : HMem) : Nat → Int32 → Int32 → Int32 → Int32 → Option Int32
  | 0, _, _, _, _ => none
  | k + 1, v2, v3, v4, v5 =>
    if hib v1 8 then
    if (M 78 (Int32.toNatClampNeg v1)) ≤ v5 then
      (some v2)
    else
      (if hib ((96 * v1) + v5) 768 then
      if (M 80 (Int32.toNatClampNeg ((96 * v1) + v5))) = 4 then
        (f_X12_straightOf_L10 n v1 M k v2 v3 v4 (v5 + 1))
      else
        (if (M 80 (Int32.toNatClampNeg ((96 * v1) + v5))) = v4 then
          (f_X12_straightOf_L10 n v1 M k (f_X12_max v2 (v3 + 1)) (v3 + 1) (M 80 (Int32.toNatClampNeg ((96 * v1) + v5))) (v5 + 1))
        else
          (f_X12_straightOf_L10 n v1 M k (f_X12_max v2 1) 1 (M 80 (Int32.toNatClampNeg ((96 * v1) + v5))) (v5 + 1)))
      else none)
    else none
set_option maxRecDepth 20000 in
theorem w_X12_straightOf_L10 (d : Nat) (hd : 1 ≤ d) (n : Nat) (M : HMem) (v1 : Int32) : ∀ (k : Nat) (v2 : Int32) (v3 : Int32) (v4 : Int32) (v5 : Int32), GX iX12_straightOf d (eP M) (f_X12_straightOf_L10 n v1 M k v2 v3 v4 v5) 10 [some (.inr (some 74)), some (.inl v1), some (.inl v2), some (.inl v3), some (.inl v4), some (.inl v5), none] [] M := by
  intro k
  induction k with
  | zero => intro v2 v3 v4 v5; exact gx_none
  | succ k ih =>
    intro v2 v3 v4 v5
    rw [f_X12_straightOf_L10]
    refine gx_iload dX12_straightOf_10 rfl ?_
    refine gx_aload_n dX12_straightOf_12 rfl ?_
    refine gx_getR fl_X12_19 sh74 rfl dX12_straightOf_13 ?_
    refine gx_iload_n dX12_straightOf_16 rfl ?_
    refine gx_iaload sh78 dX12_straightOf_17 ?_
    refine gx_icmp_ge (tgt := 75) dX12_straightOf_18 (by decide) ?_ ?_
    · refine gx_iload_n dX12_straightOf_75 rfl ?_
      exact gx_iret rfl rfl dX12_straightOf_76
    refine gx_aload_n dX12_straightOf_21 rfl ?_
    refine gx_getR fl_X12_25 sh74 rfl dX12_straightOf_22 ?_
    refine gx_bipush (x := 96) (by decide) dX12_straightOf_25 ?_
    refine gx_iload_n dX12_straightOf_27 rfl ?_
    refine gx_imul dX12_straightOf_28 ?_
    refine gx_iload dX12_straightOf_29 rfl ?_
    refine gx_iadd dX12_straightOf_31 ?_
    refine gx_iaload sh80 dX12_straightOf_32 ?_
    refine gx_istore (lv' := [some (.inr (some 74)), some (.inl v1), some (.inl v2), some (.inl v3), some (.inl v4), some (.inl v5), some (.inl (M 80 (Int32.toNatClampNeg ((96 * v1) + v5))))]) dX12_straightOf_33 (by decide) rfl ?_
    refine gx_iload dX12_straightOf_35 rfl ?_
    refine gx_iconst (x := 4) (by decide) dX12_straightOf_37 ?_
    refine gx_icmp_ne (tgt := 44) dX12_straightOf_38 (by decide) ?_ ?_
    · refine gx_iload dX12_straightOf_44 rfl ?_
      refine gx_iload dX12_straightOf_46 rfl ?_
      refine gx_icmp_ne (tgt := 57) dX12_straightOf_48 (by decide) ?_ ?_
      · refine gx_iconst (x := 1) (by decide) dX12_straightOf_57 ?_
        refine gx_istore_n (lv' := [some (.inr (some 74)), some (.inl v1), some (.inl v2), some (.inl 1), some (.inl v4), some (.inl v5), some (.inl (M 80 (Int32.toNatClampNeg ((96 * v1) + v5))))]) dX12_straightOf_58 (by decide) rfl ?_
        refine gx_iload dX12_straightOf_59 rfl ?_
        refine gx_istore (lv' := [some (.inr (some 74)), some (.inl v1), some (.inl v2), some (.inl 1), some (.inl (M 80 (Int32.toNatClampNeg ((96 * v1) + v5)))), some (.inl v5), some (.inl (M 80 (Int32.toNatClampNeg ((96 * v1) + v5))))]) dX12_straightOf_61 (by decide) rfl ?_
        refine gx_iload_n dX12_straightOf_63 rfl ?_
        refine gx_iload_n dX12_straightOf_64 rfl ?_
        refine gx_cS_it (av := [.inl v2, .inl 1]) (st := []) ml_X12_283 (by omega) (c_X12_max (d - 1) (by omega) v2 1 M) rfl rfl (Nat.le_of_ble_eq_true rfl) dX12_straightOf_65 ?_
        refine gx_istore_n (lv' := [some (.inr (some 74)), some (.inl v1), some (.inl (f_X12_max v2 1)), some (.inl 1), some (.inl (M 80 (Int32.toNatClampNeg ((96 * v1) + v5)))), some (.inl v5), some (.inl (M 80 (Int32.toNatClampNeg ((96 * v1) + v5))))]) dX12_straightOf_68 (by decide) rfl ?_
        refine gx_iinc (y := v5 + 1) (lv' := [some (.inr (some 74)), some (.inl v1), some (.inl (f_X12_max v2 1)), some (.inl 1), some (.inl (M 80 (Int32.toNatClampNeg ((96 * v1) + v5)))), some (.inl (v5 + 1)), some (.inl (M 80 (Int32.toNatClampNeg ((96 * v1) + v5))))]) dX12_straightOf_69 rfl rfl (by decide) rfl ?_
        refine gx_goto (tgt := 10) dX12_straightOf_72 (by decide) ?_
        refine gx_mk (lv' := [some (.inr (some 74)), some (.inl v1), some (.inl (f_X12_max v2 1)), some (.inl 1), some (.inl (M 80 (Int32.toNatClampNeg ((96 * v1) + v5)))), some (.inl (v5 + 1)), none]) [true, true, true, true, true, true, false] rfl ?_
        exact ih (f_X12_max v2 1) 1 (M 80 (Int32.toNatClampNeg ((96 * v1) + v5))) (v5 + 1)
      refine gx_iload_n dX12_straightOf_51 rfl ?_
      refine gx_iconst (x := 1) (by decide) dX12_straightOf_52 ?_
      refine gx_iadd dX12_straightOf_53 ?_
      refine gx_goto (tgt := 58) dX12_straightOf_54 (by decide) ?_
      refine gx_istore_n (lv' := [some (.inr (some 74)), some (.inl v1), some (.inl v2), some (.inl (v3 + 1)), some (.inl v4), some (.inl v5), some (.inl (M 80 (Int32.toNatClampNeg ((96 * v1) + v5))))]) dX12_straightOf_58 (by decide) rfl ?_
      refine gx_iload dX12_straightOf_59 rfl ?_
      refine gx_istore (lv' := [some (.inr (some 74)), some (.inl v1), some (.inl v2), some (.inl (v3 + 1)), some (.inl (M 80 (Int32.toNatClampNeg ((96 * v1) + v5)))), some (.inl v5), some (.inl (M 80 (Int32.toNatClampNeg ((96 * v1) + v5))))]) dX12_straightOf_61 (by decide) rfl ?_
      refine gx_iload_n dX12_straightOf_63 rfl ?_
      refine gx_iload_n dX12_straightOf_64 rfl ?_
      refine gx_cS_it (av := [.inl v2, .inl (v3 + 1)]) (st := []) ml_X12_283 (by omega) (c_X12_max (d - 1) (by omega) v2 (v3 + 1) M) rfl rfl (Nat.le_of_ble_eq_true rfl) dX12_straightOf_65 ?_
      refine gx_istore_n (lv' := [some (.inr (some 74)), some (.inl v1), some (.inl (f_X12_max v2 (v3 + 1))), some (.inl (v3 + 1)), some (.inl (M 80 (Int32.toNatClampNeg ((96 * v1) + v5)))), some (.inl v5), some (.inl (M 80 (Int32.toNatClampNeg ((96 * v1) + v5))))]) dX12_straightOf_68 (by decide) rfl ?_
      refine gx_iinc (y := v5 + 1) (lv' := [some (.inr (some 74)), some (.inl v1), some (.inl (f_X12_max v2 (v3 + 1))), some (.inl (v3 + 1)), some (.inl (M 80 (Int32.toNatClampNeg ((96 * v1) + v5)))), some (.inl (v5 + 1)), some (.inl (M 80 (Int32.toNatClampNeg ((96 * v1) + v5))))]) dX12_straightOf_69 rfl rfl (by decide) rfl ?_
      refine gx_goto (tgt := 10) dX12_straightOf_72 (by decide) ?_
      refine gx_mk (lv' := [some (.inr (some 74)), some (.inl v1), some (.inl (f_X12_max v2 (v3 + 1))), some (.inl (v3 + 1)), some (.inl (M 80 (Int32.toNatClampNeg ((96 * v1) + v5)))), some (.inl (v5 + 1)), none]) [true, true, true, true, true, true, false] rfl ?_
      exact ih (f_X12_max v2 (v3 + 1)) (v3 + 1) (M 80 (Int32.toNatClampNeg ((96 * v1) + v5))) (v5 + 1)
    refine gx_goto (tgt := 69) dX12_straightOf_41 (by decide) ?_
    refine gx_iinc (y := v5 + 1) (lv' := [some (.inr (some 74)), some (.inl v1), some (.inl v2), some (.inl v3), some (.inl v4), some (.inl (v5 + 1)), some (.inl (M 80 (Int32.toNatClampNeg ((96 * v1) + v5))))]) dX12_straightOf_69 rfl rfl (by decide) rfl ?_
    refine gx_goto (tgt := 10) dX12_straightOf_72 (by decide) ?_
    refine gx_mk (lv' := [some (.inr (some 74)), some (.inl v1), some (.inl v2), some (.inl v3), some (.inl v4), some (.inl (v5 + 1)), none]) [true, true, true, true, true, true, false] rfl ?_
    exact ih v2 v3 v4 (v5 + 1)
def f_X12_straightOf (n : Nat) (v1 : Int32) (M : HMem) : Option Int32 :=
  f_X12_straightOf_L10 n v1 M n 0 0 (-1) 0
set_option maxRecDepth 20000 in
theorem w_X12_straightOf (d : Nat) (hd : 1 ≤ d) (n : Nat) (v1 : Int32) (M : HMem) : GX iX12_straightOf d (eP M) (f_X12_straightOf n v1 M) 0 [some (.inr (some 74)), some (.inl v1), none, none, none, none, none] [] M := by
  rw [f_X12_straightOf]
  refine gx_iconst (x := 0) (by decide) dX12_straightOf_0 ?_
  refine gx_istore_n (lv' := [some (.inr (some 74)), some (.inl v1), some (.inl 0), none, none, none, none]) dX12_straightOf_1 (by decide) rfl ?_
  refine gx_iconst (x := 0) (by decide) dX12_straightOf_2 ?_
  refine gx_istore_n (lv' := [some (.inr (some 74)), some (.inl v1), some (.inl 0), some (.inl 0), none, none, none]) dX12_straightOf_3 (by decide) rfl ?_
  refine gx_iconst (x := (-1)) (by decide) dX12_straightOf_4 ?_
  refine gx_istore (lv' := [some (.inr (some 74)), some (.inl v1), some (.inl 0), some (.inl 0), some (.inl (-1)), none, none]) dX12_straightOf_5 (by decide) rfl ?_
  refine gx_iconst (x := 0) (by decide) dX12_straightOf_7 ?_
  refine gx_istore (lv' := [some (.inr (some 74)), some (.inl v1), some (.inl 0), some (.inl 0), some (.inl (-1)), some (.inl 0), none]) dX12_straightOf_8 (by decide) rfl ?_
  refine gx_mk (lv' := [some (.inr (some 74)), some (.inl v1), some (.inl 0), some (.inl 0), some (.inl (-1)), some (.inl 0), none]) [true, true, true, true, true, true, false] rfl ?_
  exact w_X12_straightOf_L10 d hd n M v1 n 0 0 (-1) 0
theorem c_X12_straightOf (d : Nat) (hd : 1 ≤ d) (n : Nat) (v1 : Int32) (M : HMem) : MX iX12_straightOf d [.inr (some 74), .inl v1] M (eP M) (f_X12_straightOf n v1 M) := mx_of (by decide +kernel) (Nat.le_of_ble_eq_true rfl) rfl (w_X12_straightOf d hd n v1 M)
-- X12_repeatsBy
def f_X12_repeatsBy_L17 (n : Nat) (r2 : Int32 → Option Int32) (v1 : Int32) (v2 : Int32) (M : HMem) : Nat → Int32 → Int32 → Option Int32
  | 0, _, _ => none
  | k + 1, v3, v4 =>
    if hib v1 8 then
    if (M 78 (Int32.toNatClampNeg v1)) ≤ v4 then
      (if v3 = 0 then
        (r2 (v2 + 1))
      else
        (some v2))
    else
      (if hib ((96 * v1) + v4) 768 then
      if hib (((96 * v1) + v4) - v2) 768 then
      if (M 80 (Int32.toNatClampNeg ((96 * v1) + v4))) = (M 80 (Int32.toNatClampNeg (((96 * v1) + v4) - v2))) then
        (f_X12_repeatsBy_L17 n r2 v1 v2 M k v3 (v4 + 1))
      else
        (f_X12_repeatsBy_L17 n r2 v1 v2 M k 0 (v4 + 1))
      else none
      else none)
    else none
set_option maxRecDepth 20000 in
theorem w_X12_repeatsBy_L17 (d : Nat) (hd : 0 ≤ d) (n : Nat) (r2 : Int32 → Option Int32) (M : HMem) (v1 : Int32) (v2 : Int32) (hr2 : ∀ (v2 : Int32), GX iX12_repeatsBy d (eP M) (r2 v2) 2 [some (.inr (some 74)), some (.inl v1), some (.inl v2), none, none] [] M) : ∀ (k : Nat) (v3 : Int32) (v4 : Int32), GX iX12_repeatsBy d (eP M) (f_X12_repeatsBy_L17 n r2 v1 v2 M k v3 v4) 17 [some (.inr (some 74)), some (.inl v1), some (.inl v2), some (.inl v3), some (.inl v4)] [] M := by
  intro k
  induction k with
  | zero => intro v3 v4; exact gx_none
  | succ k ih =>
    intro v3 v4
    rw [f_X12_repeatsBy_L17]
    refine gx_iload dX12_repeatsBy_17 rfl ?_
    refine gx_aload_n dX12_repeatsBy_19 rfl ?_
    refine gx_getR fl_X12_19 sh74 rfl dX12_repeatsBy_20 ?_
    refine gx_iload_n dX12_repeatsBy_23 rfl ?_
    refine gx_iaload sh78 dX12_repeatsBy_24 ?_
    refine gx_icmp_ge (tgt := 65) dX12_repeatsBy_25 (by decide) ?_ ?_
    · refine gx_iload_n dX12_repeatsBy_65 rfl ?_
      refine gx_if_eq (tgt := 71) dX12_repeatsBy_66 (by decide) ?_ ?_
      · refine gx_iinc (y := v2 + 1) (lv' := [some (.inr (some 74)), some (.inl v1), some (.inl (v2 + 1)), some (.inl v3), some (.inl v4)]) dX12_repeatsBy_71 rfl rfl (by decide) rfl ?_
        refine gx_goto (tgt := 2) dX12_repeatsBy_74 (by decide) ?_
        refine gx_mk (lv' := [some (.inr (some 74)), some (.inl v1), some (.inl (v2 + 1)), none, none]) [true, true, true, false, false] rfl ?_
        exact hr2 (v2 + 1)
      refine gx_iload_n dX12_repeatsBy_69 rfl ?_
      exact gx_iret rfl rfl dX12_repeatsBy_70
    refine gx_aload_n dX12_repeatsBy_28 rfl ?_
    refine gx_getR fl_X12_25 sh74 rfl dX12_repeatsBy_29 ?_
    refine gx_bipush (x := 96) (by decide) dX12_repeatsBy_32 ?_
    refine gx_iload_n dX12_repeatsBy_34 rfl ?_
    refine gx_imul dX12_repeatsBy_35 ?_
    refine gx_iload dX12_repeatsBy_36 rfl ?_
    refine gx_iadd dX12_repeatsBy_38 ?_
    refine gx_iaload sh80 dX12_repeatsBy_39 ?_
    refine gx_aload_n dX12_repeatsBy_40 rfl ?_
    refine gx_getR fl_X12_25 sh74 rfl dX12_repeatsBy_41 ?_
    refine gx_bipush (x := 96) (by decide) dX12_repeatsBy_44 ?_
    refine gx_iload_n dX12_repeatsBy_46 rfl ?_
    refine gx_imul dX12_repeatsBy_47 ?_
    refine gx_iload dX12_repeatsBy_48 rfl ?_
    refine gx_iadd dX12_repeatsBy_50 ?_
    refine gx_iload_n dX12_repeatsBy_51 rfl ?_
    refine gx_isub dX12_repeatsBy_52 ?_
    refine gx_iaload sh80 dX12_repeatsBy_53 ?_
    refine gx_icmp_eq (tgt := 59) dX12_repeatsBy_54 (by decide) ?_ ?_
    · refine gx_iinc (y := v4 + 1) (lv' := [some (.inr (some 74)), some (.inl v1), some (.inl v2), some (.inl v3), some (.inl (v4 + 1))]) dX12_repeatsBy_59 rfl rfl (by decide) rfl ?_
      refine gx_goto (tgt := 17) dX12_repeatsBy_62 (by decide) ?_
      refine gx_mk (lv' := [some (.inr (some 74)), some (.inl v1), some (.inl v2), some (.inl v3), some (.inl (v4 + 1))]) [true, true, true, true, true] rfl ?_
      exact ih v3 (v4 + 1)
    refine gx_iconst (x := 0) (by decide) dX12_repeatsBy_57 ?_
    refine gx_istore_n (lv' := [some (.inr (some 74)), some (.inl v1), some (.inl v2), some (.inl 0), some (.inl v4)]) dX12_repeatsBy_58 (by decide) rfl ?_
    refine gx_iinc (y := v4 + 1) (lv' := [some (.inr (some 74)), some (.inl v1), some (.inl v2), some (.inl 0), some (.inl (v4 + 1))]) dX12_repeatsBy_59 rfl rfl (by decide) rfl ?_
    refine gx_goto (tgt := 17) dX12_repeatsBy_62 (by decide) ?_
    refine gx_mk (lv' := [some (.inr (some 74)), some (.inl v1), some (.inl v2), some (.inl 0), some (.inl (v4 + 1))]) [true, true, true, true, true] rfl ?_
    exact ih 0 (v4 + 1)
def f_X12_repeatsBy_L2 (n : Nat) (v1 : Int32) (M : HMem) : Nat → Int32 → Option Int32
  | 0, _ => none
  | k + 1, v2 =>
    if hib v1 8 then
    if (M 78 (Int32.toNatClampNeg v1)) ≤ v2 then
      (if hib v1 8 then
      some (M 78 (Int32.toNatClampNeg v1))
      else none)
    else
      (f_X12_repeatsBy_L17 n (f_X12_repeatsBy_L2 n v1 M k) v1 v2 M n 1 v2)
    else none
set_option maxRecDepth 20000 in
theorem w_X12_repeatsBy_L2 (d : Nat) (hd : 0 ≤ d) (n : Nat) (M : HMem) (v1 : Int32) : ∀ (k : Nat) (v2 : Int32), GX iX12_repeatsBy d (eP M) (f_X12_repeatsBy_L2 n v1 M k v2) 2 [some (.inr (some 74)), some (.inl v1), some (.inl v2), none, none] [] M := by
  intro k
  induction k with
  | zero => intro v2; exact gx_none
  | succ k ih =>
    intro v2
    rw [f_X12_repeatsBy_L2]
    refine gx_iload_n dX12_repeatsBy_2 rfl ?_
    refine gx_aload_n dX12_repeatsBy_3 rfl ?_
    refine gx_getR fl_X12_19 sh74 rfl dX12_repeatsBy_4 ?_
    refine gx_iload_n dX12_repeatsBy_7 rfl ?_
    refine gx_iaload sh78 dX12_repeatsBy_8 ?_
    refine gx_icmp_ge (tgt := 77) dX12_repeatsBy_9 (by decide) ?_ ?_
    · refine gx_aload_n dX12_repeatsBy_77 rfl ?_
      refine gx_getR fl_X12_19 sh74 rfl dX12_repeatsBy_78 ?_
      refine gx_iload_n dX12_repeatsBy_81 rfl ?_
      refine gx_iaload sh78 dX12_repeatsBy_82 ?_
      exact gx_iret rfl rfl dX12_repeatsBy_83
    refine gx_iconst (x := 1) (by decide) dX12_repeatsBy_12 ?_
    refine gx_istore_n (lv' := [some (.inr (some 74)), some (.inl v1), some (.inl v2), some (.inl 1), none]) dX12_repeatsBy_13 (by decide) rfl ?_
    refine gx_iload_n dX12_repeatsBy_14 rfl ?_
    refine gx_istore (lv' := [some (.inr (some 74)), some (.inl v1), some (.inl v2), some (.inl 1), some (.inl v2)]) dX12_repeatsBy_15 (by decide) rfl ?_
    refine gx_mk (lv' := [some (.inr (some 74)), some (.inl v1), some (.inl v2), some (.inl 1), some (.inl v2)]) [true, true, true, true, true] rfl ?_
    exact w_X12_repeatsBy_L17 d hd n (f_X12_repeatsBy_L2 n v1 M k) M v1 v2 ih n 1 v2
def f_X12_repeatsBy (n : Nat) (v1 : Int32) (M : HMem) : Option Int32 :=
  f_X12_repeatsBy_L2 n v1 M n 1
set_option maxRecDepth 20000 in
theorem w_X12_repeatsBy (d : Nat) (hd : 0 ≤ d) (n : Nat) (v1 : Int32) (M : HMem) : GX iX12_repeatsBy d (eP M) (f_X12_repeatsBy n v1 M) 0 [some (.inr (some 74)), some (.inl v1), none, none, none] [] M := by
  rw [f_X12_repeatsBy]
  refine gx_iconst (x := 1) (by decide) dX12_repeatsBy_0 ?_
  refine gx_istore_n (lv' := [some (.inr (some 74)), some (.inl v1), some (.inl 1), none, none]) dX12_repeatsBy_1 (by decide) rfl ?_
  refine gx_mk (lv' := [some (.inr (some 74)), some (.inl v1), some (.inl 1), none, none]) [true, true, true, false, false] rfl ?_
  exact w_X12_repeatsBy_L2 d hd n M v1 n 1
theorem c_X12_repeatsBy (d : Nat) (hd : 0 ≤ d) (n : Nat) (v1 : Int32) (M : HMem) : MX iX12_repeatsBy d [.inr (some 74), .inl v1] M (eP M) (f_X12_repeatsBy n v1 M) := mx_of (by decide +kernel) (Nat.le_of_ble_eq_true rfl) rfl (w_X12_repeatsBy d hd n v1 M)
-- X12_placesOf
def f_X12_placesOf_L4 (n : Nat) (v1 : Int32) (M : HMem) : Nat → Int32 → Int32 → Option Int32
  | 0, _, _ => none
  | k + 1, v2, v3 =>
    if 192 ≤ v3 then
      (some v2)
    else
      (hb1 (f_X12_isOn n v1 v3 M) (fun x101 =>
      if x101 = 0 then
        (f_X12_placesOf_L4 n v1 M k v2 (v3 + 1))
      else
        (f_X12_placesOf_L4 n v1 M k (v2 + 1) (v3 + 1))))
set_option maxRecDepth 20000 in
theorem w_X12_placesOf_L4 (d : Nat) (hd : 1 ≤ d) (n : Nat) (M : HMem) (v1 : Int32) : ∀ (k : Nat) (v2 : Int32) (v3 : Int32), GX iX12_placesOf d (eP M) (f_X12_placesOf_L4 n v1 M k v2 v3) 4 [some (.inr (some 74)), some (.inl v1), some (.inl v2), some (.inl v3)] [] M := by
  intro k
  induction k with
  | zero => intro v2 v3; exact gx_none
  | succ k ih =>
    intro v2 v3
    rw [f_X12_placesOf_L4]
    refine gx_iload_n dX12_placesOf_4 rfl ?_
    refine gx_sipush (x := 192) (by decide) dX12_placesOf_5 ?_
    refine gx_icmp_ge (tgt := 30) dX12_placesOf_8 (by decide) ?_ ?_
    · refine gx_iload_n dX12_placesOf_30 rfl ?_
      exact gx_iret rfl rfl dX12_placesOf_31
    refine gx_aload_n dX12_placesOf_11 rfl ?_
    refine gx_iload_n dX12_placesOf_12 rfl ?_
    refine gx_iload_n dX12_placesOf_13 rfl ?_
    refine gx_cV_ip (av := [.inl v1, .inl v3]) (st := []) ml_X12_362 (by omega) sh74 (c_X12_isOn (d - 1) (by omega) n v1 v3 M) rfl rfl (Nat.le_of_ble_eq_true rfl) dX12_placesOf_14 (fun x101 => ?_)
    refine gx_if_eq (tgt := 24) dX12_placesOf_17 (by decide) ?_ ?_
    · refine gx_iinc (y := v3 + 1) (lv' := [some (.inr (some 74)), some (.inl v1), some (.inl v2), some (.inl (v3 + 1))]) dX12_placesOf_24 rfl rfl (by decide) rfl ?_
      refine gx_goto (tgt := 4) dX12_placesOf_27 (by decide) ?_
      refine gx_mk (lv' := [some (.inr (some 74)), some (.inl v1), some (.inl v2), some (.inl (v3 + 1))]) [true, true, true, true] rfl ?_
      exact ih v2 (v3 + 1)
    refine gx_iload_n dX12_placesOf_20 rfl ?_
    refine gx_iconst (x := 1) (by decide) dX12_placesOf_21 ?_
    refine gx_iadd dX12_placesOf_22 ?_
    refine gx_istore_n (lv' := [some (.inr (some 74)), some (.inl v1), some (.inl (v2 + 1)), some (.inl v3)]) dX12_placesOf_23 (by decide) rfl ?_
    refine gx_iinc (y := v3 + 1) (lv' := [some (.inr (some 74)), some (.inl v1), some (.inl (v2 + 1)), some (.inl (v3 + 1))]) dX12_placesOf_24 rfl rfl (by decide) rfl ?_
    refine gx_goto (tgt := 4) dX12_placesOf_27 (by decide) ?_
    refine gx_mk (lv' := [some (.inr (some 74)), some (.inl v1), some (.inl (v2 + 1)), some (.inl (v3 + 1))]) [true, true, true, true] rfl ?_
    exact ih (v2 + 1) (v3 + 1)
def f_X12_placesOf (n : Nat) (v1 : Int32) (M : HMem) : Option Int32 :=
  f_X12_placesOf_L4 n v1 M n 0 0
set_option maxRecDepth 20000 in
theorem w_X12_placesOf (d : Nat) (hd : 1 ≤ d) (n : Nat) (v1 : Int32) (M : HMem) : GX iX12_placesOf d (eP M) (f_X12_placesOf n v1 M) 0 [some (.inr (some 74)), some (.inl v1), none, none] [] M := by
  rw [f_X12_placesOf]
  refine gx_iconst (x := 0) (by decide) dX12_placesOf_0 ?_
  refine gx_istore_n (lv' := [some (.inr (some 74)), some (.inl v1), some (.inl 0), none]) dX12_placesOf_1 (by decide) rfl ?_
  refine gx_iconst (x := 0) (by decide) dX12_placesOf_2 ?_
  refine gx_istore_n (lv' := [some (.inr (some 74)), some (.inl v1), some (.inl 0), some (.inl 0)]) dX12_placesOf_3 (by decide) rfl ?_
  refine gx_mk (lv' := [some (.inr (some 74)), some (.inl v1), some (.inl 0), some (.inl 0)]) [true, true, true, true] rfl ?_
  exact w_X12_placesOf_L4 d hd n M v1 n 0 0
theorem c_X12_placesOf (d : Nat) (hd : 1 ≤ d) (n : Nat) (v1 : Int32) (M : HMem) : MX iX12_placesOf d [.inr (some 74), .inl v1] M (eP M) (f_X12_placesOf n v1 M) := mx_of (by decide +kernel) (Nat.le_of_ble_eq_true rfl) rfl (w_X12_placesOf d hd n v1 M)
-- X12_lineIs
def f_X12_lineIs (n : Nat) (v1 : Int32) (v2 : Int32) (M : HMem) : Option Int32 :=
  hb1 (f_X12_hasLine v1 M) (fun x101 =>
  if x101 = 0 then
    (some (-1))
  else
    (if v2 = 0 then
      (if hib v1 8 then
      some (M 78 (Int32.toNatClampNeg v1))
      else none)
    else if v2 = 1 then
      (hb1 (f_X12_turnsOf n v1 M) (fun x102 =>
      some x102))
    else if v2 = 2 then
      (hb1 (f_X12_straightOf n v1 M) (fun x103 =>
      some x103))
    else if v2 = 3 then
      (hb1 (f_X12_repeatsBy n v1 M) (fun x104 =>
      some x104))
    else if v2 = 4 then
      (if hib v1 8 then
      some (M 79 (Int32.toNatClampNeg v1))
      else none)
    else if v2 = 5 then
      (hb1 (f_X12_placesOf n v1 M) (fun x105 =>
      some x105))
    else if v2 = 6 then
      (if hib v1 8 then
      if hib v1 8 then
      some ((M 79 (Int32.toNatClampNeg v1)) + (M 78 (Int32.toNatClampNeg v1)))
      else none
      else none)
    else if v2 = 7 then
      (if hib v1 8 then
      if hib ((97 * v1) + (M 78 (Int32.toNatClampNeg v1))) 776 then
      some (M 81 (Int32.toNatClampNeg ((97 * v1) + (M 78 (Int32.toNatClampNeg v1)))))
      else none
      else none)
    else (some (-1))))
set_option maxRecDepth 20000 in
theorem w_X12_lineIs (d : Nat) (hd : 2 ≤ d) (n : Nat) (v1 : Int32) (v2 : Int32) (M : HMem) : GX iX12_lineIs d (eP M) (f_X12_lineIs n v1 v2 M) 0 [some (.inr (some 74)), some (.inl v1), some (.inl v2)] [] M := by
  rw [f_X12_lineIs]
  refine gx_aload_n dX12_lineIs_0 rfl ?_
  refine gx_iload_n dX12_lineIs_1 rfl ?_
  refine gx_cV_ip (av := [.inl v1]) (st := []) ml_X12_122 (by omega) sh74 (c_X12_hasLine (d - 1) (by omega) v1 M) rfl rfl (Nat.le_of_ble_eq_true rfl) dX12_lineIs_2 (fun x101 => ?_)
  refine gx_if_ne (tgt := 10) dX12_lineIs_5 (by decide) ?_ ?_
  · refine gx_iload_n dX12_lineIs_10 rfl ?_
    refine gx_swT (k := 0) (kI := 0) (off := 45) (tgt := 56) (by decide) dX12_lineIs_11 (by decide) (by decide) rfl (by decide) ?_ (fun q11_0 => ?_)
    · refine gx_aload_n dX12_lineIs_56 rfl ?_
      refine gx_getR fl_X12_19 sh74 rfl dX12_lineIs_57 ?_
      refine gx_iload_n dX12_lineIs_60 rfl ?_
      refine gx_iaload sh78 dX12_lineIs_61 ?_
      exact gx_iret rfl rfl dX12_lineIs_62
    refine gx_swT (k := 1) (kI := 1) (off := 52) (tgt := 63) (by decide) dX12_lineIs_11 (by decide) (by decide) rfl (by decide) ?_ (fun q11_1 => ?_)
    · refine gx_aload_n dX12_lineIs_63 rfl ?_
      refine gx_iload_n dX12_lineIs_64 rfl ?_
      refine gx_cV_ip (av := [.inl v1]) (st := []) ml_X12_393 (by omega) sh74 (c_X12_turnsOf (d - 1) (by omega) n v1 M) rfl rfl (Nat.le_of_ble_eq_true rfl) dX12_lineIs_65 (fun x102 => ?_)
      exact gx_iret rfl rfl dX12_lineIs_68
    refine gx_swT (k := 2) (kI := 2) (off := 58) (tgt := 69) (by decide) dX12_lineIs_11 (by decide) (by decide) rfl (by decide) ?_ (fun q11_2 => ?_)
    · refine gx_aload_n dX12_lineIs_69 rfl ?_
      refine gx_iload_n dX12_lineIs_70 rfl ?_
      refine gx_cV_ip (av := [.inl v1]) (st := []) ml_X12_396 (by omega) sh74 (c_X12_straightOf (d - 1) (by omega) n v1 M) rfl rfl (Nat.le_of_ble_eq_true rfl) dX12_lineIs_71 (fun x103 => ?_)
      exact gx_iret rfl rfl dX12_lineIs_74
    refine gx_swT (k := 3) (kI := 3) (off := 64) (tgt := 75) (by decide) dX12_lineIs_11 (by decide) (by decide) rfl (by decide) ?_ (fun q11_3 => ?_)
    · refine gx_aload_n dX12_lineIs_75 rfl ?_
      refine gx_iload_n dX12_lineIs_76 rfl ?_
      refine gx_cV_ip (av := [.inl v1]) (st := []) ml_X12_399 (by omega) sh74 (c_X12_repeatsBy (d - 1) (by omega) n v1 M) rfl rfl (Nat.le_of_ble_eq_true rfl) dX12_lineIs_77 (fun x104 => ?_)
      exact gx_iret rfl rfl dX12_lineIs_80
    refine gx_swT (k := 4) (kI := 4) (off := 70) (tgt := 81) (by decide) dX12_lineIs_11 (by decide) (by decide) rfl (by decide) ?_ (fun q11_4 => ?_)
    · refine gx_aload_n dX12_lineIs_81 rfl ?_
      refine gx_getR fl_X12_22 sh74 rfl dX12_lineIs_82 ?_
      refine gx_iload_n dX12_lineIs_85 rfl ?_
      refine gx_iaload sh79 dX12_lineIs_86 ?_
      exact gx_iret rfl rfl dX12_lineIs_87
    refine gx_swT (k := 5) (kI := 5) (off := 77) (tgt := 88) (by decide) dX12_lineIs_11 (by decide) (by decide) rfl (by decide) ?_ (fun q11_5 => ?_)
    · refine gx_aload_n dX12_lineIs_88 rfl ?_
      refine gx_iload_n dX12_lineIs_89 rfl ?_
      refine gx_cV_ip (av := [.inl v1]) (st := []) ml_X12_402 (by omega) sh74 (c_X12_placesOf (d - 1) (by omega) n v1 M) rfl rfl (Nat.le_of_ble_eq_true rfl) dX12_lineIs_90 (fun x105 => ?_)
      exact gx_iret rfl rfl dX12_lineIs_93
    refine gx_swT (k := 6) (kI := 6) (off := 83) (tgt := 94) (by decide) dX12_lineIs_11 (by decide) (by decide) rfl (by decide) ?_ (fun q11_6 => ?_)
    · refine gx_aload_n dX12_lineIs_94 rfl ?_
      refine gx_getR fl_X12_22 sh74 rfl dX12_lineIs_95 ?_
      refine gx_iload_n dX12_lineIs_98 rfl ?_
      refine gx_iaload sh79 dX12_lineIs_99 ?_
      refine gx_aload_n dX12_lineIs_100 rfl ?_
      refine gx_getR fl_X12_19 sh74 rfl dX12_lineIs_101 ?_
      refine gx_iload_n dX12_lineIs_104 rfl ?_
      refine gx_iaload sh78 dX12_lineIs_105 ?_
      refine gx_iadd dX12_lineIs_106 ?_
      exact gx_iret rfl rfl dX12_lineIs_107
    refine gx_swT (k := 7) (kI := 7) (off := 97) (tgt := 108) (by decide) dX12_lineIs_11 (by decide) (by decide) rfl (by decide) ?_ (fun q11_7 => ?_)
    · refine gx_aload_n dX12_lineIs_108 rfl ?_
      refine gx_getR fl_X12_28 sh74 rfl dX12_lineIs_109 ?_
      refine gx_bipush (x := 97) (by decide) dX12_lineIs_112 ?_
      refine gx_iload_n dX12_lineIs_114 rfl ?_
      refine gx_imul dX12_lineIs_115 ?_
      refine gx_aload_n dX12_lineIs_116 rfl ?_
      refine gx_getR fl_X12_19 sh74 rfl dX12_lineIs_117 ?_
      refine gx_iload_n dX12_lineIs_120 rfl ?_
      refine gx_iaload sh78 dX12_lineIs_121 ?_
      refine gx_iadd dX12_lineIs_122 ?_
      refine gx_iaload sh81 dX12_lineIs_123 ?_
      exact gx_iret rfl rfl dX12_lineIs_124
    refine gx_swTd (tgt := 125) dX12_lineIs_11 (by have := lv_neT q11_0 (a := 0) (by decide); have := lv_neT q11_1 (a := 1) (by decide); have := lv_neT q11_2 (a := 2) (by decide); have := lv_neT q11_3 (a := 3) (by decide); have := lv_neT q11_4 (a := 4) (by decide); have := lv_neT q11_5 (a := 5) (by decide); have := lv_neT q11_6 (a := 6) (by decide); have := lv_neT q11_7 (a := 7) (by decide); omega) (by decide) ?_
    refine gx_iconst (x := (-1)) (by decide) dX12_lineIs_125 ?_
    exact gx_iret rfl rfl dX12_lineIs_126
  refine gx_iconst (x := (-1)) (by decide) dX12_lineIs_8 ?_
  exact gx_iret rfl rfl dX12_lineIs_9
theorem c_X12_lineIs (d : Nat) (hd : 2 ≤ d) (n : Nat) (v1 : Int32) (v2 : Int32) (M : HMem) : MX iX12_lineIs d [.inr (some 74), .inl v1, .inl v2] M (eP M) (f_X12_lineIs n v1 v2 M) := mx_of (by decide +kernel) (Nat.le_of_ble_eq_true rfl) rfl (w_X12_lineIs d hd n v1 v2 M)
-- X12_seed
def f_X12_seed (v1 : Int32) (M : HMem) : Option (Int32 × HMem) :=
  if (f_X12_in v1 0 65535) = 0 then
    (some (0, M))
  else
    (some (1, hset M 75 31 v1))
set_option maxRecDepth 20000 in
theorem w_X12_seed (d : Nat) (hd : 1 ≤ d) (v1 : Int32) (M : HMem) : GX iX12_seed d eI (f_X12_seed v1 M) 0 [some (.inr (some 74)), some (.inl v1)] [] M := by
  rw [f_X12_seed]
  refine gx_iload_n dX12_seed_0 rfl ?_
  refine gx_iconst (x := 0) (by decide) dX12_seed_1 ?_
  refine gx_ldcw (x := 65535) mw1773 dX12_seed_2 ?_
  refine gx_cS_it (av := [.inl v1, .inl 0, .inl 65535]) (st := []) ml_X12_118 (by omega) (c_X12_in (d - 1) (by omega) v1 0 65535 M) rfl rfl (Nat.le_of_ble_eq_true rfl) dX12_seed_5 ?_
  refine gx_if_ne (tgt := 13) dX12_seed_8 (by decide) ?_ ?_
  · refine gx_aload_n dX12_seed_13 rfl ?_
    refine gx_getR fl_X12_7 sh74 rfl dX12_seed_14 ?_
    refine gx_bipush (x := 31) (by decide) dX12_seed_17 ?_
    refine gx_iload_n dX12_seed_19 rfl ?_
    refine gx_iastoreL (j := 31) sh75 (by decide) (by decide) dX12_seed_20 ?_
    refine gx_iconst (x := 1) (by decide) dX12_seed_21 ?_
    exact gx_zret rfl (by decide) rfl dX12_seed_22
  refine gx_iconst (x := 0) (by decide) dX12_seed_11 ?_
  exact gx_zret rfl (by decide) rfl dX12_seed_12
theorem c_X12_seed (d : Nat) (hd : 1 ≤ d) (v1 : Int32) (M : HMem) : MX iX12_seed d [.inr (some 74), .inl v1] M eI (f_X12_seed v1 M) := mx_of (by decide +kernel) (Nat.le_of_ble_eq_true rfl) rfl (w_X12_seed d hd v1 M)
-- X12_keep
def f_X12_keep (n : Nat)  (M : HMem) : Option (Int32 × HMem) :=
  hb1 (f_X12_copies n 75 32 77 32 (hset M 74 55 1)) (fun M101 =>
  some (M101 75 30, M101))
set_option maxRecDepth 20000 in
theorem w_X12_keep (d : Nat) (hd : 1 ≤ d) (n : Nat)  (M : HMem) : GX iX12_keep d eI (f_X12_keep n  M) 0 [some (.inr (some 74))] [] M := by
  rw [f_X12_keep]
  refine gx_aload_n dX12_keep_0 rfl ?_
  refine gx_iconst (x := 1) (by decide) dX12_keep_1 ?_
  refine gx_putZ fl_X12_406 fp_X12_55 sh74 rfl (by decide) dX12_keep_2 ?_
  refine gx_aload_n dX12_keep_5 rfl ?_
  refine gx_getR fl_X12_7 sh74 rfl dX12_keep_6 ?_
  refine gx_aload_n dX12_keep_9 rfl ?_
  refine gx_getR fl_X12_16 sh74 rfl dX12_keep_10 ?_
  refine gx_cS_vm (av := [.inr (some 75), .inr (some 77)]) (st := []) ml_X12_346 (by omega) (c_X12_copies (d - 1) (by omega) n 75 32 sh75 77 32 sh77 (hset M 74 55 1)) rfl rfl (Nat.le_of_ble_eq_true rfl) dX12_keep_13 (fun M101 => ?_)
  refine gx_aload_n dX12_keep_16 rfl ?_
  refine gx_getR fl_X12_7 sh74 rfl dX12_keep_17 ?_
  refine gx_bipush (x := 30) (by decide) dX12_keep_20 ?_
  refine gx_ialoadL (j := 30) sh75 (by decide) (by decide) dX12_keep_22 ?_
  exact gx_iret rfl rfl dX12_keep_23
theorem c_X12_keep (d : Nat) (hd : 1 ≤ d) (n : Nat)  (M : HMem) : MX iX12_keep d [.inr (some 74)] M eI (f_X12_keep n  M) := mx_of (by decide +kernel) (Nat.le_of_ble_eq_true rfl) rfl (w_X12_keep d hd n  M)
-- X12_undo
def f_X12_undo (n : Nat)  (M : HMem) : Option (Int32 × HMem) :=
  if (M 74 55) = 0 then
    (some (0, M))
  else
    (hb1 (f_X12_copies n 77 32 75 32 M) (fun M101 =>
    some (1, M101)))
set_option maxRecDepth 20000 in
theorem w_X12_undo (d : Nat) (hd : 1 ≤ d) (n : Nat)  (M : HMem) : GX iX12_undo d eI (f_X12_undo n  M) 0 [some (.inr (some 74))] [] M := by
  rw [f_X12_undo]
  refine gx_aload_n dX12_undo_0 rfl ?_
  refine gx_getI fl_X12_406 sh74 rfl dX12_undo_1 ?_
  refine gx_if_ne (tgt := 9) dX12_undo_4 (by decide) ?_ ?_
  · refine gx_aload_n dX12_undo_9 rfl ?_
    refine gx_getR fl_X12_16 sh74 rfl dX12_undo_10 ?_
    refine gx_aload_n dX12_undo_13 rfl ?_
    refine gx_getR fl_X12_7 sh74 rfl dX12_undo_14 ?_
    refine gx_cS_vm (av := [.inr (some 77), .inr (some 75)]) (st := []) ml_X12_346 (by omega) (c_X12_copies (d - 1) (by omega) n 77 32 sh77 75 32 sh75 M) rfl rfl (Nat.le_of_ble_eq_true rfl) dX12_undo_17 (fun M101 => ?_)
    refine gx_iconst (x := 1) (by decide) dX12_undo_20 ?_
    exact gx_zret rfl (by decide) rfl dX12_undo_21
  refine gx_iconst (x := 0) (by decide) dX12_undo_7 ?_
  exact gx_zret rfl (by decide) rfl dX12_undo_8
theorem c_X12_undo (d : Nat) (hd : 1 ≤ d) (n : Nat)  (M : HMem) : MX iX12_undo d [.inr (some 74)] M eI (f_X12_undo n  M) := mx_of (by decide +kernel) (Nat.le_of_ble_eq_true rfl) rfl (w_X12_undo d hd n  M)
-- X12_check
def f_X12_check_L28 (n : Nat) (v1 : Int32) (M : HMem) : Nat → Int32 → Option (Int32 × HMem)
  | 0, _ => none
  | k + 1, v2 =>
    if v1 ≤ v2 then
      (some ((-1), M))
    else
      (hb1 (f_X12_octet v2 M) (fun x101 =>
      hb1 (f_X12_isHound v2 M) (fun x102 =>
      if x102 = 0 then
        (if x101 = 255 then
          (f_X12_check_L28 n v1 M k (v2 + 1))
        else
          (some (v2, M)))
      else
        (if hib (18 + v2) 32 then
        if x101 = (M 75 (Int32.toNatClampNeg (18 + v2))) then
          (f_X12_check_L28 n v1 M k (v2 + 1))
        else
          (some (v2, M))
        else none))))
set_option maxRecDepth 20000 in
theorem w_X12_check_L28 (d : Nat) (hd : 2 ≤ d) (n : Nat) (M : HMem) (v1 : Int32) : ∀ (k : Nat) (v2 : Int32), GX iX12_check d eI (f_X12_check_L28 n v1 M k v2) 28 [some (.inr (some 74)), some (.inl v1), some (.inl v2)] [] M := by
  intro k
  induction k with
  | zero => intro v2; exact gx_none
  | succ k ih =>
    intro v2
    rw [f_X12_check_L28]
    refine gx_iload_n dX12_check_28 rfl ?_
    refine gx_iload_n dX12_check_29 rfl ?_
    refine gx_icmp_ge (tgt := 72) dX12_check_30 (by decide) ?_ ?_
    · refine gx_iconst (x := (-1)) (by decide) dX12_check_72 ?_
      exact gx_iret rfl rfl dX12_check_73
    refine gx_aload_n dX12_check_33 rfl ?_
    refine gx_iload_n dX12_check_34 rfl ?_
    refine gx_cV_ip (av := [.inl v2]) (st := []) ml_X12_383 (by omega) sh74 (c_X12_octet (d - 1) (by omega) v2 M) rfl rfl (Nat.le_of_ble_eq_true rfl) dX12_check_35 (fun x101 => ?_)
    refine gx_aload_n dX12_check_38 rfl ?_
    refine gx_iload_n dX12_check_39 rfl ?_
    refine gx_cV_ip (av := [.inl v2]) (st := [.inl x101]) ml_X12_286 (by omega) sh74 (c_X12_isHound (d - 1) (by omega) v2 M) rfl rfl (Nat.le_of_ble_eq_true rfl) dX12_check_40 (fun x102 => ?_)
    refine gx_if_eq (tgt := 58) dX12_check_43 (by decide) ?_ ?_
    · refine gx_sipush (x := 255) (by decide) dX12_check_58 ?_
      refine gx_icmp_eq (tgt := 66) dX12_check_61 (by decide) ?_ ?_
      · refine gx_iinc (y := v2 + 1) (lv' := [some (.inr (some 74)), some (.inl v1), some (.inl (v2 + 1))]) dX12_check_66 rfl rfl (by decide) rfl ?_
        refine gx_goto (tgt := 28) dX12_check_69 (by decide) ?_
        refine gx_mk (lv' := [some (.inr (some 74)), some (.inl v1), some (.inl (v2 + 1))]) [true, true, true] rfl ?_
        exact ih (v2 + 1)
      refine gx_iload_n dX12_check_64 rfl ?_
      exact gx_iret rfl rfl dX12_check_65
    refine gx_aload_n dX12_check_46 rfl ?_
    refine gx_getR fl_X12_7 sh74 rfl dX12_check_47 ?_
    refine gx_bipush (x := 18) (by decide) dX12_check_50 ?_
    refine gx_iload_n dX12_check_52 rfl ?_
    refine gx_iadd dX12_check_53 ?_
    refine gx_iaload sh75 dX12_check_54 ?_
    refine gx_goto (tgt := 61) dX12_check_55 (by decide) ?_
    refine gx_icmp_eq (tgt := 66) dX12_check_61 (by decide) ?_ ?_
    · refine gx_iinc (y := v2 + 1) (lv' := [some (.inr (some 74)), some (.inl v1), some (.inl (v2 + 1))]) dX12_check_66 rfl rfl (by decide) rfl ?_
      refine gx_goto (tgt := 28) dX12_check_69 (by decide) ?_
      refine gx_mk (lv' := [some (.inr (some 74)), some (.inl v1), some (.inl (v2 + 1))]) [true, true, true] rfl ?_
      exact ih (v2 + 1)
    refine gx_iload_n dX12_check_64 rfl ?_
    exact gx_iret rfl rfl dX12_check_65
def f_X12_check (n : Nat) (v1 : Int32) (M : HMem) : Option (Int32 × HMem) :=
  if (f_X12_in v1 0 6) = 0 then
    (some ((-2), M))
  else
    (if v1 ≤ (M 74 12) then
      (f_X12_check_L28 n v1 (hset M 74 12 0) n 0)
    else
      (some ((-2), M)))
set_option maxRecDepth 20000 in
theorem w_X12_check (d : Nat) (hd : 2 ≤ d) (n : Nat) (v1 : Int32) (M : HMem) : GX iX12_check d eI (f_X12_check n v1 M) 0 [some (.inr (some 74)), some (.inl v1), none] [] M := by
  rw [f_X12_check]
  refine gx_iload_n dX12_check_0 rfl ?_
  refine gx_iconst (x := 0) (by decide) dX12_check_1 ?_
  refine gx_bipush (x := 6) (by decide) dX12_check_2 ?_
  refine gx_cS_it (av := [.inl v1, .inl 0, .inl 6]) (st := []) ml_X12_118 (by omega) (c_X12_in (d - 1) (by omega) v1 0 6 M) rfl rfl (Nat.le_of_ble_eq_true rfl) dX12_check_4 ?_
  refine gx_if_eq (tgt := 18) dX12_check_7 (by decide) ?_ ?_
  · refine gx_bipush (x := (-2)) (by decide) dX12_check_18 ?_
    exact gx_iret rfl rfl dX12_check_20
  refine gx_iload_n dX12_check_10 rfl ?_
  refine gx_aload_n dX12_check_11 rfl ?_
  refine gx_getI fl_X12_130 sh74 rfl dX12_check_12 ?_
  refine gx_icmp_le (tgt := 21) dX12_check_15 (by decide) ?_ ?_
  · refine gx_aload_n dX12_check_21 rfl ?_
    refine gx_iconst (x := 0) (by decide) dX12_check_22 ?_
    refine gx_putI fl_X12_130 fp_X12_12 sh74 rfl dX12_check_23 ?_
    refine gx_iconst (x := 0) (by decide) dX12_check_26 ?_
    refine gx_istore_n (lv' := [some (.inr (some 74)), some (.inl v1), some (.inl 0)]) dX12_check_27 (by decide) rfl ?_
    refine gx_mk (lv' := [some (.inr (some 74)), some (.inl v1), some (.inl 0)]) [true, true, true] rfl ?_
    exact w_X12_check_L28 d hd n (hset M 74 12 0) v1 n 0
  refine gx_bipush (x := (-2)) (by decide) dX12_check_18 ?_
  exact gx_iret rfl rfl dX12_check_20
theorem c_X12_check (d : Nat) (hd : 2 ≤ d) (n : Nat) (v1 : Int32) (M : HMem) : MX iX12_check d [.inr (some 74), .inl v1] M eI (f_X12_check n v1 M) := mx_of (by decide +kernel) (Nat.le_of_ble_eq_true rfl) rfl (w_X12_check d hd n v1 M)
-- X12_count
def f_X12_count_L86 (n : Nat)  (M : HMem) : Nat → Int32 → Int32 → Option Int32
  | 0, _, _ => none
  | k + 1, v2, v3 =>
    if 8 ≤ v3 then
      (some v2)
    else
      (hb1 (f_X12_hasLine v3 M) (fun x101 =>
      if x101 = 0 then
        (f_X12_count_L86 n M k v2 (v3 + 1))
      else
        (f_X12_count_L86 n M k (v2 ||| (1 <<< (v3 &&& 31))) (v3 + 1))))
set_option maxRecDepth 20000 in
theorem w_X12_count_L86 (d : Nat) (hd : 3 ≤ d) (n : Nat) (M : HMem)  : ∀ (k : Nat) (v2 : Int32) (v3 : Int32), GX iX12_count d (eP M) (f_X12_count_L86 n M k v2 v3) 86 [some (.inr (some 74)), none, some (.inl v2), some (.inl v3)] [] M := by
  intro k
  induction k with
  | zero => intro v2 v3; exact gx_none
  | succ k ih =>
    intro v2 v3
    rw [f_X12_count_L86]
    refine gx_iload_n dX12_count_86 rfl ?_
    refine gx_bipush (x := 8) (by decide) dX12_count_87 ?_
    refine gx_icmp_ge (tgt := 112) dX12_count_89 (by decide) ?_ ?_
    · refine gx_iload_n dX12_count_112 rfl ?_
      exact gx_iret rfl rfl dX12_count_113
    refine gx_aload_n dX12_count_92 rfl ?_
    refine gx_iload_n dX12_count_93 rfl ?_
    refine gx_cV_ip (av := [.inl v3]) (st := []) ml_X12_122 (by omega) sh74 (c_X12_hasLine (d - 1) (by omega) v3 M) rfl rfl (Nat.le_of_ble_eq_true rfl) dX12_count_94 (fun x101 => ?_)
    refine gx_if_eq (tgt := 106) dX12_count_97 (by decide) ?_ ?_
    · refine gx_iinc (y := v3 + 1) (lv' := [some (.inr (some 74)), none, some (.inl v2), some (.inl (v3 + 1))]) dX12_count_106 rfl rfl (by decide) rfl ?_
      refine gx_goto (tgt := 86) dX12_count_109 (by decide) ?_
      refine gx_mk (lv' := [some (.inr (some 74)), none, some (.inl v2), some (.inl (v3 + 1))]) [true, false, true, true] rfl ?_
      exact ih v2 (v3 + 1)
    refine gx_iload_n dX12_count_100 rfl ?_
    refine gx_iconst (x := 1) (by decide) dX12_count_101 ?_
    refine gx_iload_n dX12_count_102 rfl ?_
    refine gx_ishl dX12_count_103 ?_
    refine gx_ior dX12_count_104 ?_
    refine gx_istore_n (lv' := [some (.inr (some 74)), none, some (.inl (v2 ||| (1 <<< (v3 &&& 31)))), some (.inl v3)]) dX12_count_105 (by decide) rfl ?_
    refine gx_iinc (y := v3 + 1) (lv' := [some (.inr (some 74)), none, some (.inl (v2 ||| (1 <<< (v3 &&& 31)))), some (.inl (v3 + 1))]) dX12_count_106 rfl rfl (by decide) rfl ?_
    refine gx_goto (tgt := 86) dX12_count_109 (by decide) ?_
    refine gx_mk (lv' := [some (.inr (some 74)), none, some (.inl (v2 ||| (1 <<< (v3 &&& 31)))), some (.inl (v3 + 1))]) [true, false, true, true] rfl ?_
    exact ih (v2 ||| (1 <<< (v3 &&& 31))) (v3 + 1)
def f_X12_count (n : Nat) (v1 : Int32) (M : HMem) : Option Int32 :=
  if v1 = 0 then
    (some (M 75 30))
  else if v1 = 1 then
    (hb1 (f_X12_faring n 0 M) (fun x101 =>
    hb1 (f_X12_faring n 1 M) (fun x102 =>
    hb1 (f_X12_faring n 2 M) (fun x103 =>
    some ((x101 ||| x102) ||| x103)))))
  else if v1 = 2 then
    (hb1 (f_X12_faring n 0 M) (fun x104 =>
    some x104))
  else if v1 = 3 then
    (f_X12_count_L86 n M n 0 0)
  else if v1 = 4 then
    (some (M 74 9))
  else if v1 = 5 then
    (some (M 74 10))
  else if v1 = 6 then
    (some (M 74 21))
  else if v1 = 7 then
    (some (M 74 12))
  else if v1 = 8 then
    (some (M 75 31))
  else (some (-1))
set_option maxRecDepth 20000 in
theorem w_X12_count (d : Nat) (hd : 3 ≤ d) (n : Nat) (v1 : Int32) (M : HMem) : GX iX12_count d (eP M) (f_X12_count n v1 M) 0 [some (.inr (some 74)), some (.inl v1), none, none] [] M := by
  rw [f_X12_count]
  refine gx_iconst (x := 0) (by decide) dX12_count_0 ?_
  refine gx_istore_n (lv' := [some (.inr (some 74)), some (.inl v1), some (.inl 0), none]) dX12_count_1 (by decide) rfl ?_
  refine gx_iload_n dX12_count_2 rfl ?_
  refine gx_swT (k := 0) (kI := 0) (off := 49) (tgt := 52) (by decide) dX12_count_3 (by decide) (by decide) rfl (by decide) ?_ (fun q3_0 => ?_)
  · refine gx_aload_n dX12_count_52 rfl ?_
    refine gx_getR fl_X12_7 sh74 rfl dX12_count_53 ?_
    refine gx_bipush (x := 30) (by decide) dX12_count_56 ?_
    refine gx_ialoadL (j := 30) sh75 (by decide) (by decide) dX12_count_58 ?_
    exact gx_iret rfl rfl dX12_count_59
  refine gx_swT (k := 1) (kI := 1) (off := 57) (tgt := 60) (by decide) dX12_count_3 (by decide) (by decide) rfl (by decide) ?_ (fun q3_1 => ?_)
  · refine gx_aload_n dX12_count_60 rfl ?_
    refine gx_iconst (x := 0) (by decide) dX12_count_61 ?_
    refine gx_cV_ip (av := [.inl 0]) (st := []) ml_X12_340 (by omega) sh74 (c_X12_faring (d - 1) (by omega) n 0 M) rfl rfl (Nat.le_of_ble_eq_true rfl) dX12_count_62 (fun x101 => ?_)
    refine gx_aload_n dX12_count_65 rfl ?_
    refine gx_iconst (x := 1) (by decide) dX12_count_66 ?_
    refine gx_cV_ip (av := [.inl 1]) (st := [.inl x101]) ml_X12_340 (by omega) sh74 (c_X12_faring (d - 1) (by omega) n 1 M) rfl rfl (Nat.le_of_ble_eq_true rfl) dX12_count_67 (fun x102 => ?_)
    refine gx_ior dX12_count_70 ?_
    refine gx_aload_n dX12_count_71 rfl ?_
    refine gx_iconst (x := 2) (by decide) dX12_count_72 ?_
    refine gx_cV_ip (av := [.inl 2]) (st := [.inl (x101 ||| x102)]) ml_X12_340 (by omega) sh74 (c_X12_faring (d - 1) (by omega) n 2 M) rfl rfl (Nat.le_of_ble_eq_true rfl) dX12_count_73 (fun x103 => ?_)
    refine gx_ior dX12_count_76 ?_
    exact gx_iret rfl rfl dX12_count_77
  refine gx_swT (k := 2) (kI := 2) (off := 75) (tgt := 78) (by decide) dX12_count_3 (by decide) (by decide) rfl (by decide) ?_ (fun q3_2 => ?_)
  · refine gx_aload_n dX12_count_78 rfl ?_
    refine gx_iconst (x := 0) (by decide) dX12_count_79 ?_
    refine gx_cV_ip (av := [.inl 0]) (st := []) ml_X12_340 (by omega) sh74 (c_X12_faring (d - 1) (by omega) n 0 M) rfl rfl (Nat.le_of_ble_eq_true rfl) dX12_count_80 (fun x104 => ?_)
    exact gx_iret rfl rfl dX12_count_83
  refine gx_swT (k := 3) (kI := 3) (off := 81) (tgt := 84) (by decide) dX12_count_3 (by decide) (by decide) rfl (by decide) ?_ (fun q3_3 => ?_)
  · refine gx_iconst (x := 0) (by decide) dX12_count_84 ?_
    refine gx_istore_n (lv' := [some (.inr (some 74)), some (.inl v1), some (.inl 0), some (.inl 0)]) dX12_count_85 (by decide) rfl ?_
    refine gx_mk (lv' := [some (.inr (some 74)), none, some (.inl 0), some (.inl 0)]) [true, false, true, true] rfl ?_
    exact w_X12_count_L86 d hd n M  n 0 0
  refine gx_swT (k := 4) (kI := 4) (off := 111) (tgt := 114) (by decide) dX12_count_3 (by decide) (by decide) rfl (by decide) ?_ (fun q3_4 => ?_)
  · refine gx_aload_n dX12_count_114 rfl ?_
    refine gx_getI fl_X12_114 sh74 rfl dX12_count_115 ?_
    exact gx_iret rfl rfl dX12_count_118
  refine gx_swT (k := 5) (kI := 5) (off := 116) (tgt := 119) (by decide) dX12_count_3 (by decide) (by decide) rfl (by decide) ?_ (fun q3_5 => ?_)
  · refine gx_aload_n dX12_count_119 rfl ?_
    refine gx_getI fl_X12_280 sh74 rfl dX12_count_120 ?_
    exact gx_iret rfl rfl dX12_count_123
  refine gx_swT (k := 6) (kI := 6) (off := 121) (tgt := 124) (by decide) dX12_count_3 (by decide) (by decide) rfl (by decide) ?_ (fun q3_6 => ?_)
  · refine gx_aload_n dX12_count_124 rfl ?_
    refine gx_getI fl_X12_230 sh74 rfl dX12_count_125 ?_
    exact gx_iret rfl rfl dX12_count_128
  refine gx_swT (k := 7) (kI := 7) (off := 126) (tgt := 129) (by decide) dX12_count_3 (by decide) (by decide) rfl (by decide) ?_ (fun q3_7 => ?_)
  · refine gx_aload_n dX12_count_129 rfl ?_
    refine gx_getI fl_X12_130 sh74 rfl dX12_count_130 ?_
    exact gx_iret rfl rfl dX12_count_133
  refine gx_swT (k := 8) (kI := 8) (off := 131) (tgt := 134) (by decide) dX12_count_3 (by decide) (by decide) rfl (by decide) ?_ (fun q3_8 => ?_)
  · refine gx_aload_n dX12_count_134 rfl ?_
    refine gx_getR fl_X12_7 sh74 rfl dX12_count_135 ?_
    refine gx_bipush (x := 31) (by decide) dX12_count_138 ?_
    refine gx_ialoadL (j := 31) sh75 (by decide) (by decide) dX12_count_140 ?_
    exact gx_iret rfl rfl dX12_count_141
  refine gx_swTd (tgt := 142) dX12_count_3 (by have := lv_neT q3_0 (a := 0) (by decide); have := lv_neT q3_1 (a := 1) (by decide); have := lv_neT q3_2 (a := 2) (by decide); have := lv_neT q3_3 (a := 3) (by decide); have := lv_neT q3_4 (a := 4) (by decide); have := lv_neT q3_5 (a := 5) (by decide); have := lv_neT q3_6 (a := 6) (by decide); have := lv_neT q3_7 (a := 7) (by decide); have := lv_neT q3_8 (a := 8) (by decide); omega) (by decide) ?_
  refine gx_iconst (x := (-1)) (by decide) dX12_count_142 ?_
  exact gx_iret rfl rfl dX12_count_143
theorem c_X12_count (d : Nat) (hd : 3 ≤ d) (n : Nat) (v1 : Int32) (M : HMem) : MX iX12_count d [.inr (some 74), .inl v1] M (eP M) (f_X12_count n v1 M) := mx_of (by decide +kernel) (Nat.le_of_ble_eq_true rfl) rfl (w_X12_count d hd n v1 M)

-- X12_count
def f_X12_count_L86 (n : Nat)  (M : HMem) : Nat → Int32 → Int32 → Option Int32
  | 0, _, _ => none
  | k + 1, v2, v3 =>
    if 8 ≤ v3 then
      (some v2)
    else
      (hb1 (f_X12_hasLine v3 M) (fun x101 =>
      if x101 = 0 then
        (f_X12_count_L86 n M k v2 (v3 + 1))
      else
        (f_X12_count_L86 n M k (v2 ||| (1 <<< (v3 &&& 31))) (v3 + 1))))
set_option maxRecDepth 20000 in
theorem w_X12_count_L86 (d : Nat) (hd : 3 ≤ d) (n : Nat) (M : HMem)  : ∀ (k : Nat) (v2 : Int32) (v3 : Int32), GX iX12_count d (eP M) (f_X12_count_L86 n M k v2 v3) 86 [some (.inr (some 74)), none, some (.inl v2), some (.inl v3)] [] M := by
  intro k
  induction k with
  | zero => intro v2 v3; exact gx_none
  | succ k ih =>
    intro v2 v3
    rw [f_X12_count_L86]
    refine gx_iload_n dX12_count_86 rfl ?_
    refine gx_bipush (x := 8) (by decide) dX12_count_87 ?_
    refine gx_icmp_ge (tgt := 112) dX12_count_89 (by decide) ?_ ?_
    · refine gx_iload_n dX12_count_112 rfl ?_
      exact gx_iret rfl rfl dX12_count_113
    refine gx_aload_n dX12_count_92 rfl ?_
    refine gx_iload_n dX12_count_93 rfl ?_
    refine gx_cV_ip (av := [.inl v3]) (st := []) ml_X12_122 (by omega) sh74 (c_X12_hasLine (d - 1) (by omega) v3 M) rfl rfl (Nat.le_of_ble_eq_true rfl) dX12_count_94 (fun x101 => ?_)
    refine gx_if_eq (tgt := 106) dX12_count_97 (by decide) ?_ ?_
    · refine gx_iinc (y := v3 + 1) (lv' := [some (.inr (some 74)), none, some (.inl v2), some (.inl (v3 + 1))]) dX12_count_106 rfl rfl (by decide) rfl ?_
      refine gx_goto (tgt := 86) dX12_count_109 (by decide) ?_
      refine gx_mk (lv' := [some (.inr (some 74)), none, some (.inl v2), some (.inl (v3 + 1))]) [true, false, true, true] rfl ?_
      exact ih v2 (v3 + 1)
    refine gx_iload_n dX12_count_100 rfl ?_
    refine gx_iconst (x := 1) (by decide) dX12_count_101 ?_
    refine gx_iload_n dX12_count_102 rfl ?_
    refine gx_ishl dX12_count_103 ?_
    refine gx_ior dX12_count_104 ?_
    refine gx_istore_n (lv' := [some (.inr (some 74)), none, some (.inl (v2 ||| (1 <<< (v3 &&& 31)))), some (.inl v3)]) dX12_count_105 (by decide) rfl ?_
    refine gx_iinc (y := v3 + 1) (lv' := [some (.inr (some 74)), none, some (.inl (v2 ||| (1 <<< (v3 &&& 31)))), some (.inl (v3 + 1))]) dX12_count_106 rfl rfl (by decide) rfl ?_
    refine gx_goto (tgt := 86) dX12_count_109 (by decide) ?_
    refine gx_mk (lv' := [some (.inr (some 74)), none, some (.inl (v2 ||| (1 <<< (v3 &&& 31)))), some (.inl (v3 + 1))]) [true, false, true, true] rfl ?_
    exact ih (v2 ||| (1 <<< (v3 &&& 31))) (v3 + 1)
def f_X12_count (n : Nat) (v1 : Int32) (M : HMem) : Option Int32 :=
  if v1 = 0 then
    (some (M 75 30))
  else if v1 = 1 then
    (hb1 (f_X12_faring n 0 M) (fun x101 =>
    hb1 (f_X12_faring n 1 M) (fun x102 =>
    hb1 (f_X12_faring n 2 M) (fun x103 =>
    some ((x101 ||| x102) ||| x103)))))
  else if v1 = 2 then
    (hb1 (f_X12_faring n 0 M) (fun x104 =>
    some x104))
  else if v1 = 3 then
    (f_X12_count_L86 n M n 0 0)
  else if v1 = 4 then
    (some (M 74 9))
  else if v1 = 5 then
    (some (M 74 10))
  else if v1 = 6 then
    (some (M 74 21))
  else if v1 = 7 then
    (some (M 74 12))
  else if v1 = 8 then
    (some (M 75 31))
  else (some (-1))
set_option maxRecDepth 20000 in
theorem w_X12_count (d : Nat) (hd : 3 ≤ d) (n : Nat) (v1 : Int32) (M : HMem) : GX iX12_count d (eP M) (f_X12_count n v1 M) 0 [some (.inr (some 74)), some (.inl v1), none, none] [] M := by
  rw [f_X12_count]
  refine gx_iconst (x := 0) (by decide) dX12_count_0 ?_
  refine gx_istore_n (lv' := [some (.inr (some 74)), some (.inl v1), some (.inl 0), none]) dX12_count_1 (by decide) rfl ?_
  refine gx_iload_n dX12_count_2 rfl ?_
  refine gx_swT (k := 0) (kI := 0) (off := 49) (tgt := 52) (by decide) dX12_count_3 (by decide) (by decide) rfl (by decide) ?_ (fun q3_0 => ?_)
  · refine gx_aload_n dX12_count_52 rfl ?_
    refine gx_getR fl_X12_7 sh74 rfl dX12_count_53 ?_
    refine gx_bipush (x := 30) (by decide) dX12_count_56 ?_
    refine gx_ialoadL (j := 30) sh75 (by decide) (by decide) dX12_count_58 ?_
    exact gx_iret rfl rfl dX12_count_59
  refine gx_swT (k := 1) (kI := 1) (off := 57) (tgt := 60) (by decide) dX12_count_3 (by decide) (by decide) rfl (by decide) ?_ (fun q3_1 => ?_)
  · refine gx_aload_n dX12_count_60 rfl ?_
    refine gx_iconst (x := 0) (by decide) dX12_count_61 ?_
    refine gx_cV_ip (av := [.inl 0]) (st := []) ml_X12_340 (by omega) sh74 (c_X12_faring (d - 1) (by omega) n 0 M) rfl rfl (Nat.le_of_ble_eq_true rfl) dX12_count_62 (fun x101 => ?_)
    refine gx_aload_n dX12_count_65 rfl ?_
    refine gx_iconst (x := 1) (by decide) dX12_count_66 ?_
    refine gx_cV_ip (av := [.inl 1]) (st := [.inl x101]) ml_X12_340 (by omega) sh74 (c_X12_faring (d - 1) (by omega) n 1 M) rfl rfl (Nat.le_of_ble_eq_true rfl) dX12_count_67 (fun x102 => ?_)
    refine gx_ior dX12_count_70 ?_
    refine gx_aload_n dX12_count_71 rfl ?_
    refine gx_iconst (x := 2) (by decide) dX12_count_72 ?_
    refine gx_cV_ip (av := [.inl 2]) (st := [.inl (x101 ||| x102)]) ml_X12_340 (by omega) sh74 (c_X12_faring (d - 1) (by omega) n 2 M) rfl rfl (Nat.le_of_ble_eq_true rfl) dX12_count_73 (fun x103 => ?_)
    refine gx_ior dX12_count_76 ?_
    exact gx_iret rfl rfl dX12_count_77
  refine gx_swT (k := 2) (kI := 2) (off := 75) (tgt := 78) (by decide) dX12_count_3 (by decide) (by decide) rfl (by decide) ?_ (fun q3_2 => ?_)
  · refine gx_aload_n dX12_count_78 rfl ?_
    refine gx_iconst (x := 0) (by decide) dX12_count_79 ?_
    refine gx_cV_ip (av := [.inl 0]) (st := []) ml_X12_340 (by omega) sh74 (c_X12_faring (d - 1) (by omega) n 0 M) rfl rfl (Nat.le_of_ble_eq_true rfl) dX12_count_80 (fun x104 => ?_)
    exact gx_iret rfl rfl dX12_count_83
  refine gx_swT (k := 3) (kI := 3) (off := 81) (tgt := 84) (by decide) dX12_count_3 (by decide) (by decide) rfl (by decide) ?_ (fun q3_3 => ?_)
  · refine gx_iconst (x := 0) (by decide) dX12_count_84 ?_
    refine gx_istore_n (lv' := [some (.inr (some 74)), some (.inl v1), some (.inl 0), some (.inl 0)]) dX12_count_85 (by decide) rfl ?_
    refine gx_mk (lv' := [some (.inr (some 74)), none, some (.inl 0), some (.inl 0)]) [true, false, true, true] rfl ?_
    exact w_X12_count_L86 d hd n M  n 0 0
  refine gx_swT (k := 4) (kI := 4) (off := 111) (tgt := 114) (by decide) dX12_count_3 (by decide) (by decide) rfl (by decide) ?_ (fun q3_4 => ?_)
  · refine gx_aload_n dX12_count_114 rfl ?_
    refine gx_getI fl_X12_114 sh74 rfl dX12_count_115 ?_
    exact gx_iret rfl rfl dX12_count_118
  refine gx_swT (k := 5) (kI := 5) (off := 116) (tgt := 119) (by decide) dX12_count_3 (by decide) (by decide) rfl (by decide) ?_ (fun q3_5 => ?_)
  · refine gx_aload_n dX12_count_119 rfl ?_
    refine gx_getI fl_X12_280 sh74 rfl dX12_count_120 ?_
    exact gx_iret rfl rfl dX12_count_123
  refine gx_swT (k := 6) (kI := 6) (off := 121) (tgt := 124) (by decide) dX12_count_3 (by decide) (by decide) rfl (by decide) ?_ (fun q3_6 => ?_)
  · refine gx_aload_n dX12_count_124 rfl ?_
    refine gx_getI fl_X12_230 sh74 rfl dX12_count_125 ?_
    exact gx_iret rfl rfl dX12_count_128
  refine gx_swT (k := 7) (kI := 7) (off := 126) (tgt := 129) (by decide) dX12_count_3 (by decide) (by decide) rfl (by decide) ?_ (fun q3_7 => ?_)
  · refine gx_aload_n dX12_count_129 rfl ?_
    refine gx_getI fl_X12_130 sh74 rfl dX12_count_130 ?_
    exact gx_iret rfl rfl dX12_count_133
  refine gx_swT (k := 8) (kI := 8) (off := 131) (tgt := 134) (by decide) dX12_count_3 (by decide) (by decide) rfl (by decide) ?_ (fun q3_8 => ?_)
  · refine gx_aload_n dX12_count_134 rfl ?_
    refine gx_getR fl_X12_7 sh74 rfl dX12_count_135 ?_
    refine gx_bipush (x := 31) (by decide) dX12_count_138 ?_
    refine gx_ialoadL (j := 31) sh75 (by decide) (by decide) dX12_count_140 ?_
    exact gx_iret rfl rfl dX12_count_141
  refine gx_swTd (tgt := 142) dX12_count_3 (by have := lv_neT q3_0 (a := 0) (by decide); have := lv_neT q3_1 (a := 1) (by decide); have := lv_neT q3_2 (a := 2) (by decide); have := lv_neT q3_3 (a := 3) (by decide); have := lv_neT q3_4 (a := 4) (by decide); have := lv_neT q3_5 (a := 5) (by decide); have := lv_neT q3_6 (a := 6) (by decide); have := lv_neT q3_7 (a := 7) (by decide); have := lv_neT q3_8 (a := 8) (by decide); omega) (by decide) ?_
  refine gx_iconst (x := (-1)) (by decide) dX12_count_142 ?_
  exact gx_iret rfl rfl dX12_count_143
theorem c_X12_count (d : Nat) (hd : 3 ≤ d) (n : Nat) (v1 : Int32) (M : HMem) : MX iX12_count d [.inr (some 74), .inl v1] M (eP M) (f_X12_count n v1 M) := mx_of (by decide +kernel) (Nat.le_of_ble_eq_true rfl) rfl (w_X12_count d hd n v1 M)

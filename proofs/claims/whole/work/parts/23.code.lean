/-! X9_leanOutside -/
def f_X9_leanOutside (x1 : Int32) (h : kv_H) : Option (Int32 × kv_H) :=
  if 0 ≤ x1 then (some (x1, h))
  else (some ((-1000000005), h))
set_option maxRecDepth 20000 in
theorem m_X9_leanOutside (x1 : Int32) (h : kv_H) : kv_M kv_i kK_X9_leanOutside [.int x1] h (f_X9_leanOutside x1 h) := by
  refine kv_met (ls := [some (.int x1)]) (show plainName RX9 = true by decide +kernel) (fun _ => rfl) (fun _ => Nat.le_of_ble_eq_true rfl) ?_
  unfold f_X9_leanOutside
  refine kr_iload0 d_X9_leanOutside_0 ?_
  refine kr_if_ge d_X9_leanOutside_1 ?_ ?_
  · refine kr_iload0 d_X9_leanOutside_9 ?_
    exact kr_ireturn d_X9_leanOutside_10 rfl
  · refine kr_const (v := (-1000000005)) d_X9_leanOutside_4 ?_
    refine kr_goto d_X9_leanOutside_6 ?_
    exact kr_ireturn d_X9_leanOutside_10 rfl

/-! grp_wa -/
def f_X9_worthAsB (rc : Int32 → Int32 → Int32 → Int32 → kv_H → Option (Int32 × kv_H)) (x1 : Int32) (x2 : Int32) (x3 : Int32) (x4 : Int32) (h : kv_H) : Option (Int32 × kv_H) :=
  kv_vl (x3 + x2) (fun e1 =>
  kv_sw x1 [1, 2, 3, 4, 5] [(some ((e1 + 10), h)),
  (some ((e1 / 2), h)),
  (kv_b (rc 1 x2 x3 x4 h) (fun r3 h2 =>
    some ((r3 - x2), h2))),
  (kv_b (rc 2 x2 x3 x4 h) (fun r5 h4 =>
    some ((r5 + x4), h4))),
  (some (7, h))] (some (e1, h)))
def f_X9_worthAs : Nat → Int32 → Int32 → Int32 → Int32 → kv_H → Option (Int32 × kv_H)
  | 0, _, _, _, _, _ => none
  | d + 1, x1, x2, x3, x4, h => f_X9_worthAsB (f_X9_worthAs d) x1 x2 x3 x4 h
set_option maxRecDepth 20000 in
theorem m_X9_worthAsB (d : Nat) (rc : Int32 → Int32 → Int32 → Int32 → kv_H → Option (Int32 × kv_H)) (hr_X9_worthAs : ∀ (x1 : Int32) (x2 : Int32) (x3 : Int32) (x4 : Int32) (h : kv_H), kv_M kv_i (kK_X9_worthAs d) [.int x1, .int x2, .int x3, .int x4] h (rc x1 x2 x3 x4 h)) (x1 : Int32) (x2 : Int32) (x3 : Int32) (x4 : Int32) (h : kv_H) : kv_M kv_i (kK_X9_worthAs (d + 1)) [.int x1, .int x2, .int x3, .int x4] h (f_X9_worthAsB rc x1 x2 x3 x4 h) := by
  refine kv_met (ls := [some (.int x1), some (.int x2), some (.int x3), some (.int x4), none]) (show plainName RX9 = true by decide +kernel) (fun _ => rfl) (fun _ => Nat.le_of_ble_eq_true rfl) ?_
  unfold f_X9_worthAsB
  refine kr_iload2 (d_X9_worthAs_0 _) ?_
  refine kr_iload1 (d_X9_worthAs_1 _) ?_
  refine kr_iadd (d_X9_worthAs_2 _) ?_
  refine kr_vl (fun e1 => ?_)
  refine kr_istore4 (d_X9_worthAs_3 _) (Nat.le_of_ble_eq_true rfl) kv_c1i ?_
  refine kr_iload0 (d_X9_worthAs_5 _) ?_
  refine kr_sw (d_X9_worthAs_6 _) ?_ ⟨?_, ?_, ?_, ?_, ?_, trivial⟩
  · refine kr_iload4 (d_X9_worthAs_74 _) ?_
    exact kr_ireturn (d_X9_worthAs_76 _) rfl
  · refine kr_iload4 (d_X9_worthAs_40 _) ?_
    refine kr_const (v := 10) (d_X9_worthAs_42 _) ?_
    refine kr_iadd (d_X9_worthAs_44 _) ?_
    exact kr_ireturn (d_X9_worthAs_45 _) rfl
  · refine kr_iload4 (d_X9_worthAs_56 _) ?_
    refine kr_const (v := 2) (d_X9_worthAs_58 _) ?_
    refine kr_idivK (by decide) (d_X9_worthAs_59 _) ?_
    exact kr_ireturn (d_X9_worthAs_60 _) rfl
  · refine kr_const (v := 1) (d_X9_worthAs_46 _) ?_
    refine kr_iload1 (d_X9_worthAs_47 _) ?_
    refine kr_iload2 (d_X9_worthAs_48 _) ?_
    refine kr_iload3 (d_X9_worthAs_49 _) ?_
    refine kr_is_i (As := [.int 1, .int x2, .int x3, .int x4]) (d_X9_worthAs_50 _) (cl_X9_152 _) (hr_X9_worthAs 1 x2 x3 x4 h) kv_dr rfl (Nat.le_of_ble_eq_true rfl) (fun r3 h2 => ?_)
    refine kr_iload1 (d_X9_worthAs_53 _) ?_
    refine kr_isub (d_X9_worthAs_54 _) ?_
    exact kr_ireturn (d_X9_worthAs_55 _) rfl
  · refine kr_const (v := 2) (d_X9_worthAs_61 _) ?_
    refine kr_iload1 (d_X9_worthAs_62 _) ?_
    refine kr_iload2 (d_X9_worthAs_63 _) ?_
    refine kr_iload3 (d_X9_worthAs_64 _) ?_
    refine kr_is_i (As := [.int 2, .int x2, .int x3, .int x4]) (d_X9_worthAs_65 _) (cl_X9_152 _) (hr_X9_worthAs 2 x2 x3 x4 h) kv_dr rfl (Nat.le_of_ble_eq_true rfl) (fun r5 h4 => ?_)
    refine kr_iload3 (d_X9_worthAs_68 _) ?_
    refine kr_iadd (d_X9_worthAs_69 _) ?_
    exact kr_ireturn (d_X9_worthAs_70 _) rfl
  · refine kr_const (v := 7) (d_X9_worthAs_71 _) ?_
    exact kr_ireturn (d_X9_worthAs_73 _) rfl

theorem m_X9_worthAs : ∀ (d : Nat) (x1 : Int32) (x2 : Int32) (x3 : Int32) (x4 : Int32) (h : kv_H), kv_M kv_i (kK_X9_worthAs d) [.int x1, .int x2, .int x3, .int x4] h (f_X9_worthAs d x1 x2 x3 x4 h)
  | 0, _, _, _, _, _ => fun _ _ _ _ q => (by cases q)
  | d + 1, x1, x2, x3, x4, h => m_X9_worthAsB d (f_X9_worthAs d) (m_X9_worthAs d) x1 x2 x3 x4 h
/-! X9_told -/
def f_X9_told (x1 : Int32) (x2 : Int32) (h : kv_H) : Option (Int32 × kv_H) :=
  kv_b (f_X9_isLeaf x1 h) (fun r2 h1 =>
  if r2 = 0 then (some ((-1000000001), h1))
  else (kv_sw x2 [0, 1, 2, 3, 4, 5, 6, 7, 8, 9, 10, 11] [(kv_k x1 8 (some ((h1 83 x1.toNatClampNeg), h1))),
    (kv_k x1 8 (some ((h1 84 x1.toNatClampNeg), h1))),
    (kv_k x1 8 (some ((h1 85 x1.toNatClampNeg), h1))),
    (kv_k x1 8 (some ((h1 86 x1.toNatClampNeg), h1))),
    (kv_k x1 8 (kv_b (f_X9_leanOutside (h1 87 x1.toNatClampNeg) h1) (fun r4 h3 =>
      some (r4, h3)))),
    (kv_k x1 8 (some ((h1 88 x1.toNatClampNeg), h1))),
    (kv_k x1 8 (some ((h1 89 x1.toNatClampNeg), h1))),
    (kv_k x1 8 (some ((h1 93 x1.toNatClampNeg), h1))),
    (kv_k x1 8 (some ((h1 94 x1.toNatClampNeg), h1))),
    (kv_b (f_X0_placeOf 91 x1 h1) (fun r6 h5 =>
      some (r6, h5))),
    (kv_b (f_X1_isRead 82 (h1 91 4) x1 h1) (fun r8 h7 =>
      if r8 = 0 then (some (0, h7))
      else (some (1, h7)))),
    (kv_k x1 8 (kv_k x1 8 (kv_k x1 8 (kv_k x1 8 (kv_b (f_X9_worthAs 3 (h1 83 x1.toNatClampNeg) (h1 84 x1.toNatClampNeg) (h1 85 x1.toNatClampNeg) (h1 86 x1.toNatClampNeg) h1) (fun r10 h9 =>
      some (r10, h9)))))))] (some ((-1000000001), h1))))
set_option maxRecDepth 20000 in
theorem m_X9_told (x1 : Int32) (x2 : Int32) (h : kv_H) : kv_M kv_i kK_X9_told [.ref 0, .int x1, .int x2] h (f_X9_told x1 x2 h) := by
  refine kv_met (ls := [some (.ref 0), some (.int x1), some (.int x2), none, none]) (show plainName RX9 = true by decide +kernel) (fun _ => rfl) (fun _ => Nat.le_of_ble_eq_true rfl) ?_
  unfold f_X9_told
  refine kr_aload0 d_X9_told_0 ?_
  refine kr_iload1 d_X9_told_1 ?_
  refine kr_iv_i (As := [.int x1]) d_X9_told_2 cl_X9_106 (m_X9_isLeaf x1 h) sh_0 (Nat.le_of_ble_eq_true rfl) rfl (Nat.le_of_ble_eq_true rfl) (fun r2 h1 => ?_)
  refine kr_if_ne d_X9_told_5 ?_ ?_
  · refine kr_aload0 d_X9_told_11 ?_
    refine kr_getR (q := 79) d_X9_told_12 fl_X9_21 sh_0 rfl ?_
    refine kr_getR (q := 82) d_X9_told_15 fl_X9_80 sh_79 rfl ?_
    refine kr_astore3 d_X9_told_18 (Nat.le_of_ble_eq_true rfl) kv_c1i ?_
    refine kr_aload0 d_X9_told_19 ?_
    refine kr_getR (q := 79) d_X9_told_20 fl_X9_21 sh_0 rfl ?_
    refine kr_getR (q := 91) d_X9_told_23 fl_X9_109 sh_79 rfl ?_
    refine kr_astore4 d_X9_told_26 (Nat.le_of_ble_eq_true rfl) kv_c1a ?_
    refine kr_iload2 d_X9_told_28 ?_
    refine kr_sw d_X9_told_29 ?_ ⟨?_, ?_, ?_, ?_, ?_, ?_, ?_, ?_, ?_, ?_, ?_, ?_, trivial⟩
    · refine kr_const (v := (-1000000001)) d_X9_told_214 ?_
      exact kr_ireturn d_X9_told_216 rfl
    · refine kr_aload3 d_X9_told_92 ?_
      refine kr_getR (q := 83) d_X9_told_93 fl_X9_113 sh_82 rfl ?_
      refine kr_iload1 d_X9_told_96 ?_
      refine kr_iaload d_X9_told_97 sh_83 ?_
      exact kr_ireturn d_X9_told_98 rfl
    · refine kr_aload3 d_X9_told_99 ?_
      refine kr_getR (q := 84) d_X9_told_100 fl_X9_116 sh_82 rfl ?_
      refine kr_iload1 d_X9_told_103 ?_
      refine kr_iaload d_X9_told_104 sh_84 ?_
      exact kr_ireturn d_X9_told_105 rfl
    · refine kr_aload3 d_X9_told_106 ?_
      refine kr_getR (q := 85) d_X9_told_107 fl_X9_119 sh_82 rfl ?_
      refine kr_iload1 d_X9_told_110 ?_
      refine kr_iaload d_X9_told_111 sh_85 ?_
      exact kr_ireturn d_X9_told_112 rfl
    · refine kr_aload3 d_X9_told_113 ?_
      refine kr_getR (q := 86) d_X9_told_114 fl_X9_122 sh_82 rfl ?_
      refine kr_iload1 d_X9_told_117 ?_
      refine kr_iaload d_X9_told_118 sh_86 ?_
      exact kr_ireturn d_X9_told_119 rfl
    · refine kr_aload3 d_X9_told_120 ?_
      refine kr_getR (q := 87) d_X9_told_121 fl_X9_125 sh_82 rfl ?_
      refine kr_iload1 d_X9_told_124 ?_
      refine kr_iaload d_X9_told_125 sh_87 ?_
      refine kr_is_i (As := [.int (h1 87 x1.toNatClampNeg)]) d_X9_told_126 cl_X9_128 (m_X9_leanOutside (h1 87 x1.toNatClampNeg) h1) (Nat.le_of_ble_eq_true rfl) rfl (Nat.le_of_ble_eq_true rfl) (fun r4 h3 => ?_)
      exact kr_ireturn d_X9_told_129 rfl
    · refine kr_aload3 d_X9_told_130 ?_
      refine kr_getR (q := 88) d_X9_told_131 fl_X9_131 sh_82 rfl ?_
      refine kr_iload1 d_X9_told_134 ?_
      refine kr_iaload d_X9_told_135 sh_88 ?_
      exact kr_ireturn d_X9_told_136 rfl
    · refine kr_aload3 d_X9_told_137 ?_
      refine kr_getR (q := 89) d_X9_told_138 fl_X9_134 sh_82 rfl ?_
      refine kr_iload1 d_X9_told_141 ?_
      refine kr_iaload d_X9_told_142 sh_89 ?_
      exact kr_ireturn d_X9_told_143 rfl
    · refine kr_aload4 d_X9_told_144 ?_
      refine kr_getR (q := 93) d_X9_told_146 fl_X9_137 sh_91 rfl ?_
      refine kr_iload1 d_X9_told_149 ?_
      refine kr_iaload d_X9_told_150 sh_93 ?_
      exact kr_ireturn d_X9_told_151 rfl
    · refine kr_aload4 d_X9_told_152 ?_
      refine kr_getR (q := 94) d_X9_told_154 fl_X9_140 sh_91 rfl ?_
      refine kr_iload1 d_X9_told_157 ?_
      refine kr_iaload d_X9_told_158 sh_94 ?_
      exact kr_ireturn d_X9_told_159 rfl
    · refine kr_aload4 d_X9_told_160 ?_
      refine kr_iload1 d_X9_told_162 ?_
      refine kr_iv_i (As := [.int x1]) d_X9_told_163 cl_X9_143 (m_X0_placeOf 91 co_91 x1 h1) sh_91 (Nat.le_of_ble_eq_true rfl) rfl (Nat.le_of_ble_eq_true rfl) (fun r6 h5 => ?_)
      exact kr_ireturn d_X9_told_166 rfl
    · refine kr_aload3 d_X9_told_167 ?_
      refine kr_aload4 d_X9_told_168 ?_
      refine kr_getI d_X9_told_170 fl_X9_146 sh_91 rfl ?_
      refine kr_iload1 d_X9_told_173 ?_
      refine kr_iv_i (As := [.int (h1 91 4), .int x1]) d_X9_told_174 cl_X9_149 (m_X1_isRead 82 le_82 (h1 91 4) x1 h1) sh_82 (Nat.le_of_ble_eq_true rfl) rfl (Nat.le_of_ble_eq_true rfl) (fun r8 h7 => ?_)
      refine kr_if_eq d_X9_told_177 ?_ ?_
      · refine kr_const (v := 0) d_X9_told_184 ?_
        exact kr_ireturn d_X9_told_185 rfl
      · refine kr_const (v := 1) d_X9_told_180 ?_
        refine kr_goto d_X9_told_181 ?_
        exact kr_ireturn d_X9_told_185 rfl
    · refine kr_aload3 d_X9_told_186 ?_
      refine kr_getR (q := 83) d_X9_told_187 fl_X9_113 sh_82 rfl ?_
      refine kr_iload1 d_X9_told_190 ?_
      refine kr_iaload d_X9_told_191 sh_83 ?_
      refine kr_aload3 d_X9_told_192 ?_
      refine kr_getR (q := 84) d_X9_told_193 fl_X9_116 sh_82 rfl ?_
      refine kr_iload1 d_X9_told_196 ?_
      refine kr_iaload d_X9_told_197 sh_84 ?_
      refine kr_aload3 d_X9_told_198 ?_
      refine kr_getR (q := 85) d_X9_told_199 fl_X9_119 sh_82 rfl ?_
      refine kr_iload1 d_X9_told_202 ?_
      refine kr_iaload d_X9_told_203 sh_85 ?_
      refine kr_aload3 d_X9_told_204 ?_
      refine kr_getR (q := 86) d_X9_told_205 fl_X9_122 sh_82 rfl ?_
      refine kr_iload1 d_X9_told_208 ?_
      refine kr_iaload d_X9_told_209 sh_86 ?_
      refine kr_is_i (As := [.int (h1 83 x1.toNatClampNeg), .int (h1 84 x1.toNatClampNeg), .int (h1 85 x1.toNatClampNeg), .int (h1 86 x1.toNatClampNeg)]) d_X9_told_210 (cl_X9_152 _) (m_X9_worthAs 3 (h1 83 x1.toNatClampNeg) (h1 84 x1.toNatClampNeg) (h1 85 x1.toNatClampNeg) (h1 86 x1.toNatClampNeg) h1) (Nat.le_of_ble_eq_true rfl) rfl (Nat.le_of_ble_eq_true rfl) (fun r10 h9 => ?_)
      exact kr_ireturn d_X9_told_213 rfl
  · refine kr_const (v := (-1000000001)) d_X9_told_8 ?_
    exact kr_ireturn d_X9_told_10 rfl

/-! X9_isUnder -/
def f_X9_isUnder_L4 (c1 : Int32) : Nat → Int32 → Int32 → kv_H → (kv_H → Option (Int32 × kv_H)) → Option (Int32 × kv_H)
  | 0, _, _, _, _ => none
  | n + 1, v2, v3, h, C => if (5 : Int32) < v3 then (C h)
    else (if v2 < 0 then (C h)
      else (if v2 = c1 then (some (1, h))
        else (kv_k v2 6 (kv_vl (kv_ka.getD v2.toNatClampNeg 0) (fun e1 =>
          f_X9_isUnder_L4 c1 n e1 (v3 + 1) h C)))))
def f_X9_isUnder (x1 : Int32) (x2 : Int32) (h : kv_H) : Option (Int32 × kv_H) :=
  f_X9_isUnder_L4 x2 kv_fu x1 0 h (fun  h2 =>
  some (0, h2))
set_option maxRecDepth 20000 in
theorem s_f_X9_isUnder_L4 (c1 : Int32) : ∀ (n : Nat) (v2 : Int32) (v3 : Int32) (h : kv_H) (C : kv_H → Option (Int32 × kv_H)), (∀  (h : kv_H), kv_S kv_i kK_X9_isUnder 32 [none, none, none, none] [] h (C h)) → kv_S kv_i kK_X9_isUnder 4 [none, some (.int c1), some (.int v2), some (.int v3)] [] h (f_X9_isUnder_L4 c1 n v2 v3 h C) := by
  intro n
  induction n with
  | zero => intros; exact kv_none
  | succ n ih =>
    intro v2 v3 h C hC
    unfold f_X9_isUnder_L4
    refine kr_iload3 d_X9_isUnder_4 ?_
    refine kr_const (v := 5) d_X9_isUnder_5 ?_
    refine kr_icmp_gt d_X9_isUnder_6 ?_ ?_
    · refine kr_kill1 ?_
      refine kr_kill2 ?_
      refine kr_kill3 ?_
      exact hC h
    · refine kr_iload2 d_X9_isUnder_9 ?_
      refine kr_if_lt d_X9_isUnder_10 ?_ ?_
      · refine kr_kill1 ?_
        refine kr_kill2 ?_
        refine kr_kill3 ?_
        exact hC h
      · refine kr_iload2 d_X9_isUnder_13 ?_
        refine kr_iload1 d_X9_isUnder_14 ?_
        refine kr_icmp_ne d_X9_isUnder_15 ?_ ?_
        · refine kr_gsKA d_X9_isUnder_20 wf_X9_367 ?_
          refine kr_iload2 d_X9_isUnder_23 ?_
          refine kr_ldKA d_X9_isUnder_24 ?_
          refine kr_vl (fun e1 => ?_)
          refine kr_istore2 d_X9_isUnder_25 (Nat.le_of_ble_eq_true rfl) kv_c1i ?_
          refine kr_iinc3 d_X9_isUnder_26 (Nat.le_of_ble_eq_true rfl) kv_c1i ?_
          refine kr_goto d_X9_isUnder_29 ?_
          exact ih e1 (v3 + 1) h C hC
        · refine kr_const (v := 1) d_X9_isUnder_18 ?_
          exact kr_zreturnK (by decide) d_X9_isUnder_19 rfl

set_option maxRecDepth 20000 in
theorem m_X9_isUnder (x1 : Int32) (x2 : Int32) (h : kv_H) : kv_M kv_i kK_X9_isUnder [.int x1, .int x2] h (f_X9_isUnder x1 x2 h) := by
  refine kv_met (ls := [some (.int x1), some (.int x2), none, none]) (show plainName RX9 = true by decide +kernel) (fun _ => rfl) (fun _ => Nat.le_of_ble_eq_true rfl) ?_
  unfold f_X9_isUnder
  refine kr_iload0 d_X9_isUnder_0 ?_
  refine kr_istore2 d_X9_isUnder_1 (Nat.le_of_ble_eq_true rfl) kv_c1i ?_
  refine kr_const (v := 0) d_X9_isUnder_2 ?_
  refine kr_istore3 d_X9_isUnder_3 (Nat.le_of_ble_eq_true rfl) kv_c1i ?_
  refine kr_kill0 ?_
  refine s_f_X9_isUnder_L4 x2 kv_fu x1 0 h _ (fun  h2 => ?_)
  refine kr_const (v := 0) d_X9_isUnder_32 ?_
  exact kr_zreturnK (by decide) d_X9_isUnder_33 rfl

/-! X9_as -/
def f_X9_as (x1 : Int32) (x2 : Int32) (h : kv_H) : Option (Int32 × kv_H) :=
  kv_b (f_X9_isLeaf x1 h) (fun r2 h1 =>
  if r2 = 0 then (some ((-1000000001), h1))
  else (kv_b (f_X9_isKind x2 h1) (fun r4 h3 =>
    if r4 = 0 then (some ((-1000000001), h3))
    else (kv_k x1 8 (kv_b (f_X9_isUnder (h3 83 x1.toNatClampNeg) x2 h3) (fun r6 h5 =>
      if r6 = 0 then (some ((-1000000012), h5))
      else (kv_k x1 8 (some ((h5 84 x1.toNatClampNeg), h5)))))))))
set_option maxRecDepth 20000 in
theorem m_X9_as (x1 : Int32) (x2 : Int32) (h : kv_H) : kv_M kv_i kK_X9_as [.ref 0, .int x1, .int x2] h (f_X9_as x1 x2 h) := by
  refine kv_met (ls := [some (.ref 0), some (.int x1), some (.int x2)]) (show plainName RX9 = true by decide +kernel) (fun _ => rfl) (fun _ => Nat.le_of_ble_eq_true rfl) ?_
  unfold f_X9_as
  refine kr_aload0 d_X9_as_0 ?_
  refine kr_iload1 d_X9_as_1 ?_
  refine kr_iv_i (As := [.int x1]) d_X9_as_2 cl_X9_106 (m_X9_isLeaf x1 h) sh_0 (Nat.le_of_ble_eq_true rfl) rfl (Nat.le_of_ble_eq_true rfl) (fun r2 h1 => ?_)
  refine kr_if_eq d_X9_as_5 ?_ ?_
  · refine kr_const (v := (-1000000001)) d_X9_as_15 ?_
    exact kr_ireturn d_X9_as_17 rfl
  · refine kr_iload2 d_X9_as_8 ?_
    refine kr_is_i (As := [.int x2]) d_X9_as_9 cl_X9_70 (m_X9_isKind x2 h1) (Nat.le_of_ble_eq_true rfl) rfl (Nat.le_of_ble_eq_true rfl) (fun r4 h3 => ?_)
    refine kr_if_ne d_X9_as_12 ?_ ?_
    · refine kr_aload0 d_X9_as_18 ?_
      refine kr_getR (q := 79) d_X9_as_19 fl_X9_21 sh_0 rfl ?_
      refine kr_getR (q := 82) d_X9_as_22 fl_X9_80 sh_79 rfl ?_
      refine kr_getR (q := 83) d_X9_as_25 fl_X9_113 sh_82 rfl ?_
      refine kr_iload1 d_X9_as_28 ?_
      refine kr_iaload d_X9_as_29 sh_83 ?_
      refine kr_iload2 d_X9_as_30 ?_
      refine kr_is_i (As := [.int (h3 83 x1.toNatClampNeg), .int x2]) d_X9_as_31 cl_X9_155 (m_X9_isUnder (h3 83 x1.toNatClampNeg) x2 h3) (Nat.le_of_ble_eq_true rfl) rfl (Nat.le_of_ble_eq_true rfl) (fun r6 h5 => ?_)
      refine kr_if_eq d_X9_as_34 ?_ ?_
      · refine kr_const (v := (-1000000012)) d_X9_as_52 ?_
        exact kr_ireturn d_X9_as_54 rfl
      · refine kr_aload0 d_X9_as_37 ?_
        refine kr_getR (q := 79) d_X9_as_38 fl_X9_21 sh_0 rfl ?_
        refine kr_getR (q := 82) d_X9_as_41 fl_X9_80 sh_79 rfl ?_
        refine kr_getR (q := 84) d_X9_as_44 fl_X9_116 sh_82 rfl ?_
        refine kr_iload1 d_X9_as_47 ?_
        refine kr_iaload d_X9_as_48 sh_84 ?_
        refine kr_goto d_X9_as_49 ?_
        exact kr_ireturn d_X9_as_54 rfl
    · refine kr_const (v := (-1000000001)) d_X9_as_15 ?_
      exact kr_ireturn d_X9_as_17 rfl

/-! X9_replace -/
def f_X9_replace (k1 nk1 : Nat) (x2 : Int32) (x3 : Int32) (h : kv_H) : Option (Int32 × kv_H) :=
  kv_k x2 nk1 (kv_vl (h k1 x2.toNatClampNeg) (fun e1 =>
  kv_k x2 nk1 (kv_hl (kv_up h k1 x2.toNatClampNeg x3) (fun h2 =>
  kv_b (f_X8_weighAll 79 h2) (fun _ h3 =>
  some (e1, h3))))))
set_option maxRecDepth 20000 in
theorem m_X9_replace (k1 nk1 : Nat) (hk1 : kv_Ar k1 nk1) (x2 : Int32) (x3 : Int32) (h : kv_H) : kv_M kv_i kK_X9_replace [.ref 0, .ref k1, .int x2, .int x3] h (f_X9_replace k1 nk1 x2 x3 h) := by
  refine kv_met (ls := [some (.ref 0), some (.ref k1), some (.int x2), some (.int x3), none]) (show plainName RX9 = true by decide +kernel) (fun _ => rfl) (fun _ => Nat.le_of_ble_eq_true rfl) ?_
  unfold f_X9_replace
  refine kr_aload1 d_X9_replace_0 ?_
  refine kr_iload2 d_X9_replace_1 ?_
  refine kr_iaload d_X9_replace_2 hk1 ?_
  refine kr_vl (fun e1 => ?_)
  refine kr_istore4 d_X9_replace_3 (Nat.le_of_ble_eq_true rfl) kv_c1i ?_
  refine kr_aload1 d_X9_replace_5 ?_
  refine kr_iload2 d_X9_replace_6 ?_
  refine kr_iload3 d_X9_replace_7 ?_
  refine kr_iastore d_X9_replace_8 hk1 ?_
  refine kr_hl (fun h2 => ?_)
  refine kr_aload0 d_X9_replace_9 ?_
  refine kr_getR (q := 79) d_X9_replace_10 fl_X9_21 sh_0 rfl ?_
  refine kr_iv_u (As := []) d_X9_replace_13 cl_X9_103 (m_X8_weighAll 79 wo_79 h2) sh_79 (Nat.le_of_ble_eq_true rfl) rfl (Nat.le_of_ble_eq_true rfl) (fun h3 => ?_)
  refine kr_iload4 d_X9_replace_16 ?_
  exact kr_ireturn d_X9_replace_18 rfl

/-! X9_turns -/
def f_X9_turns (x1 : Int32) (x2 : Int32) (h : kv_H) : Option (Int32 × kv_H) :=
  kv_b (f_X9_isLeaf x1 h) (fun r2 h1 =>
  if r2 = 0 then (some ((-1000000001), h1))
  else (kv_b (f_X9_isKind x2 h1) (fun r4 h3 =>
    if r4 = 0 then (some ((-1000000001), h3))
    else (kv_b (f_X9_replace 83 8 x1 x2 h3) (fun r6 h5 =>
      some (r6, h5))))))
set_option maxRecDepth 20000 in
theorem m_X9_turns (x1 : Int32) (x2 : Int32) (h : kv_H) : kv_M kv_i kK_X9_turns [.ref 0, .int x1, .int x2] h (f_X9_turns x1 x2 h) := by
  refine kv_met (ls := [some (.ref 0), some (.int x1), some (.int x2)]) (show plainName RX9 = true by decide +kernel) (fun _ => rfl) (fun _ => Nat.le_of_ble_eq_true rfl) ?_
  unfold f_X9_turns
  refine kr_aload0 d_X9_turns_0 ?_
  refine kr_iload1 d_X9_turns_1 ?_
  refine kr_iv_i (As := [.int x1]) d_X9_turns_2 cl_X9_106 (m_X9_isLeaf x1 h) sh_0 (Nat.le_of_ble_eq_true rfl) rfl (Nat.le_of_ble_eq_true rfl) (fun r2 h1 => ?_)
  refine kr_if_eq d_X9_turns_5 ?_ ?_
  · refine kr_const (v := (-1000000001)) d_X9_turns_15 ?_
    exact kr_ireturn d_X9_turns_17 rfl
  · refine kr_iload2 d_X9_turns_8 ?_
    refine kr_is_i (As := [.int x2]) d_X9_turns_9 cl_X9_70 (m_X9_isKind x2 h1) (Nat.le_of_ble_eq_true rfl) rfl (Nat.le_of_ble_eq_true rfl) (fun r4 h3 => ?_)
    refine kr_if_ne d_X9_turns_12 ?_ ?_
    · refine kr_aload0 d_X9_turns_18 ?_
      refine kr_aload0 d_X9_turns_19 ?_
      refine kr_getR (q := 79) d_X9_turns_20 fl_X9_21 sh_0 rfl ?_
      refine kr_getR (q := 82) d_X9_turns_23 fl_X9_80 sh_79 rfl ?_
      refine kr_getR (q := 83) d_X9_turns_26 fl_X9_113 sh_82 rfl ?_
      refine kr_iload1 d_X9_turns_29 ?_
      refine kr_iload2 d_X9_turns_30 ?_
      refine kr_iv_i (As := [.ref 83, .int x1, .int x2]) d_X9_turns_31 cl_X9_159 (m_X9_replace 83 8 sh_83 x1 x2 h3) sh_0 (Nat.le_of_ble_eq_true rfl) rfl (Nat.le_of_ble_eq_true rfl) (fun r6 h5 => ?_)
      exact kr_ireturn d_X9_turns_34 rfl
    · refine kr_const (v := (-1000000001)) d_X9_turns_15 ?_
      exact kr_ireturn d_X9_turns_17 rfl

/-! X9_set -/
def f_X9_set (x1 : Int32) (x2 : Int32) (x3 : Int32) (h : kv_H) : Option (Int32 × kv_H) :=
  kv_b (f_X9_isLeaf x1 h) (fun r2 h1 =>
  if r2 = 0 then (some ((-1000000001), h1))
  else (kv_jn (fun  (h3 : kv_H) =>
    kv_jn (fun  (h4 : kv_H) =>
      if x2 = (2 : Int32) then (if x3 < 0 then (some ((-1000000001), h4))
          else (if (9 : Int32) < x3 then (some ((-1000000001), h4))
            else (kv_b (f_X9_replace 86 8 x1 x3 h4) (fun r6 h5 =>
              some (r6, h5)))))
        else (some ((-1000000001), h4))) (fun (J68 : kv_H → Option (Int32 × kv_H)) =>
      if x2 = (1 : Int32) then (kv_b (f_X9_isLoss x3 h3) (fun r8 h7 =>
        if r8 = 0 then (J68 h7)
        else (kv_b (f_X9_replace 85 8 x1 x3 h7) (fun r10 h9 =>
          some (r10, h9)))))
      else (J68 h3))) (fun (J39 : kv_H → Option (Int32 × kv_H)) =>
    if x2 = 0 then (kv_b (f_X9_isSize x3 h1) (fun r12 h11 =>
      if r12 = 0 then (J39 h11)
      else (kv_b (f_X9_replace 84 8 x1 x3 h11) (fun r14 h13 =>
        some (r14, h13)))))
    else (J39 h1))))
set_option maxRecDepth 20000 in
theorem m_X9_set (x1 : Int32) (x2 : Int32) (x3 : Int32) (h : kv_H) : kv_M kv_i kK_X9_set [.ref 0, .int x1, .int x2, .int x3] h (f_X9_set x1 x2 x3 h) := by
  refine kv_met (ls := [some (.ref 0), some (.int x1), some (.int x2), some (.int x3)]) (show plainName RX9 = true by decide +kernel) (fun _ => rfl) (fun _ => Nat.le_of_ble_eq_true rfl) ?_
  unfold f_X9_set
  refine kr_aload0 d_X9_set_0 ?_
  refine kr_iload1 d_X9_set_1 ?_
  refine kr_iv_i (As := [.int x1]) d_X9_set_2 cl_X9_106 (m_X9_isLeaf x1 h) sh_0 (Nat.le_of_ble_eq_true rfl) rfl (Nat.le_of_ble_eq_true rfl) (fun r2 h1 => ?_)
  refine kr_if_ne d_X9_set_5 ?_ ?_
  · refine kr_iload2 d_X9_set_11 ?_
    refine kr_jn (P := fun J39 =>  ∀ (h3 : kv_H), kv_S kv_i kK_X9_set 39 [some (.ref 0), some (.int x1), some (.int x2), some (.int x3)] [] h3 (J39  h3)) (fun  h3 => ?_) (fun J39 hJ39 => ?_)
    · refine kr_iload2 d_X9_set_39 ?_
      refine kr_const (v := 1) d_X9_set_40 ?_
      refine kr_jn (P := fun J68 =>  ∀ (h4 : kv_H), kv_S kv_i kK_X9_set 68 [some (.ref 0), some (.int x1), some (.int x2), some (.int x3)] [] h4 (J68  h4)) (fun  h4 => ?_) (fun J68 hJ68 => ?_)
      · refine kr_iload2 d_X9_set_68 ?_
        refine kr_const (v := 2) d_X9_set_69 ?_
        refine kr_icmp_ne d_X9_set_70 ?_ ?_
        · refine kr_const (v := (-1000000001)) d_X9_set_100 ?_
          exact kr_ireturn d_X9_set_102 rfl
        · refine kr_iload3 d_X9_set_73 ?_
          refine kr_if_lt d_X9_set_74 ?_ ?_
          · refine kr_const (v := (-1000000001)) d_X9_set_100 ?_
            exact kr_ireturn d_X9_set_102 rfl
          · refine kr_iload3 d_X9_set_77 ?_
            refine kr_const (v := 9) d_X9_set_78 ?_
            refine kr_icmp_gt d_X9_set_80 ?_ ?_
            · refine kr_const (v := (-1000000001)) d_X9_set_100 ?_
              exact kr_ireturn d_X9_set_102 rfl
            · refine kr_aload0 d_X9_set_83 ?_
              refine kr_aload0 d_X9_set_84 ?_
              refine kr_getR (q := 79) d_X9_set_85 fl_X9_21 sh_0 rfl ?_
              refine kr_getR (q := 82) d_X9_set_88 fl_X9_80 sh_79 rfl ?_
              refine kr_getR (q := 86) d_X9_set_91 fl_X9_122 sh_82 rfl ?_
              refine kr_iload1 d_X9_set_94 ?_
              refine kr_iload3 d_X9_set_95 ?_
              refine kr_iv_i (As := [.ref 86, .int x1, .int x3]) d_X9_set_96 cl_X9_159 (m_X9_replace 86 8 sh_86 x1 x3 h4) sh_0 (Nat.le_of_ble_eq_true rfl) rfl (Nat.le_of_ble_eq_true rfl) (fun r6 h5 => ?_)
              exact kr_ireturn d_X9_set_99 rfl
      refine kr_icmp_ne d_X9_set_41 ?_ ?_
      · exact hJ68 h3
      · refine kr_iload3 d_X9_set_44 ?_
        refine kr_is_i (As := [.int x3]) d_X9_set_45 cl_X9_77 (m_X9_isLoss x3 h3) (Nat.le_of_ble_eq_true rfl) rfl (Nat.le_of_ble_eq_true rfl) (fun r8 h7 => ?_)
        refine kr_if_eq d_X9_set_48 ?_ ?_
        · exact hJ68 h7
        · refine kr_aload0 d_X9_set_51 ?_
          refine kr_aload0 d_X9_set_52 ?_
          refine kr_getR (q := 79) d_X9_set_53 fl_X9_21 sh_0 rfl ?_
          refine kr_getR (q := 82) d_X9_set_56 fl_X9_80 sh_79 rfl ?_
          refine kr_getR (q := 85) d_X9_set_59 fl_X9_119 sh_82 rfl ?_
          refine kr_iload1 d_X9_set_62 ?_
          refine kr_iload3 d_X9_set_63 ?_
          refine kr_iv_i (As := [.ref 85, .int x1, .int x3]) d_X9_set_64 cl_X9_159 (m_X9_replace 85 8 sh_85 x1 x3 h7) sh_0 (Nat.le_of_ble_eq_true rfl) rfl (Nat.le_of_ble_eq_true rfl) (fun r10 h9 => ?_)
          exact kr_ireturn d_X9_set_67 rfl
    refine kr_if_ne d_X9_set_12 ?_ ?_
    · exact hJ39 h1
    · refine kr_iload3 d_X9_set_15 ?_
      refine kr_is_i (As := [.int x3]) d_X9_set_16 cl_X9_74 (m_X9_isSize x3 h1) (Nat.le_of_ble_eq_true rfl) rfl (Nat.le_of_ble_eq_true rfl) (fun r12 h11 => ?_)
      refine kr_if_eq d_X9_set_19 ?_ ?_
      · exact hJ39 h11
      · refine kr_aload0 d_X9_set_22 ?_
        refine kr_aload0 d_X9_set_23 ?_
        refine kr_getR (q := 79) d_X9_set_24 fl_X9_21 sh_0 rfl ?_
        refine kr_getR (q := 82) d_X9_set_27 fl_X9_80 sh_79 rfl ?_
        refine kr_getR (q := 84) d_X9_set_30 fl_X9_116 sh_82 rfl ?_
        refine kr_iload1 d_X9_set_33 ?_
        refine kr_iload3 d_X9_set_34 ?_
        refine kr_iv_i (As := [.ref 84, .int x1, .int x3]) d_X9_set_35 cl_X9_159 (m_X9_replace 84 8 sh_84 x1 x3 h11) sh_0 (Nat.le_of_ble_eq_true rfl) rfl (Nat.le_of_ble_eq_true rfl) (fun r14 h13 => ?_)
        exact kr_ireturn d_X9_set_38 rfl
  · refine kr_const (v := (-1000000001)) d_X9_set_8 ?_
    exact kr_ireturn d_X9_set_10 rfl

/-! X9_leans -/
def f_X9_leans (x1 : Int32) (x2 : Int32) (h : kv_H) : Option (Int32 × kv_H) :=
  kv_b (f_X9_isLeaf x1 h) (fun r2 h1 =>
  if r2 = 0 then (some ((-1000000001), h1))
  else (kv_b (f_X9_mayLean x1 x2 h1) (fun r4 h3 =>
    if r4 = 0 then (some ((-1000000001), h3))
    else (kv_b (f_X9_leanInside x2 h3) (fun r6 h5 =>
      kv_b (f_X9_replace 87 8 x1 r6 h5) (fun r8 h7 =>
      kv_b (f_X9_leanOutside r8 h7) (fun r10 h9 =>
      some (r10, h9))))))))
set_option maxRecDepth 20000 in
theorem m_X9_leans (x1 : Int32) (x2 : Int32) (h : kv_H) : kv_M kv_i kK_X9_leans [.ref 0, .int x1, .int x2] h (f_X9_leans x1 x2 h) := by
  refine kv_met (ls := [some (.ref 0), some (.int x1), some (.int x2)]) (show plainName RX9 = true by decide +kernel) (fun _ => rfl) (fun _ => Nat.le_of_ble_eq_true rfl) ?_
  unfold f_X9_leans
  refine kr_aload0 d_X9_leans_0 ?_
  refine kr_iload1 d_X9_leans_1 ?_
  refine kr_iv_i (As := [.int x1]) d_X9_leans_2 cl_X9_106 (m_X9_isLeaf x1 h) sh_0 (Nat.le_of_ble_eq_true rfl) rfl (Nat.le_of_ble_eq_true rfl) (fun r2 h1 => ?_)
  refine kr_if_eq d_X9_leans_5 ?_ ?_
  · refine kr_const (v := (-1000000001)) d_X9_leans_16 ?_
    exact kr_ireturn d_X9_leans_18 rfl
  · refine kr_iload1 d_X9_leans_8 ?_
    refine kr_iload2 d_X9_leans_9 ?_
    refine kr_is_i (As := [.int x1, .int x2]) d_X9_leans_10 cl_X9_90 (m_X9_mayLean x1 x2 h1) (Nat.le_of_ble_eq_true rfl) rfl (Nat.le_of_ble_eq_true rfl) (fun r4 h3 => ?_)
    refine kr_if_ne d_X9_leans_13 ?_ ?_
    · refine kr_aload0 d_X9_leans_19 ?_
      refine kr_aload0 d_X9_leans_20 ?_
      refine kr_getR (q := 79) d_X9_leans_21 fl_X9_21 sh_0 rfl ?_
      refine kr_getR (q := 82) d_X9_leans_24 fl_X9_80 sh_79 rfl ?_
      refine kr_getR (q := 87) d_X9_leans_27 fl_X9_125 sh_82 rfl ?_
      refine kr_iload1 d_X9_leans_30 ?_
      refine kr_iload2 d_X9_leans_31 ?_
      refine kr_is_i (As := [.int x2]) d_X9_leans_32 cl_X9_95 (m_X9_leanInside x2 h3) (Nat.le_of_ble_eq_true rfl) rfl (Nat.le_of_ble_eq_true rfl) (fun r6 h5 => ?_)
      refine kr_iv_i (As := [.ref 87, .int x1, .int r6]) d_X9_leans_35 cl_X9_159 (m_X9_replace 87 8 sh_87 x1 r6 h5) sh_0 (Nat.le_of_ble_eq_true rfl) rfl (Nat.le_of_ble_eq_true rfl) (fun r8 h7 => ?_)
      refine kr_is_i (As := [.int r8]) d_X9_leans_38 cl_X9_128 (m_X9_leanOutside r8 h7) (Nat.le_of_ble_eq_true rfl) rfl (Nat.le_of_ble_eq_true rfl) (fun r10 h9 => ?_)
      exact kr_ireturn d_X9_leans_41 rfl
    · refine kr_const (v := (-1000000001)) d_X9_leans_16 ?_
      exact kr_ireturn d_X9_leans_18 rfl

/-! X9_drawLeaf -/
def f_X9_drawLeaf (h : kv_H) : Option (Unit × kv_H) :=
  kv_vl (h 82 8) (fun e1 =>
  kv_b (f_X0_draw 91 h) (fun r3 h2 =>
  kv_vl (1 + (r3 - r3 / 9 * 9)) (fun e4 =>
  kv_b (f_X0_draw 91 h2) (fun r6 h5 =>
  kv_vl (r6 - r6 / 100 * 100) (fun e7 =>
  kv_b (f_X0_draw 91 h5) (fun r9 h8 =>
  kv_z (1 + e1) (kv_vl (r9 - r9 / (1 + e1) * (1 + e1)) (fun e10 =>
  if e10 = e1 then (kv_b (f_X8_addLeaf 79 0 e4 e7 (-1) h8) (fun r14 h13 =>
    some ((), h13)))
  else (kv_b (f_X8_addLeaf 79 0 e4 e7 e10 h8) (fun r12 h11 =>
    some ((), h11)))))))))))
set_option maxRecDepth 20000 in
theorem m_X9_drawLeaf (h : kv_H) : kv_M kv_u kK_X9_drawLeaf [.ref 0] h (f_X9_drawLeaf h) := by
  refine kv_met (ls := [some (.ref 0), none, none, none, none, none]) (show plainName RX9 = true by decide +kernel) (fun _ => rfl) (fun _ => Nat.le_of_ble_eq_true rfl) ?_
  unfold f_X9_drawLeaf
  refine kr_aload0 d_X9_drawLeaf_0 ?_
  refine kr_getR (q := 79) d_X9_drawLeaf_1 fl_X9_21 sh_0 rfl ?_
  refine kr_getR (q := 91) d_X9_drawLeaf_4 fl_X9_109 sh_79 rfl ?_
  refine kr_astore1 d_X9_drawLeaf_7 (Nat.le_of_ble_eq_true rfl) kv_c1a ?_
  refine kr_aload0 d_X9_drawLeaf_8 ?_
  refine kr_getR (q := 79) d_X9_drawLeaf_9 fl_X9_21 sh_0 rfl ?_
  refine kr_getR (q := 82) d_X9_drawLeaf_12 fl_X9_80 sh_79 rfl ?_
  refine kr_getI d_X9_drawLeaf_15 fl_X9_84 sh_82 rfl ?_
  refine kr_vl (fun e1 => ?_)
  refine kr_istore2 d_X9_drawLeaf_18 (Nat.le_of_ble_eq_true rfl) kv_c1a ?_
  refine kr_const (v := 1) d_X9_drawLeaf_19 ?_
  refine kr_aload1 d_X9_drawLeaf_20 ?_
  refine kr_iv_i (As := []) d_X9_drawLeaf_21 cl_X9_201 (m_X0_draw 91 co_91 h) sh_91 (Nat.le_of_ble_eq_true rfl) rfl (Nat.le_of_ble_eq_true rfl) (fun r3 h2 => ?_)
  refine kr_const (v := 9) d_X9_drawLeaf_24 ?_
  refine kr_iremK (by decide) d_X9_drawLeaf_26 ?_
  refine kr_iadd d_X9_drawLeaf_27 ?_
  refine kr_vl (fun e4 => ?_)
  refine kr_istore3 d_X9_drawLeaf_28 (Nat.le_of_ble_eq_true rfl) kv_c1i ?_
  refine kr_aload1 d_X9_drawLeaf_29 ?_
  refine kr_iv_i (As := []) d_X9_drawLeaf_30 cl_X9_201 (m_X0_draw 91 co_91 h2) sh_91 (Nat.le_of_ble_eq_true rfl) rfl (Nat.le_of_ble_eq_true rfl) (fun r6 h5 => ?_)
  refine kr_const (v := 100) d_X9_drawLeaf_33 ?_
  refine kr_iremK (by decide) d_X9_drawLeaf_35 ?_
  refine kr_vl (fun e7 => ?_)
  refine kr_istore4 d_X9_drawLeaf_36 (Nat.le_of_ble_eq_true rfl) kv_c1i ?_
  refine kr_aload1 d_X9_drawLeaf_38 ?_
  refine kr_iv_i (As := []) d_X9_drawLeaf_39 cl_X9_201 (m_X0_draw 91 co_91 h5) sh_91 (Nat.le_of_ble_eq_true rfl) rfl (Nat.le_of_ble_eq_true rfl) (fun r9 h8 => ?_)
  refine kr_const (v := 1) d_X9_drawLeaf_42 ?_
  refine kr_iload2 d_X9_drawLeaf_43 ?_
  refine kr_iadd d_X9_drawLeaf_44 ?_
  refine kr_irem d_X9_drawLeaf_45 ?_
  refine kr_vl (fun e10 => ?_)
  refine kr_istore5 d_X9_drawLeaf_46 (Nat.le_of_ble_eq_true rfl) kv_c1i ?_
  refine kr_aload0 d_X9_drawLeaf_48 ?_
  refine kr_getR (q := 79) d_X9_drawLeaf_49 fl_X9_21 sh_0 rfl ?_
  refine kr_const (v := 0) d_X9_drawLeaf_52 ?_
  refine kr_iload3 d_X9_drawLeaf_53 ?_
  refine kr_iload4 d_X9_drawLeaf_54 ?_
  refine kr_iload5 d_X9_drawLeaf_56 ?_
  refine kr_iload2 d_X9_drawLeaf_58 ?_
  refine kr_icmp_ne d_X9_drawLeaf_59 ?_ ?_
  · refine kr_iload5 d_X9_drawLeaf_66 ?_
    refine kr_iv_i (As := [.int 0, .int e4, .int e7, .int e10]) d_X9_drawLeaf_68 cl_X9_99 (m_X8_addLeaf 79 wo_79 0 e4 e7 e10 h8) sh_79 (Nat.le_of_ble_eq_true rfl) rfl (Nat.le_of_ble_eq_true rfl) (fun r12 h11 => ?_)
    refine kr_pop d_X9_drawLeaf_71 rfl ?_
    exact kr_return d_X9_drawLeaf_72 rfl
  · refine kr_const (v := (-1)) d_X9_drawLeaf_62 ?_
    refine kr_goto d_X9_drawLeaf_63 ?_
    refine kr_iv_i (As := [.int 0, .int e4, .int e7, .int (-1)]) d_X9_drawLeaf_68 cl_X9_99 (m_X8_addLeaf 79 wo_79 0 e4 e7 (-1) h8) sh_79 (Nat.le_of_ble_eq_true rfl) rfl (Nat.le_of_ble_eq_true rfl) (fun r14 h13 => ?_)
    refine kr_pop d_X9_drawLeaf_71 rfl ?_
    exact kr_return d_X9_drawLeaf_72 rfl

/-! X9_deal -/
def f_X9_deal_L34 (c2 : Int32) : Nat → Int32 → kv_H → (kv_H → Option (Int32 × kv_H)) → Option (Int32 × kv_H)
  | 0, _, _, _ => none
  | n + 1, v3, h, C => if c2 ≤ v3 then (C h)
    else (kv_b (f_X9_drawLeaf h) (fun _ h2 =>
      f_X9_deal_L34 c2 n (v3 + 1) h2 C))
def f_X9_deal (x1 : Int32) (h : kv_H) : Option (Int32 × kv_H) :=
  if x1 < (1 : Int32) then (some ((-1000000001), h))
  else (if x1 ≤ (8 : Int32) then (kv_vl (if (8 - (h 82 8)) < x1 then (8 - (h 82 8)) else x1) (fun e1 =>
      f_X9_deal_L34 e1 kv_fu 0 h (fun  h3 =>
      kv_b (f_X8_weighAll 79 h3) (fun _ h4 =>
        some (e1, h4)))))
    else (some ((-1000000001), h)))
set_option maxRecDepth 20000 in
theorem s_f_X9_deal_L34 (c2 : Int32) : ∀ (n : Nat) (v3 : Int32) (h : kv_H) (C : kv_H → Option (Int32 × kv_H)), (∀  (h : kv_H), kv_S kv_i kK_X9_deal 49 [some (.ref 0), none, some (.int c2), none] [] h (C h)) → kv_S kv_i kK_X9_deal 34 [some (.ref 0), none, some (.int c2), some (.int v3)] [] h (f_X9_deal_L34 c2 n v3 h C) := by
  intro n
  induction n with
  | zero => intros; exact kv_none
  | succ n ih =>
    intro v3 h C hC
    unfold f_X9_deal_L34
    refine kr_iload3 d_X9_deal_34 ?_
    refine kr_iload2 d_X9_deal_35 ?_
    refine kr_icmp_ge d_X9_deal_36 ?_ ?_
    · refine kr_kill3 ?_
      exact hC h
    · refine kr_aload0 d_X9_deal_39 ?_
      refine kr_iv_u (As := []) d_X9_deal_40 cl_X9_169 (m_X9_drawLeaf h) sh_0 (Nat.le_of_ble_eq_true rfl) rfl (Nat.le_of_ble_eq_true rfl) (fun h2 => ?_)
      refine kr_iinc3 d_X9_deal_43 (Nat.le_of_ble_eq_true rfl) kv_c1i ?_
      refine kr_goto d_X9_deal_46 ?_
      exact ih (v3 + 1) h2 C hC

set_option maxRecDepth 20000 in
theorem m_X9_deal (x1 : Int32) (h : kv_H) : kv_M kv_i kK_X9_deal [.ref 0, .int x1] h (f_X9_deal x1 h) := by
  refine kv_met (ls := [some (.ref 0), some (.int x1), none, none]) (show plainName RX9 = true by decide +kernel) (fun _ => rfl) (fun _ => Nat.le_of_ble_eq_true rfl) ?_
  unfold f_X9_deal
  refine kr_iload1 d_X9_deal_0 ?_
  refine kr_const (v := 1) d_X9_deal_1 ?_
  refine kr_icmp_lt d_X9_deal_2 ?_ ?_
  · refine kr_const (v := (-1000000001)) d_X9_deal_11 ?_
    exact kr_ireturn d_X9_deal_13 rfl
  · refine kr_iload1 d_X9_deal_5 ?_
    refine kr_const (v := 8) d_X9_deal_6 ?_
    refine kr_icmp_le d_X9_deal_8 ?_ ?_
    · refine kr_iload1 d_X9_deal_14 ?_
      refine kr_const (v := 8) d_X9_deal_15 ?_
      refine kr_aload0 d_X9_deal_17 ?_
      refine kr_getR (q := 79) d_X9_deal_18 fl_X9_21 sh_0 rfl ?_
      refine kr_getR (q := 82) d_X9_deal_21 fl_X9_80 sh_79 rfl ?_
      refine kr_getI d_X9_deal_24 fl_X9_84 sh_82 rfl ?_
      refine kr_isub d_X9_deal_27 ?_
      refine kr_mmin d_X9_deal_28 wm_X9_163 (Nat.le_of_ble_eq_true rfl) (Nat.le_of_ble_eq_true rfl) ?_
      refine kr_vl (fun e1 => ?_)
      refine kr_istore2 d_X9_deal_31 (Nat.le_of_ble_eq_true rfl) kv_c1i ?_
      refine kr_const (v := 0) d_X9_deal_32 ?_
      refine kr_istore3 d_X9_deal_33 (Nat.le_of_ble_eq_true rfl) kv_c1i ?_
      refine kr_kill1 ?_
      refine s_f_X9_deal_L34 e1 kv_fu 0 h _ (fun  h3 => ?_)
      refine kr_aload0 d_X9_deal_49 ?_
      refine kr_getR (q := 79) d_X9_deal_50 fl_X9_21 sh_0 rfl ?_
      refine kr_iv_u (As := []) d_X9_deal_53 cl_X9_103 (m_X8_weighAll 79 wo_79 h3) sh_79 (Nat.le_of_ble_eq_true rfl) rfl (Nat.le_of_ble_eq_true rfl) (fun h4 => ?_)
      refine kr_iload2 d_X9_deal_56 ?_
      exact kr_ireturn d_X9_deal_57 rfl
    · refine kr_const (v := (-1000000001)) d_X9_deal_11 ?_
      exact kr_ireturn d_X9_deal_13 rfl

/-! X9_space -/
def f_X9_space (x1 : Int32) (h : kv_H) : Option (Int32 × kv_H) :=
  if x1 < 0 then (some ((-1000000001), h))
  else (if x1 ≤ (60 : Int32) then (kv_hl (kv_up h 79 7 x1) (fun h1 =>
      kv_b (f_X8_throwDownTo 79 91 x1 h1) (fun r3 h2 =>
      some (r3, h2))))
    else (some ((-1000000001), h)))
set_option maxRecDepth 20000 in
theorem m_X9_space (x1 : Int32) (h : kv_H) : kv_M kv_i kK_X9_space [.ref 0, .int x1] h (f_X9_space x1 h) := by
  refine kv_met (ls := [some (.ref 0), some (.int x1)]) (show plainName RX9 = true by decide +kernel) (fun _ => rfl) (fun _ => Nat.le_of_ble_eq_true rfl) ?_
  unfold f_X9_space
  refine kr_iload1 d_X9_space_0 ?_
  refine kr_if_lt d_X9_space_1 ?_ ?_
  · refine kr_const (v := (-1000000001)) d_X9_space_10 ?_
    exact kr_ireturn d_X9_space_12 rfl
  · refine kr_iload1 d_X9_space_4 ?_
    refine kr_const (v := 60) d_X9_space_5 ?_
    refine kr_icmp_le d_X9_space_7 ?_ ?_
    · refine kr_aload0 d_X9_space_13 ?_
      refine kr_getR (q := 79) d_X9_space_14 fl_X9_21 sh_0 rfl ?_
      refine kr_iload1 d_X9_space_17 ?_
      refine kr_putI d_X9_space_18 fp_X9_172 sh_79 rfl rfl rfl ?_
      refine kr_hl (fun h1 => ?_)
      refine kr_aload0 d_X9_space_21 ?_
      refine kr_getR (q := 79) d_X9_space_22 fl_X9_21 sh_0 rfl ?_
      refine kr_aload0 d_X9_space_25 ?_
      refine kr_getR (q := 79) d_X9_space_26 fl_X9_21 sh_0 rfl ?_
      refine kr_getR (q := 91) d_X9_space_29 fl_X9_109 sh_79 rfl ?_
      refine kr_iload1 d_X9_space_32 ?_
      refine kr_iv_i (As := [.ref 91, .int x1]) d_X9_space_33 cl_X9_175 (m_X8_throwDownTo 79 wo_79 91 co_91 x1 h1) sh_79 (Nat.le_of_ble_eq_true rfl) rfl (Nat.le_of_ble_eq_true rfl) (fun r3 h2 => ?_)
      exact kr_ireturn d_X9_space_36 rfl
    · refine kr_const (v := (-1000000001)) d_X9_space_10 ?_
      exact kr_ireturn d_X9_space_12 rfl

/-! X9_rule -/
def f_X9_rule (x1 : Int32) (h : kv_H) : Option (Int32 × kv_H) :=
  if x1 < 0 then (some ((-1000000001), h))
  else (if x1 ≤ (4 : Int32) then (kv_vl (h 79 8) (fun e1 =>
      kv_hl (kv_up h 79 8 x1) (fun h2 =>
      some (e1, h2))))
    else (some ((-1000000001), h)))
set_option maxRecDepth 20000 in
theorem m_X9_rule (x1 : Int32) (h : kv_H) : kv_M kv_i kK_X9_rule [.ref 0, .int x1] h (f_X9_rule x1 h) := by
  refine kv_met (ls := [some (.ref 0), some (.int x1), none]) (show plainName RX9 = true by decide +kernel) (fun _ => rfl) (fun _ => Nat.le_of_ble_eq_true rfl) ?_
  unfold f_X9_rule
  refine kr_iload1 d_X9_rule_0 ?_
  refine kr_if_lt d_X9_rule_1 ?_ ?_
  · refine kr_const (v := (-1000000001)) d_X9_rule_9 ?_
    exact kr_ireturn d_X9_rule_11 rfl
  · refine kr_iload1 d_X9_rule_4 ?_
    refine kr_const (v := 4) d_X9_rule_5 ?_
    refine kr_icmp_le d_X9_rule_6 ?_ ?_
    · refine kr_aload0 d_X9_rule_12 ?_
      refine kr_getR (q := 79) d_X9_rule_13 fl_X9_21 sh_0 rfl ?_
      refine kr_getI d_X9_rule_16 fl_X9_179 sh_79 rfl ?_
      refine kr_vl (fun e1 => ?_)
      refine kr_istore2 d_X9_rule_19 (Nat.le_of_ble_eq_true rfl) kv_c1i ?_
      refine kr_aload0 d_X9_rule_20 ?_
      refine kr_getR (q := 79) d_X9_rule_21 fl_X9_21 sh_0 rfl ?_
      refine kr_iload1 d_X9_rule_24 ?_
      refine kr_putI d_X9_rule_25 fp_X9_179 sh_79 rfl rfl rfl ?_
      refine kr_hl (fun h2 => ?_)
      refine kr_iload2 d_X9_rule_28 ?_
      exact kr_ireturn d_X9_rule_29 rfl
    · refine kr_const (v := (-1000000001)) d_X9_rule_9 ?_
      exact kr_ireturn d_X9_rule_11 rfl

/-! X9_care -/
def f_X9_care (x1 : Int32) (h : kv_H) : Option (Int32 × kv_H) :=
  if x1 < 0 then (some ((-1000000001), h))
  else (if x1 ≤ (1 : Int32) then (kv_vl (h 79 9) (fun e1 =>
      kv_hl (kv_up h 79 9 x1) (fun h2 =>
      some (e1, h2))))
    else (some ((-1000000001), h)))
set_option maxRecDepth 20000 in
theorem m_X9_care (x1 : Int32) (h : kv_H) : kv_M kv_i kK_X9_care [.ref 0, .int x1] h (f_X9_care x1 h) := by
  refine kv_met (ls := [some (.ref 0), some (.int x1), none]) (show plainName RX9 = true by decide +kernel) (fun _ => rfl) (fun _ => Nat.le_of_ble_eq_true rfl) ?_
  unfold f_X9_care
  refine kr_iload1 d_X9_care_0 ?_
  refine kr_if_lt d_X9_care_1 ?_ ?_
  · refine kr_const (v := (-1000000001)) d_X9_care_9 ?_
    exact kr_ireturn d_X9_care_11 rfl
  · refine kr_iload1 d_X9_care_4 ?_
    refine kr_const (v := 1) d_X9_care_5 ?_
    refine kr_icmp_le d_X9_care_6 ?_ ?_
    · refine kr_aload0 d_X9_care_12 ?_
      refine kr_getR (q := 79) d_X9_care_13 fl_X9_21 sh_0 rfl ?_
      refine kr_getI d_X9_care_16 fl_X9_182 sh_79 rfl ?_
      refine kr_vl (fun e1 => ?_)
      refine kr_istore2 d_X9_care_19 (Nat.le_of_ble_eq_true rfl) kv_c1i ?_
      refine kr_aload0 d_X9_care_20 ?_
      refine kr_getR (q := 79) d_X9_care_21 fl_X9_21 sh_0 rfl ?_
      refine kr_iload1 d_X9_care_24 ?_
      refine kr_putI d_X9_care_25 fp_X9_182 sh_79 rfl rfl rfl ?_
      refine kr_hl (fun h2 => ?_)
      refine kr_iload2 d_X9_care_28 ?_
      exact kr_ireturn d_X9_care_29 rfl
    · refine kr_const (v := (-1000000001)) d_X9_care_9 ?_
      exact kr_ireturn d_X9_care_11 rfl

/-! X9_want -/
def f_X9_want (x1 : Int32) (h : kv_H) : Option (Int32 × kv_H) :=
  kv_b (f_X9_isLeaf x1 h) (fun r2 h1 =>
  if r2 = 0 then (some ((-1000000001), h1))
  else (kv_b (f_X8_asking 79 91 x1 h1) (fun r4 h3 =>
    some (r4, h3))))
set_option maxRecDepth 20000 in
theorem m_X9_want (x1 : Int32) (h : kv_H) : kv_M kv_i kK_X9_want [.ref 0, .int x1] h (f_X9_want x1 h) := by
  refine kv_met (ls := [some (.ref 0), some (.int x1)]) (show plainName RX9 = true by decide +kernel) (fun _ => rfl) (fun _ => Nat.le_of_ble_eq_true rfl) ?_
  unfold f_X9_want
  refine kr_aload0 d_X9_want_0 ?_
  refine kr_iload1 d_X9_want_1 ?_
  refine kr_iv_i (As := [.int x1]) d_X9_want_2 cl_X9_106 (m_X9_isLeaf x1 h) sh_0 (Nat.le_of_ble_eq_true rfl) rfl (Nat.le_of_ble_eq_true rfl) (fun r2 h1 => ?_)
  refine kr_if_eq d_X9_want_5 ?_ ?_
  · refine kr_const (v := (-1000000001)) d_X9_want_26 ?_
    exact kr_ireturn d_X9_want_28 rfl
  · refine kr_aload0 d_X9_want_8 ?_
    refine kr_getR (q := 79) d_X9_want_9 fl_X9_21 sh_0 rfl ?_
    refine kr_aload0 d_X9_want_12 ?_
    refine kr_getR (q := 79) d_X9_want_13 fl_X9_21 sh_0 rfl ?_
    refine kr_getR (q := 91) d_X9_want_16 fl_X9_109 sh_79 rfl ?_
    refine kr_iload1 d_X9_want_19 ?_
    refine kr_iv_i (As := [.ref 91, .int x1]) d_X9_want_20 cl_X9_185 (m_X8_asking 79 wo_79 91 co_91 x1 h1) sh_79 (Nat.le_of_ble_eq_true rfl) rfl (Nat.le_of_ble_eq_true rfl) (fun r4 h3 => ?_)
    refine kr_goto d_X9_want_23 ?_
    exact kr_ireturn d_X9_want_28 rfl

/-! X9_next -/
def f_X9_next (h : kv_H) : Option (Int32 × kv_H) :=
  kv_vl (h 91 7) (fun e1 =>
  kv_b (f_X8_thrownPlace 79 91 h) (fun r3 h2 =>
  kv_hl (kv_up h2 91 7 e1) (fun h4 =>
  kv_b (f_X0_leafAt 91 r3 h4) (fun r6 h5 =>
  some (r6, h5)))))
set_option maxRecDepth 20000 in
theorem m_X9_next (h : kv_H) : kv_M kv_i kK_X9_next [.ref 0] h (f_X9_next h) := by
  refine kv_met (ls := [some (.ref 0), none, none]) (show plainName RX9 = true by decide +kernel) (fun _ => rfl) (fun _ => Nat.le_of_ble_eq_true rfl) ?_
  unfold f_X9_next
  refine kr_aload0 d_X9_next_0 ?_
  refine kr_getR (q := 79) d_X9_next_1 fl_X9_21 sh_0 rfl ?_
  refine kr_getR (q := 91) d_X9_next_4 fl_X9_109 sh_79 rfl ?_
  refine kr_getI d_X9_next_7 fl_X9_188 sh_91 rfl ?_
  refine kr_vl (fun e1 => ?_)
  refine kr_istore1 d_X9_next_10 (Nat.le_of_ble_eq_true rfl) kv_c1a ?_
  refine kr_aload0 d_X9_next_11 ?_
  refine kr_getR (q := 79) d_X9_next_12 fl_X9_21 sh_0 rfl ?_
  refine kr_aload0 d_X9_next_15 ?_
  refine kr_getR (q := 79) d_X9_next_16 fl_X9_21 sh_0 rfl ?_
  refine kr_getR (q := 91) d_X9_next_19 fl_X9_109 sh_79 rfl ?_
  refine kr_iv_i (As := [.ref 91]) d_X9_next_22 cl_X9_191 (m_X8_thrownPlace 79 wo_79 91 co_91 h) sh_79 (Nat.le_of_ble_eq_true rfl) rfl (Nat.le_of_ble_eq_true rfl) (fun r3 h2 => ?_)
  refine kr_istore2 d_X9_next_25 (Nat.le_of_ble_eq_true rfl) kv_c1i ?_
  refine kr_aload0 d_X9_next_26 ?_
  refine kr_getR (q := 79) d_X9_next_27 fl_X9_21 sh_0 rfl ?_
  refine kr_getR (q := 91) d_X9_next_30 fl_X9_109 sh_79 rfl ?_
  refine kr_iload1 d_X9_next_33 ?_
  refine kr_putI d_X9_next_34 fp_X9_188 sh_91 rfl rfl rfl ?_
  refine kr_hl (fun h4 => ?_)
  refine kr_aload0 d_X9_next_37 ?_
  refine kr_getR (q := 79) d_X9_next_38 fl_X9_21 sh_0 rfl ?_
  refine kr_getR (q := 91) d_X9_next_41 fl_X9_109 sh_79 rfl ?_
  refine kr_iload2 d_X9_next_44 ?_
  refine kr_iv_i (As := [.int r3]) d_X9_next_45 cl_X9_195 (m_X0_leafAt 91 co_91 r3 h4) sh_91 (Nat.le_of_ble_eq_true rfl) rfl (Nat.le_of_ble_eq_true rfl) (fun r6 h5 => ?_)
  exact kr_ireturn d_X9_next_48 rfl

/-! X9_out -/
def f_X9_out (x1 : Int32) (h : kv_H) : Option (Int32 × kv_H) :=
  kv_b (f_X9_isLeaf x1 h) (fun r2 h1 =>
  if r2 = 0 then (some ((-1000000001), h1))
  else (kv_b (f_X0_leave 91 x1 h1) (fun r4 h3 =>
    if r4 = 0 then (some (0, h3))
    else (some (1, h3)))))
set_option maxRecDepth 20000 in
theorem m_X9_out (x1 : Int32) (h : kv_H) : kv_M kv_i kK_X9_out [.ref 0, .int x1] h (f_X9_out x1 h) := by
  refine kv_met (ls := [some (.ref 0), some (.int x1)]) (show plainName RX9 = true by decide +kernel) (fun _ => rfl) (fun _ => Nat.le_of_ble_eq_true rfl) ?_
  unfold f_X9_out
  refine kr_aload0 d_X9_out_0 ?_
  refine kr_iload1 d_X9_out_1 ?_
  refine kr_iv_i (As := [.int x1]) d_X9_out_2 cl_X9_106 (m_X9_isLeaf x1 h) sh_0 (Nat.le_of_ble_eq_true rfl) rfl (Nat.le_of_ble_eq_true rfl) (fun r2 h1 => ?_)
  refine kr_if_ne d_X9_out_5 ?_ ?_
  · refine kr_aload0 d_X9_out_11 ?_
    refine kr_getR (q := 79) d_X9_out_12 fl_X9_21 sh_0 rfl ?_
    refine kr_getR (q := 91) d_X9_out_15 fl_X9_109 sh_79 rfl ?_
    refine kr_iload1 d_X9_out_18 ?_
    refine kr_iv_i (As := [.int x1]) d_X9_out_19 cl_X9_198 (m_X0_leave 91 co_91 x1 h1) sh_91 (Nat.le_of_ble_eq_true rfl) rfl (Nat.le_of_ble_eq_true rfl) (fun r4 h3 => ?_)
    refine kr_if_eq d_X9_out_22 ?_ ?_
    · refine kr_const (v := 0) d_X9_out_29 ?_
      exact kr_ireturn d_X9_out_30 rfl
    · refine kr_const (v := 1) d_X9_out_25 ?_
      refine kr_goto d_X9_out_26 ?_
      exact kr_ireturn d_X9_out_30 rfl
  · refine kr_const (v := (-1000000001)) d_X9_out_8 ?_
    exact kr_ireturn d_X9_out_10 rfl

/-! X9_at -/
def f_X9_at (x1 : Int32) (h : kv_H) : Option (Int32 × kv_H) :=
  if 0 ≤ x1 then (kv_b (f_X0_leafAt 91 x1 h) (fun r2 h1 =>
    some (r2, h1)))
  else (some ((-1000000001), h))
set_option maxRecDepth 20000 in
theorem m_X9_at (x1 : Int32) (h : kv_H) : kv_M kv_i kK_X9_at [.ref 0, .int x1] h (f_X9_at x1 h) := by
  refine kv_met (ls := [some (.ref 0), some (.int x1)]) (show plainName RX9 = true by decide +kernel) (fun _ => rfl) (fun _ => Nat.le_of_ble_eq_true rfl) ?_
  unfold f_X9_at
  refine kr_iload1 d_X9_at_0 ?_
  refine kr_if_ge d_X9_at_1 ?_ ?_
  · refine kr_aload0 d_X9_at_9 ?_
    refine kr_getR (q := 79) d_X9_at_10 fl_X9_21 sh_0 rfl ?_
    refine kr_getR (q := 91) d_X9_at_13 fl_X9_109 sh_79 rfl ?_
    refine kr_iload1 d_X9_at_16 ?_
    refine kr_iv_i (As := [.int x1]) d_X9_at_17 cl_X9_195 (m_X0_leafAt 91 co_91 x1 h) sh_91 (Nat.le_of_ble_eq_true rfl) rfl (Nat.le_of_ble_eq_true rfl) (fun r2 h1 => ?_)
    exact kr_ireturn d_X9_at_20 rfl
  · refine kr_const (v := (-1000000001)) d_X9_at_4 ?_
    refine kr_goto d_X9_at_6 ?_
    exact kr_ireturn d_X9_at_20 rfl

/-! X9_fire -/
def f_X9_fire_L18 (c1 : Int32) : Nat → Int32 → Int32 → kv_H → (Int32 → kv_H → Option (Int32 × kv_H)) → Option (Int32 × kv_H)
  | 0, _, _, _, _ => none
  | n + 1, v2, v3, h, C => if c1 ≤ v3 then (C v2 h)
    else (kv_b (f_X0_draw 91 h) (fun r2 h1 =>
      kv_b (f_X0_leave 91 (r2 - r2 / 8 * 8) h1) (fun r4 h3 =>
      if r4 = 0 then (f_X9_fire_L18 c1 n v2 (v3 + 1) h3 C)
      else (f_X9_fire_L18 c1 n (v2 + 1) (v3 + 1) h3 C))))
def f_X9_fire (x1 : Int32) (h : kv_H) : Option (Int32 × kv_H) :=
  if x1 < (1 : Int32) then (some ((-1000000001), h))
  else (if x1 ≤ (20 : Int32) then (f_X9_fire_L18 x1 kv_fu 0 0 h (fun z5 h6 =>
      some (z5, h6)))
    else (some ((-1000000001), h)))
set_option maxRecDepth 20000 in
theorem s_f_X9_fire_L18 (c1 : Int32) : ∀ (n : Nat) (v2 : Int32) (v3 : Int32) (h : kv_H) (C : Int32 → kv_H → Option (Int32 × kv_H)), (∀ (w2 : Int32) (h : kv_H), kv_S kv_i kK_X9_fire 58 [none, none, some (.int w2), none] [] h (C w2 h)) → kv_S kv_i kK_X9_fire 18 [some (.ref 0), some (.int c1), some (.int v2), some (.int v3)] [] h (f_X9_fire_L18 c1 n v2 v3 h C) := by
  intro n
  induction n with
  | zero => intros; exact kv_none
  | succ n ih =>
    intro v2 v3 h C hC
    unfold f_X9_fire_L18
    refine kr_iload3 d_X9_fire_18 ?_
    refine kr_iload1 d_X9_fire_19 ?_
    refine kr_icmp_ge d_X9_fire_20 ?_ ?_
    · refine kr_kill0 ?_
      refine kr_kill1 ?_
      refine kr_kill3 ?_
      exact hC v2 h
    · refine kr_aload0 d_X9_fire_23 ?_
      refine kr_getR (q := 79) d_X9_fire_24 fl_X9_21 sh_0 rfl ?_
      refine kr_getR (q := 91) d_X9_fire_27 fl_X9_109 sh_79 rfl ?_
      refine kr_aload0 d_X9_fire_30 ?_
      refine kr_getR (q := 79) d_X9_fire_31 fl_X9_21 sh_0 rfl ?_
      refine kr_getR (q := 91) d_X9_fire_34 fl_X9_109 sh_79 rfl ?_
      refine kr_iv_i (As := []) d_X9_fire_37 cl_X9_201 (m_X0_draw 91 co_91 h) sh_91 (Nat.le_of_ble_eq_true rfl) rfl (Nat.le_of_ble_eq_true rfl) (fun r2 h1 => ?_)
      refine kr_const (v := 8) d_X9_fire_40 ?_
      refine kr_iremK (by decide) d_X9_fire_42 ?_
      refine kr_iv_i (As := [.int (r2 - r2 / 8 * 8)]) d_X9_fire_43 cl_X9_198 (m_X0_leave 91 co_91 (r2 - r2 / 8 * 8) h1) sh_91 (Nat.le_of_ble_eq_true rfl) rfl (Nat.le_of_ble_eq_true rfl) (fun r4 h3 => ?_)
      refine kr_if_eq d_X9_fire_46 ?_ ?_
      · refine kr_iinc3 d_X9_fire_52 (Nat.le_of_ble_eq_true rfl) kv_c1i ?_
        refine kr_goto d_X9_fire_55 ?_
        exact ih v2 (v3 + 1) h3 C hC
      · refine kr_iinc2 d_X9_fire_49 (Nat.le_of_ble_eq_true rfl) kv_c1i ?_
        refine kr_iinc3 d_X9_fire_52 (Nat.le_of_ble_eq_true rfl) kv_c1i ?_
        refine kr_goto d_X9_fire_55 ?_
        exact ih (v2 + 1) (v3 + 1) h3 C hC

set_option maxRecDepth 20000 in
theorem m_X9_fire (x1 : Int32) (h : kv_H) : kv_M kv_i kK_X9_fire [.ref 0, .int x1] h (f_X9_fire x1 h) := by
  refine kv_met (ls := [some (.ref 0), some (.int x1), none, none]) (show plainName RX9 = true by decide +kernel) (fun _ => rfl) (fun _ => Nat.le_of_ble_eq_true rfl) ?_
  unfold f_X9_fire
  refine kr_iload1 d_X9_fire_0 ?_
  refine kr_const (v := 1) d_X9_fire_1 ?_
  refine kr_icmp_lt d_X9_fire_2 ?_ ?_
  · refine kr_const (v := (-1000000001)) d_X9_fire_11 ?_
    exact kr_ireturn d_X9_fire_13 rfl
  · refine kr_iload1 d_X9_fire_5 ?_
    refine kr_const (v := 20) d_X9_fire_6 ?_
    refine kr_icmp_le d_X9_fire_8 ?_ ?_
    · refine kr_const (v := 0) d_X9_fire_14 ?_
      refine kr_istore2 d_X9_fire_15 (Nat.le_of_ble_eq_true rfl) kv_c1i ?_
      refine kr_const (v := 0) d_X9_fire_16 ?_
      refine kr_istore3 d_X9_fire_17 (Nat.le_of_ble_eq_true rfl) kv_c1i ?_
      refine s_f_X9_fire_L18 x1 kv_fu 0 0 h _ (fun z5 h6 => ?_)
      refine kr_iload2 d_X9_fire_58 ?_
      exact kr_ireturn d_X9_fire_59 rfl
    · refine kr_const (v := (-1000000001)) d_X9_fire_11 ?_
      exact kr_ireturn d_X9_fire_13 rfl

/-! X9_seed -/
def f_X9_seed (x1 : Int32) (h : kv_H) : Option (Int32 × kv_H) :=
  kv_vl (h 91 7) (fun e1 =>
  kv_hl (kv_up h 91 7 x1) (fun h2 =>
  some (e1, h2)))
set_option maxRecDepth 20000 in
theorem m_X9_seed (x1 : Int32) (h : kv_H) : kv_M kv_i kK_X9_seed [.ref 0, .int x1] h (f_X9_seed x1 h) := by
  refine kv_met (ls := [some (.ref 0), some (.int x1), none]) (show plainName RX9 = true by decide +kernel) (fun _ => rfl) (fun _ => Nat.le_of_ble_eq_true rfl) ?_
  unfold f_X9_seed
  refine kr_aload0 d_X9_seed_0 ?_
  refine kr_getR (q := 79) d_X9_seed_1 fl_X9_21 sh_0 rfl ?_
  refine kr_getR (q := 91) d_X9_seed_4 fl_X9_109 sh_79 rfl ?_
  refine kr_getI d_X9_seed_7 fl_X9_188 sh_91 rfl ?_
  refine kr_vl (fun e1 => ?_)
  refine kr_istore2 d_X9_seed_10 (Nat.le_of_ble_eq_true rfl) kv_c1i ?_
  refine kr_aload0 d_X9_seed_11 ?_
  refine kr_getR (q := 79) d_X9_seed_12 fl_X9_21 sh_0 rfl ?_
  refine kr_getR (q := 91) d_X9_seed_15 fl_X9_109 sh_79 rfl ?_
  refine kr_iload1 d_X9_seed_18 ?_
  refine kr_putI d_X9_seed_19 fp_X9_188 sh_91 rfl rfl rfl ?_
  refine kr_hl (fun h2 => ?_)
  refine kr_iload2 d_X9_seed_22 ?_
  exact kr_ireturn d_X9_seed_23 rfl

/-! X9_plan -/
def f_X9_plan (x1 : Int32) (h : kv_H) : Option (Int32 × kv_H) :=
  kv_b (f_X9_isLeaf x1 h) (fun r2 h1 =>
  if r2 = 0 then (some ((-1000000001), h1))
  else (kv_b (f_X8_addAsking 79 x1 h1) (fun r4 h3 =>
    if r4 = 0 then (some ((-1000000003), h3))
    else (some ((h3 79 5), h3)))))
set_option maxRecDepth 20000 in
theorem m_X9_plan (x1 : Int32) (h : kv_H) : kv_M kv_i kK_X9_plan [.ref 0, .int x1] h (f_X9_plan x1 h) := by
  refine kv_met (ls := [some (.ref 0), some (.int x1)]) (show plainName RX9 = true by decide +kernel) (fun _ => rfl) (fun _ => Nat.le_of_ble_eq_true rfl) ?_
  unfold f_X9_plan
  refine kr_aload0 d_X9_plan_0 ?_
  refine kr_iload1 d_X9_plan_1 ?_
  refine kr_iv_i (As := [.int x1]) d_X9_plan_2 cl_X9_106 (m_X9_isLeaf x1 h) sh_0 (Nat.le_of_ble_eq_true rfl) rfl (Nat.le_of_ble_eq_true rfl) (fun r2 h1 => ?_)
  refine kr_if_ne d_X9_plan_5 ?_ ?_
  · refine kr_aload0 d_X9_plan_11 ?_
    refine kr_getR (q := 79) d_X9_plan_12 fl_X9_21 sh_0 rfl ?_
    refine kr_iload1 d_X9_plan_15 ?_
    refine kr_iv_i (As := [.int x1]) d_X9_plan_16 cl_X9_205 (m_X8_addAsking 79 wo_79 x1 h1) sh_79 (Nat.le_of_ble_eq_true rfl) rfl (Nat.le_of_ble_eq_true rfl) (fun r4 h3 => ?_)
    refine kr_if_eq d_X9_plan_19 ?_ ?_
    · refine kr_const (v := (-1000000003)) d_X9_plan_32 ?_
      exact kr_ireturn d_X9_plan_34 rfl
    · refine kr_aload0 d_X9_plan_22 ?_
      refine kr_getR (q := 79) d_X9_plan_23 fl_X9_21 sh_0 rfl ?_
      refine kr_getI d_X9_plan_26 fl_X9_208 sh_79 rfl ?_
      refine kr_goto d_X9_plan_29 ?_
      exact kr_ireturn d_X9_plan_34 rfl
  · refine kr_const (v := (-1000000001)) d_X9_plan_8 ?_
    exact kr_ireturn d_X9_plan_10 rfl

/-! X9_clear -/
def f_X9_clear (h : kv_H) : Option (Int32 × kv_H) :=
  kv_vl (h 79 5) (fun e1 =>
  kv_hl (kv_up h 79 5 0) (fun h2 =>
  some (e1, h2)))
set_option maxRecDepth 20000 in
theorem m_X9_clear (h : kv_H) : kv_M kv_i kK_X9_clear [.ref 0] h (f_X9_clear h) := by
  refine kv_met (ls := [some (.ref 0), none]) (show plainName RX9 = true by decide +kernel) (fun _ => rfl) (fun _ => Nat.le_of_ble_eq_true rfl) ?_
  unfold f_X9_clear
  refine kr_aload0 d_X9_clear_0 ?_
  refine kr_getR (q := 79) d_X9_clear_1 fl_X9_21 sh_0 rfl ?_
  refine kr_getI d_X9_clear_4 fl_X9_208 sh_79 rfl ?_
  refine kr_vl (fun e1 => ?_)
  refine kr_istore1 d_X9_clear_7 (Nat.le_of_ble_eq_true rfl) kv_c1a ?_
  refine kr_aload0 d_X9_clear_8 ?_
  refine kr_getR (q := 79) d_X9_clear_9 fl_X9_21 sh_0 rfl ?_
  refine kr_const (v := 0) d_X9_clear_12 ?_
  refine kr_putI d_X9_clear_13 fp_X9_208 sh_79 rfl rfl rfl ?_
  refine kr_hl (fun h2 => ?_)
  refine kr_iload1 d_X9_clear_16 ?_
  exact kr_ireturn d_X9_clear_17 rfl

/-! X9_run -/
def f_X9_run (x1 : Int32) (h : kv_H) : Option (Int32 × kv_H) :=
  if x1 < (1 : Int32) then (some ((-1000000001), h))
  else (if x1 ≤ (24 : Int32) then (if x1 ≤ (h 79 5) then (kv_b (f_X8_makeAskings 79 91 80 24 x1 h) (fun r2 h1 =>
        some (r2, h1)))
      else (some ((-1000000002), h)))
    else (some ((-1000000001), h)))
set_option maxRecDepth 20000 in
theorem m_X9_run (x1 : Int32) (h : kv_H) : kv_M kv_i kK_X9_run [.ref 0, .int x1] h (f_X9_run x1 h) := by
  refine kv_met (ls := [some (.ref 0), some (.int x1)]) (show plainName RX9 = true by decide +kernel) (fun _ => rfl) (fun _ => Nat.le_of_ble_eq_true rfl) ?_
  unfold f_X9_run
  refine kr_iload1 d_X9_run_0 ?_
  refine kr_const (v := 1) d_X9_run_1 ?_
  refine kr_icmp_lt d_X9_run_2 ?_ ?_
  · refine kr_const (v := (-1000000001)) d_X9_run_11 ?_
    exact kr_ireturn d_X9_run_13 rfl
  · refine kr_iload1 d_X9_run_5 ?_
    refine kr_const (v := 24) d_X9_run_6 ?_
    refine kr_icmp_le d_X9_run_8 ?_ ?_
    · refine kr_iload1 d_X9_run_14 ?_
      refine kr_aload0 d_X9_run_15 ?_
      refine kr_getR (q := 79) d_X9_run_16 fl_X9_21 sh_0 rfl ?_
      refine kr_getI d_X9_run_19 fl_X9_208 sh_79 rfl ?_
      refine kr_icmp_le d_X9_run_22 ?_ ?_
      · refine kr_aload0 d_X9_run_28 ?_
        refine kr_getR (q := 79) d_X9_run_29 fl_X9_21 sh_0 rfl ?_
        refine kr_aload0 d_X9_run_32 ?_
        refine kr_getR (q := 79) d_X9_run_33 fl_X9_21 sh_0 rfl ?_
        refine kr_getR (q := 91) d_X9_run_36 fl_X9_109 sh_79 rfl ?_
        refine kr_aload0 d_X9_run_39 ?_
        refine kr_getR (q := 79) d_X9_run_40 fl_X9_21 sh_0 rfl ?_
        refine kr_getR (q := 80) d_X9_run_43 fl_X9_213 sh_79 rfl ?_
        refine kr_iload1 d_X9_run_46 ?_
        refine kr_iv_i (As := [.ref 91, .ref 80, .int x1]) d_X9_run_47 cl_X9_216 (m_X8_makeAskings 79 wo_79 91 co_91 80 24 sh_80 x1 h) sh_79 (Nat.le_of_ble_eq_true rfl) rfl (Nat.le_of_ble_eq_true rfl) (fun r2 h1 => ?_)
        exact kr_ireturn d_X9_run_50 rfl
      · refine kr_const (v := (-1000000002)) d_X9_run_25 ?_
        exact kr_ireturn d_X9_run_27 rfl
    · refine kr_const (v := (-1000000001)) d_X9_run_11 ?_
      exact kr_ireturn d_X9_run_13 rfl

/-! X9_would -/
def f_X9_would (h : kv_H) : Option (Int32 × kv_H) :=
  kv_b (f_X0_becomes 6 91 h) (fun _ h1 =>
  kv_b (f_X8_makeAskings 79 6 80 24 (h1 79 5) h1) (fun r3 h2 =>
  some (r3, h2)))
set_option maxRecDepth 20000 in
theorem m_X9_would (h : kv_H) : kv_M kv_i kK_X9_would [.ref 0] h (f_X9_would h) := by
  refine kv_met (ls := [some (.ref 0), none]) (show plainName RX9 = true by decide +kernel) (fun _ => rfl) (fun _ => Nat.le_of_ble_eq_true rfl) ?_
  unfold f_X9_would
  refine kr_aload0 d_X9_would_0 ?_
  refine kr_getR (q := 1) d_X9_would_1 fl_X9_44 sh_0 rfl ?_
  refine kr_const (v := 0) d_X9_would_4 ?_
  refine kr_aaloadC (j := 0) (q := 6) ⟨by decide, by decide, by decide⟩ rfl d_X9_would_5 sh_1 (Or.inl rfl) ?_
  refine kr_astore1 d_X9_would_6 (Nat.le_of_ble_eq_true rfl) kv_c1a ?_
  refine kr_aload1 d_X9_would_7 ?_
  refine kr_aload0 d_X9_would_8 ?_
  refine kr_getR (q := 79) d_X9_would_9 fl_X9_21 sh_0 rfl ?_
  refine kr_getR (q := 91) d_X9_would_12 fl_X9_109 sh_79 rfl ?_
  refine kr_iv_u (As := [.ref 91]) d_X9_would_15 cl_X9_220 (m_X0_becomes 6 co_6 91 co_91 h) sh_6 (Nat.le_of_ble_eq_true rfl) rfl (Nat.le_of_ble_eq_true rfl) (fun h1 => ?_)
  refine kr_aload0 d_X9_would_18 ?_
  refine kr_getR (q := 79) d_X9_would_19 fl_X9_21 sh_0 rfl ?_
  refine kr_aload1 d_X9_would_22 ?_
  refine kr_aload0 d_X9_would_23 ?_
  refine kr_getR (q := 79) d_X9_would_24 fl_X9_21 sh_0 rfl ?_
  refine kr_getR (q := 80) d_X9_would_27 fl_X9_213 sh_79 rfl ?_
  refine kr_aload0 d_X9_would_30 ?_
  refine kr_getR (q := 79) d_X9_would_31 fl_X9_21 sh_0 rfl ?_
  refine kr_getI d_X9_would_34 fl_X9_208 sh_79 rfl ?_
  refine kr_iv_i (As := [.ref 6, .ref 80, .int (h1 79 5)]) d_X9_would_37 cl_X9_216 (m_X8_makeAskings 79 wo_79 6 co_6 80 24 sh_80 (h1 79 5) h1) sh_79 (Nat.le_of_ble_eq_true rfl) rfl (Nat.le_of_ble_eq_true rfl) (fun r3 h2 => ?_)
  exact kr_ireturn d_X9_would_40 rfl

/-! X9_least -/
def f_X9_least (x1 : Int32) (h : kv_H) : Option (Int32 × kv_H) :=
  if x1 < 0 then (some ((-1000000001), h))
  else (if x1 ≤ (1 : Int32) then (kv_b (f_X2_fillRooms 82 h) (fun _ h1 =>
      kv_b (f_X2_foresee 79 80 24 (h1 79 5) h1) (fun _ h2 =>
      if x1 = 0 then (some ((h2 44 2), h2))
      else (some ((h2 44 3), h2)))))
    else (some ((-1000000001), h)))
set_option maxRecDepth 20000 in
theorem m_X9_least (x1 : Int32) (h : kv_H) : kv_M kv_i kK_X9_least [.ref 0, .int x1] h (f_X9_least x1 h) := by
  refine kv_met (ls := [some (.ref 0), some (.int x1)]) (show plainName RX9 = true by decide +kernel) (fun _ => rfl) (fun _ => Nat.le_of_ble_eq_true rfl) ?_
  unfold f_X9_least
  refine kr_iload1 d_X9_least_0 ?_
  refine kr_if_lt d_X9_least_1 ?_ ?_
  · refine kr_const (v := (-1000000001)) d_X9_least_9 ?_
    exact kr_ireturn d_X9_least_11 rfl
  · refine kr_iload1 d_X9_least_4 ?_
    refine kr_const (v := 1) d_X9_least_5 ?_
    refine kr_icmp_le d_X9_least_6 ?_ ?_
    · refine kr_aload0 d_X9_least_12 ?_
      refine kr_getR (q := 44) d_X9_least_13 fl_X9_38 sh_0 rfl ?_
      refine kr_aload0 d_X9_least_16 ?_
      refine kr_getR (q := 79) d_X9_least_17 fl_X9_21 sh_0 rfl ?_
      refine kr_getR (q := 82) d_X9_least_20 fl_X9_80 sh_79 rfl ?_
      refine kr_iv_u (As := [.ref 82]) d_X9_least_23 cl_X9_224 (m_X2_fillRooms 82 le_82 h) sh_44 (Nat.le_of_ble_eq_true rfl) rfl (Nat.le_of_ble_eq_true rfl) (fun h1 => ?_)
      refine kr_aload0 d_X9_least_26 ?_
      refine kr_getR (q := 44) d_X9_least_27 fl_X9_38 sh_0 rfl ?_
      refine kr_aload0 d_X9_least_30 ?_
      refine kr_getR (q := 79) d_X9_least_31 fl_X9_21 sh_0 rfl ?_
      refine kr_aload0 d_X9_least_34 ?_
      refine kr_getR (q := 79) d_X9_least_35 fl_X9_21 sh_0 rfl ?_
      refine kr_getR (q := 80) d_X9_least_38 fl_X9_213 sh_79 rfl ?_
      refine kr_aload0 d_X9_least_41 ?_
      refine kr_getR (q := 79) d_X9_least_42 fl_X9_21 sh_0 rfl ?_
      refine kr_getI d_X9_least_45 fl_X9_208 sh_79 rfl ?_
      refine kr_iv_u (As := [.ref 79, .ref 80, .int (h1 79 5)]) d_X9_least_48 cl_X9_228 (m_X2_foresee 79 wo_79 80 24 sh_80 (h1 79 5) h1) sh_44 (Nat.le_of_ble_eq_true rfl) rfl (Nat.le_of_ble_eq_true rfl) (fun h2 => ?_)
      refine kr_iload1 d_X9_least_51 ?_
      refine kr_if_ne d_X9_least_52 ?_ ?_
      · refine kr_aload0 d_X9_least_65 ?_
        refine kr_getR (q := 44) d_X9_least_66 fl_X9_38 sh_0 rfl ?_
        refine kr_getI d_X9_least_69 fl_X9_235 sh_44 rfl ?_
        exact kr_ireturn d_X9_least_72 rfl
      · refine kr_aload0 d_X9_least_55 ?_
        refine kr_getR (q := 44) d_X9_least_56 fl_X9_38 sh_0 rfl ?_
        refine kr_getI d_X9_least_59 fl_X9_232 sh_44 rfl ?_
        refine kr_goto d_X9_least_62 ?_
        exact kr_ireturn d_X9_least_72 rfl
    · refine kr_const (v := (-1000000001)) d_X9_least_9 ?_
      exact kr_ireturn d_X9_least_11 rfl

/-! X9_hold -/
def f_X9_hold (x1 : Int32) (h : kv_H) : Option (Int32 × kv_H) :=
  if x1 < 0 then (some ((-1000000001), h))
  else (if x1 < (1 <<< ((h 82 8) &&& 31)) then (kv_b (f_X1_roomsOf 82 x1 h) (fun r2 h1 =>
      if r2 ≤ (h1 79 7) then (kv_b (f_X1_heldOf 82 x1 h1) (fun r4 h3 =>
        some (r4, h3)))
      else (some ((-1000000002), h1))))
    else (some ((-1000000001), h)))
set_option maxRecDepth 20000 in
theorem m_X9_hold (x1 : Int32) (h : kv_H) : kv_M kv_i kK_X9_hold [.ref 0, .int x1] h (f_X9_hold x1 h) := by
  refine kv_met (ls := [some (.ref 0), some (.int x1)]) (show plainName RX9 = true by decide +kernel) (fun _ => rfl) (fun _ => Nat.le_of_ble_eq_true rfl) ?_
  unfold f_X9_hold
  refine kr_iload1 d_X9_hold_0 ?_
  refine kr_if_lt d_X9_hold_1 ?_ ?_
  · refine kr_const (v := (-1000000001)) d_X9_hold_20 ?_
    exact kr_ireturn d_X9_hold_22 rfl
  · refine kr_iload1 d_X9_hold_4 ?_
    refine kr_const (v := 1) d_X9_hold_5 ?_
    refine kr_aload0 d_X9_hold_6 ?_
    refine kr_getR (q := 79) d_X9_hold_7 fl_X9_21 sh_0 rfl ?_
    refine kr_getR (q := 82) d_X9_hold_10 fl_X9_80 sh_79 rfl ?_
    refine kr_getI d_X9_hold_13 fl_X9_84 sh_82 rfl ?_
    refine kr_ishl d_X9_hold_16 ?_
    refine kr_icmp_lt d_X9_hold_17 ?_ ?_
    · refine kr_aload0 d_X9_hold_23 ?_
      refine kr_getR (q := 79) d_X9_hold_24 fl_X9_21 sh_0 rfl ?_
      refine kr_getR (q := 82) d_X9_hold_27 fl_X9_80 sh_79 rfl ?_
      refine kr_iload1 d_X9_hold_30 ?_
      refine kr_iv_i (As := [.int x1]) d_X9_hold_31 cl_X9_238 (m_X1_roomsOf 82 le_82 x1 h) sh_82 (Nat.le_of_ble_eq_true rfl) rfl (Nat.le_of_ble_eq_true rfl) (fun r2 h1 => ?_)
      refine kr_aload0 d_X9_hold_34 ?_
      refine kr_getR (q := 79) d_X9_hold_35 fl_X9_21 sh_0 rfl ?_
      refine kr_getI d_X9_hold_38 fl_X9_172 sh_79 rfl ?_
      refine kr_icmp_le d_X9_hold_41 ?_ ?_
      · refine kr_aload0 d_X9_hold_49 ?_
        refine kr_getR (q := 79) d_X9_hold_50 fl_X9_21 sh_0 rfl ?_
        refine kr_getR (q := 82) d_X9_hold_53 fl_X9_80 sh_79 rfl ?_
        refine kr_iload1 d_X9_hold_56 ?_
        refine kr_iv_i (As := [.int x1]) d_X9_hold_57 cl_X9_241 (m_X1_heldOf 82 le_82 x1 h1) sh_82 (Nat.le_of_ble_eq_true rfl) rfl (Nat.le_of_ble_eq_true rfl) (fun r4 h3 => ?_)
        exact kr_ireturn d_X9_hold_60 rfl
      · refine kr_const (v := (-1000000002)) d_X9_hold_44 ?_
        refine kr_goto d_X9_hold_46 ?_
        exact kr_ireturn d_X9_hold_60 rfl
    · refine kr_const (v := (-1000000001)) d_X9_hold_20 ?_
      exact kr_ireturn d_X9_hold_22 rfl

/-! X9_best -/
def f_X9_best (x1 : Int32) (h : kv_H) : Option (Int32 × kv_H) :=
  if x1 < 0 then (some ((-1000000001), h))
  else (if x1 ≤ (1 : Int32) then (kv_b (f_X2_fillRooms 82 h) (fun _ h1 =>
      kv_b (f_X2_bestWithout 79 0 h1) (fun r3 h2 =>
      if x1 = 0 then (kv_b (f_X1_heldOf 82 r3 h2) (fun r5 h4 =>
        some (r5, h4)))
      else (some (r3, h2)))))
    else (some ((-1000000001), h)))
set_option maxRecDepth 20000 in
theorem m_X9_best (x1 : Int32) (h : kv_H) : kv_M kv_i kK_X9_best [.ref 0, .int x1] h (f_X9_best x1 h) := by
  refine kv_met (ls := [some (.ref 0), some (.int x1), none]) (show plainName RX9 = true by decide +kernel) (fun _ => rfl) (fun _ => Nat.le_of_ble_eq_true rfl) ?_
  unfold f_X9_best
  refine kr_iload1 d_X9_best_0 ?_
  refine kr_if_lt d_X9_best_1 ?_ ?_
  · refine kr_const (v := (-1000000001)) d_X9_best_9 ?_
    exact kr_ireturn d_X9_best_11 rfl
  · refine kr_iload1 d_X9_best_4 ?_
    refine kr_const (v := 1) d_X9_best_5 ?_
    refine kr_icmp_le d_X9_best_6 ?_ ?_
    · refine kr_aload0 d_X9_best_12 ?_
      refine kr_getR (q := 44) d_X9_best_13 fl_X9_38 sh_0 rfl ?_
      refine kr_aload0 d_X9_best_16 ?_
      refine kr_getR (q := 79) d_X9_best_17 fl_X9_21 sh_0 rfl ?_
      refine kr_getR (q := 82) d_X9_best_20 fl_X9_80 sh_79 rfl ?_
      refine kr_iv_u (As := [.ref 82]) d_X9_best_23 cl_X9_224 (m_X2_fillRooms 82 le_82 h) sh_44 (Nat.le_of_ble_eq_true rfl) rfl (Nat.le_of_ble_eq_true rfl) (fun h1 => ?_)
      refine kr_aload0 d_X9_best_26 ?_
      refine kr_getR (q := 44) d_X9_best_27 fl_X9_38 sh_0 rfl ?_
      refine kr_aload0 d_X9_best_30 ?_
      refine kr_getR (q := 79) d_X9_best_31 fl_X9_21 sh_0 rfl ?_
      refine kr_const (v := 0) d_X9_best_34 ?_
      refine kr_iv_i (As := [.ref 79, .int 0]) d_X9_best_35 cl_X9_244 (m_X2_bestWithout 79 wo_79 0 h1) sh_44 (Nat.le_of_ble_eq_true rfl) rfl (Nat.le_of_ble_eq_true rfl) (fun r3 h2 => ?_)
      refine kr_istore2 d_X9_best_38 (Nat.le_of_ble_eq_true rfl) kv_c1i ?_
      refine kr_iload1 d_X9_best_39 ?_
      refine kr_if_ne d_X9_best_40 ?_ ?_
      · refine kr_iload2 d_X9_best_57 ?_
        exact kr_ireturn d_X9_best_58 rfl
      · refine kr_aload0 d_X9_best_43 ?_
        refine kr_getR (q := 79) d_X9_best_44 fl_X9_21 sh_0 rfl ?_
        refine kr_getR (q := 82) d_X9_best_47 fl_X9_80 sh_79 rfl ?_
        refine kr_iload2 d_X9_best_50 ?_
        refine kr_iv_i (As := [.int r3]) d_X9_best_51 cl_X9_241 (m_X1_heldOf 82 le_82 r3 h2) sh_82 (Nat.le_of_ble_eq_true rfl) rfl (Nat.le_of_ble_eq_true rfl) (fun r5 h4 => ?_)
        refine kr_goto d_X9_best_54 ?_
        exact kr_ireturn d_X9_best_58 rfl
    · refine kr_const (v := (-1000000001)) d_X9_best_9 ?_
      exact kr_ireturn d_X9_best_11 rfl

/-! X9_price -/
def f_X9_price (x1 : Int32) (h : kv_H) : Option (Int32 × kv_H) :=
  kv_b (f_X9_isLeaf x1 h) (fun r2 h1 =>
  if r2 = 0 then (some ((-1000000001), h1))
  else (kv_b (f_X2_fillRooms 82 h1) (fun _ h3 =>
    kv_b (f_X2_bestWithout 79 0 h3) (fun r5 h4 =>
    kv_b (f_X1_heldOf 82 r5 h4) (fun r7 h6 =>
    kv_b (f_X2_bestWithout 79 (1 <<< (x1 &&& 31)) h6) (fun r9 h8 =>
    kv_b (f_X1_heldOf 82 r9 h8) (fun r11 h10 =>
    some ((r7 - r11), h10))))))))
set_option maxRecDepth 20000 in
theorem m_X9_price (x1 : Int32) (h : kv_H) : kv_M kv_i kK_X9_price [.ref 0, .int x1] h (f_X9_price x1 h) := by
  refine kv_met (ls := [some (.ref 0), some (.int x1), none]) (show plainName RX9 = true by decide +kernel) (fun _ => rfl) (fun _ => Nat.le_of_ble_eq_true rfl) ?_
  unfold f_X9_price
  refine kr_aload0 d_X9_price_0 ?_
  refine kr_iload1 d_X9_price_1 ?_
  refine kr_iv_i (As := [.int x1]) d_X9_price_2 cl_X9_106 (m_X9_isLeaf x1 h) sh_0 (Nat.le_of_ble_eq_true rfl) rfl (Nat.le_of_ble_eq_true rfl) (fun r2 h1 => ?_)
  refine kr_if_ne d_X9_price_5 ?_ ?_
  · refine kr_aload0 d_X9_price_11 ?_
    refine kr_getR (q := 44) d_X9_price_12 fl_X9_38 sh_0 rfl ?_
    refine kr_aload0 d_X9_price_15 ?_
    refine kr_getR (q := 79) d_X9_price_16 fl_X9_21 sh_0 rfl ?_
    refine kr_getR (q := 82) d_X9_price_19 fl_X9_80 sh_79 rfl ?_
    refine kr_iv_u (As := [.ref 82]) d_X9_price_22 cl_X9_224 (m_X2_fillRooms 82 le_82 h1) sh_44 (Nat.le_of_ble_eq_true rfl) rfl (Nat.le_of_ble_eq_true rfl) (fun h3 => ?_)
    refine kr_aload0 d_X9_price_25 ?_
    refine kr_getR (q := 79) d_X9_price_26 fl_X9_21 sh_0 rfl ?_
    refine kr_getR (q := 82) d_X9_price_29 fl_X9_80 sh_79 rfl ?_
    refine kr_aload0 d_X9_price_32 ?_
    refine kr_getR (q := 44) d_X9_price_33 fl_X9_38 sh_0 rfl ?_
    refine kr_aload0 d_X9_price_36 ?_
    refine kr_getR (q := 79) d_X9_price_37 fl_X9_21 sh_0 rfl ?_
    refine kr_const (v := 0) d_X9_price_40 ?_
    refine kr_iv_i (As := [.ref 79, .int 0]) d_X9_price_41 cl_X9_244 (m_X2_bestWithout 79 wo_79 0 h3) sh_44 (Nat.le_of_ble_eq_true rfl) rfl (Nat.le_of_ble_eq_true rfl) (fun r5 h4 => ?_)
    refine kr_iv_i (As := [.int r5]) d_X9_price_44 cl_X9_241 (m_X1_heldOf 82 le_82 r5 h4) sh_82 (Nat.le_of_ble_eq_true rfl) rfl (Nat.le_of_ble_eq_true rfl) (fun r7 h6 => ?_)
    refine kr_istore2 d_X9_price_47 (Nat.le_of_ble_eq_true rfl) kv_c1i ?_
    refine kr_iload2 d_X9_price_48 ?_
    refine kr_aload0 d_X9_price_49 ?_
    refine kr_getR (q := 79) d_X9_price_50 fl_X9_21 sh_0 rfl ?_
    refine kr_getR (q := 82) d_X9_price_53 fl_X9_80 sh_79 rfl ?_
    refine kr_aload0 d_X9_price_56 ?_
    refine kr_getR (q := 44) d_X9_price_57 fl_X9_38 sh_0 rfl ?_
    refine kr_aload0 d_X9_price_60 ?_
    refine kr_getR (q := 79) d_X9_price_61 fl_X9_21 sh_0 rfl ?_
    refine kr_const (v := 1) d_X9_price_64 ?_
    refine kr_iload1 d_X9_price_65 ?_
    refine kr_ishl d_X9_price_66 ?_
    refine kr_iv_i (As := [.ref 79, .int (1 <<< (x1 &&& 31))]) d_X9_price_67 cl_X9_244 (m_X2_bestWithout 79 wo_79 (1 <<< (x1 &&& 31)) h6) sh_44 (Nat.le_of_ble_eq_true rfl) rfl (Nat.le_of_ble_eq_true rfl) (fun r9 h8 => ?_)
    refine kr_iv_i (As := [.int r9]) d_X9_price_70 cl_X9_241 (m_X1_heldOf 82 le_82 r9 h8) sh_82 (Nat.le_of_ble_eq_true rfl) rfl (Nat.le_of_ble_eq_true rfl) (fun r11 h10 => ?_)
    refine kr_isub d_X9_price_73 ?_
    exact kr_ireturn d_X9_price_74 rfl
  · refine kr_const (v := (-1000000001)) d_X9_price_8 ?_
    exact kr_ireturn d_X9_price_10 rfl

/-! grp_mb -/
def f_X9_meansBehindB_L28 (rc : Nat → Int32 → Int64 → kv_H → Option (Int64 × kv_H)) (q1 : Nat) (c2 : Int32) (c3 : Int64) (q5 : Nat) : Nat → Int64 → Int32 → kv_H → (Int64 → kv_H → Option (Int64 × kv_H)) → Option (Int64 × kv_H)
  | 0, _, _, _, _ => none
  | n + 1, v6, v8, h, C => if (h 82 8) ≤ v8 then (C v6 h)
    else (kv_k v8 8 (kv_vL (c3 * ((h 86 v8.toNatClampNeg).toInt64)) (fun e2 =>
      if (lg_cmp e2 0) = 0 then (f_X9_meansBehindB_L28 rc q1 c2 c3 q5 n v6 (v8 + 1) h C)
      else (kv_b (f_X0_becomes q5 q1 h) (fun _ h3 =>
        kv_b (f_X8_asking 79 q5 v8 h3) (fun r5 h4 =>
        if c2 = (1 : Int32) then (kv_vL (v6 + (e2 * (((h4 q5 6) - (h4 91 6)).toInt64))) (fun e9 =>
          f_X9_meansBehindB_L28 rc q1 c2 c3 q5 n e9 (v8 + 1) h4 C))
        else (kv_b (rc q5 (c2 - 1) e2 h4) (fun r7 h6 =>
          kv_vL (v6 + r7) (fun e8 =>
          f_X9_meansBehindB_L28 rc q1 c2 c3 q5 n e8 (v8 + 1) h6 C)))))))))
def f_X9_meansBehindB (rc : Nat → Int32 → Int64 → kv_H → Option (Int64 × kv_H)) (k1 : Nat) (x2 : Int32) (x3 : Int64) (h : kv_H) : Option (Int64 × kv_H) :=
  if x2 < (1 : Int32) then (some (0, h))
  else (if x2 ≤ (3 : Int32) then (kv_k (x2 - 1) 3 (f_X9_meansBehindB_L28 rc k1 x2 x3 (6 + 4 * (x2 - 1).toNatClampNeg) kv_fu 0 0 h (fun z10 h11 =>
      some (z10, h11))))
    else (some (0, h)))
def f_X9_meansBehind : Nat → Nat → Int32 → Int64 → kv_H → Option (Int64 × kv_H)
  | 0, _, _, _, _ => none
  | d + 1, k1, x2, x3, h => f_X9_meansBehindB (f_X9_meansBehind d) k1 x2 x3 h
set_option maxRecDepth 20000 in
theorem s_f_X9_meansBehindB_L28 (d : Nat) (rc : Nat → Int32 → Int64 → kv_H → Option (Int64 × kv_H)) (hr_X9_meansBehind : ∀ (k1 : Nat) (hk1 : kv_Co k1) (x2 : Int32) (x3 : Int64) (h : kv_H), kv_M kv_l (kK_X9_meansBehind d) [.ref 0, .ref k1, .int x2, .long x3] h (rc k1 x2 x3 h)) (q1 : Nat) (hq1 : kv_Co q1) (c2 : Int32) (c3 : Int64) (q5 : Nat) (hq5 : kv_Co q5) : ∀ (n : Nat) (v6 : Int64) (v8 : Int32) (h : kv_H) (C : Int64 → kv_H → Option (Int64 × kv_H)), (∀ (w6 : Int64) (h : kv_H), kv_S kv_l (kK_X9_meansBehind (d + 1)) 136 [none, none, none, none, none, none, some (.long w6), none, none, none, none] [] h (C w6 h)) → kv_S kv_l (kK_X9_meansBehind (d + 1)) 28 [some (.ref 0), some (.ref q1), some (.int c2), some (.long c3), none, some (.ref q5), some (.long v6), none, some (.int v8), none, none] [] h (f_X9_meansBehindB_L28 rc q1 c2 c3 q5 n v6 v8 h C) := by
  intro n
  induction n with
  | zero => intros; exact kv_none
  | succ n ih =>
    intro v6 v8 h C hC
    unfold f_X9_meansBehindB_L28
    refine kr_iload8 (d_X9_meansBehind_28 _) ?_
    refine kr_aload0 (d_X9_meansBehind_30 _) ?_
    refine kr_getR (q := 79) (d_X9_meansBehind_31 _) fl_X9_21 sh_0 rfl ?_
    refine kr_getR (q := 82) (d_X9_meansBehind_34 _) fl_X9_80 sh_79 rfl ?_
    refine kr_getI (d_X9_meansBehind_37 _) fl_X9_84 sh_82 rfl ?_
    refine kr_icmp_ge (d_X9_meansBehind_40 _) ?_ ?_
    · refine kr_kill0 ?_
      refine kr_kill1 ?_
      refine kr_kill2 ?_
      refine kr_kill3 ?_
      refine kr_kill5 ?_
      refine kr_kill8 ?_
      exact hC v6 h
    · refine kr_lload3 (d_X9_meansBehind_43 _) ?_
      refine kr_aload0 (d_X9_meansBehind_44 _) ?_
      refine kr_getR (q := 79) (d_X9_meansBehind_45 _) fl_X9_21 sh_0 rfl ?_
      refine kr_getR (q := 82) (d_X9_meansBehind_48 _) fl_X9_80 sh_79 rfl ?_
      refine kr_getR (q := 86) (d_X9_meansBehind_51 _) fl_X9_122 sh_82 rfl ?_
      refine kr_iload8 (d_X9_meansBehind_54 _) ?_
      refine kr_iaload (d_X9_meansBehind_56 _) sh_86 ?_
      refine kr_i2l (d_X9_meansBehind_57 _) ?_
      refine kr_lmul (d_X9_meansBehind_58 _) ?_
      refine kr_vL (fun e2 => ?_)
      refine kr_lstore9 (d_X9_meansBehind_59 _) (Nat.le_of_ble_eq_true rfl) kv_c1i ?_
      refine kr_lload9 (d_X9_meansBehind_61 _) ?_
      refine kr_constL (v := 0) (d_X9_meansBehind_63 _) ?_
      refine kr_lcmp (d_X9_meansBehind_64 _) ?_
      refine kr_if_eq (d_X9_meansBehind_65 _) ?_ ?_
      · refine kr_iinc8 (d_X9_meansBehind_130 _) (Nat.le_of_ble_eq_true rfl) kv_c1n ?_
        refine kr_goto (d_X9_meansBehind_133 _) ?_
        refine kr_kill9 ?_
        exact ih v6 (v8 + 1) h C hC
      · refine kr_aload5 (d_X9_meansBehind_68 _) ?_
        refine kr_aload1 (d_X9_meansBehind_70 _) ?_
        refine kr_iv_u (As := [.ref q1]) (d_X9_meansBehind_71 _) cl_X9_220 (m_X0_becomes q5 hq5 q1 hq1 h) hq5.1 (kv_dl (Nat.le_of_ble_eq_true rfl)) rfl (Nat.le_of_ble_eq_true rfl) (fun h3 => ?_)
        refine kr_aload0 (d_X9_meansBehind_74 _) ?_
        refine kr_getR (q := 79) (d_X9_meansBehind_75 _) fl_X9_21 sh_0 rfl ?_
        refine kr_aload5 (d_X9_meansBehind_78 _) ?_
        refine kr_iload8 (d_X9_meansBehind_80 _) ?_
        refine kr_iv_i (As := [.ref q5, .int v8]) (d_X9_meansBehind_82 _) cl_X9_185 (m_X8_asking 79 wo_79 q5 hq5 v8 h3) sh_79 (kv_dl (Nat.le_of_ble_eq_true rfl)) rfl (Nat.le_of_ble_eq_true rfl) (fun r5 h4 => ?_)
        refine kr_pop (d_X9_meansBehind_85 _) rfl ?_
        refine kr_lload6 (d_X9_meansBehind_86 _) ?_
        refine kr_iload2 (d_X9_meansBehind_88 _) ?_
        refine kr_const (v := 1) (d_X9_meansBehind_89 _) ?_
        refine kr_icmp_ne (d_X9_meansBehind_90 _) ?_ ?_
        · refine kr_aload0 (d_X9_meansBehind_116 _) ?_
          refine kr_aload5 (d_X9_meansBehind_117 _) ?_
          refine kr_iload2 (d_X9_meansBehind_119 _) ?_
          refine kr_const (v := 1) (d_X9_meansBehind_120 _) ?_
          refine kr_isub (d_X9_meansBehind_121 _) ?_
          refine kr_lload9 (d_X9_meansBehind_122 _) ?_
          refine kr_iv_l (As := [.ref q5, .int (c2 - 1), .long e2]) (d_X9_meansBehind_124 _) (cl_X9_250 _) (hr_X9_meansBehind q5 hq5 (c2 - 1) e2 h4) sh_0 kv_dr rfl (Nat.le_of_ble_eq_true rfl) (fun r7 h6 => ?_)
          refine kr_ladd (d_X9_meansBehind_127 _) ?_
          refine kr_vL (fun e8 => ?_)
          refine kr_lstore6 (d_X9_meansBehind_128 _) (Nat.le_of_ble_eq_true rfl) kv_c1a ?_
          refine kr_iinc8 (d_X9_meansBehind_130 _) (Nat.le_of_ble_eq_true rfl) kv_c1n ?_
          refine kr_goto (d_X9_meansBehind_133 _) ?_
          refine kr_kill9 ?_
          exact ih e8 (v8 + 1) h6 C hC
        · refine kr_lload9 (d_X9_meansBehind_93 _) ?_
          refine kr_aload5 (d_X9_meansBehind_95 _) ?_
          refine kr_getI (d_X9_meansBehind_97 _) fl_X9_364 hq5.1 rfl ?_
          refine kr_aload0 (d_X9_meansBehind_100 _) ?_
          refine kr_getR (q := 79) (d_X9_meansBehind_101 _) fl_X9_21 sh_0 rfl ?_
          refine kr_getR (q := 91) (d_X9_meansBehind_104 _) fl_X9_109 sh_79 rfl ?_
          refine kr_getI (d_X9_meansBehind_107 _) fl_X9_364 sh_91 rfl ?_
          refine kr_isub (d_X9_meansBehind_110 _) ?_
          refine kr_i2l (d_X9_meansBehind_111 _) ?_
          refine kr_lmul (d_X9_meansBehind_112 _) ?_
          refine kr_goto (d_X9_meansBehind_113 _) ?_
          refine kr_ladd (d_X9_meansBehind_127 _) ?_
          refine kr_vL (fun e9 => ?_)
          refine kr_lstore6 (d_X9_meansBehind_128 _) (Nat.le_of_ble_eq_true rfl) kv_c1a ?_
          refine kr_iinc8 (d_X9_meansBehind_130 _) (Nat.le_of_ble_eq_true rfl) kv_c1n ?_
          refine kr_goto (d_X9_meansBehind_133 _) ?_
          refine kr_kill9 ?_
          exact ih e9 (v8 + 1) h4 C hC

set_option maxRecDepth 20000 in
theorem m_X9_meansBehindB (d : Nat) (rc : Nat → Int32 → Int64 → kv_H → Option (Int64 × kv_H)) (hr_X9_meansBehind : ∀ (k1 : Nat) (hk1 : kv_Co k1) (x2 : Int32) (x3 : Int64) (h : kv_H), kv_M kv_l (kK_X9_meansBehind d) [.ref 0, .ref k1, .int x2, .long x3] h (rc k1 x2 x3 h)) (k1 : Nat) (hk1 : kv_Co k1) (x2 : Int32) (x3 : Int64) (h : kv_H) : kv_M kv_l (kK_X9_meansBehind (d + 1)) [.ref 0, .ref k1, .int x2, .long x3] h (f_X9_meansBehindB rc k1 x2 x3 h) := by
  refine kv_met (ls := [some (.ref 0), some (.ref k1), some (.int x2), some (.long x3), none, none, none, none, none, none, none]) (show plainName RX9 = true by decide +kernel) (fun _ => rfl) (fun _ => Nat.le_of_ble_eq_true rfl) ?_
  unfold f_X9_meansBehindB
  refine kr_iload2 (d_X9_meansBehind_0 _) ?_
  refine kr_const (v := 1) (d_X9_meansBehind_1 _) ?_
  refine kr_icmp_lt (d_X9_meansBehind_2 _) ?_ ?_
  · refine kr_constL (v := 0) (d_X9_meansBehind_10 _) ?_
    exact kr_lreturn (d_X9_meansBehind_11 _) rfl
  · refine kr_iload2 (d_X9_meansBehind_5 _) ?_
    refine kr_const (v := 3) (d_X9_meansBehind_6 _) ?_
    refine kr_icmp_le (d_X9_meansBehind_7 _) ?_ ?_
    · refine kr_aload0 (d_X9_meansBehind_12 _) ?_
      refine kr_getR (q := 1) (d_X9_meansBehind_13 _) fl_X9_44 sh_0 rfl ?_
      refine kr_iload2 (d_X9_meansBehind_16 _) ?_
      refine kr_const (v := 1) (d_X9_meansBehind_17 _) ?_
      refine kr_isub (d_X9_meansBehind_18 _) ?_
      refine kr_aaload (d_X9_meansBehind_19 _) sh_1 (Or.inl rfl) (fun hi1 => ?_)
      refine kr_astore5 (d_X9_meansBehind_20 _) (Nat.le_of_ble_eq_true rfl) kv_c1n ?_
      refine kr_constL (v := 0) (d_X9_meansBehind_22 _) ?_
      refine kr_lstore6 (d_X9_meansBehind_23 _) (Nat.le_of_ble_eq_true rfl) kv_c1a ?_
      refine kr_const (v := 0) (d_X9_meansBehind_25 _) ?_
      refine kr_istore8 (d_X9_meansBehind_26 _) (Nat.le_of_ble_eq_true rfl) kv_c1n ?_
      refine s_f_X9_meansBehindB_L28 d rc hr_X9_meansBehind k1 hk1 x2 x3 (6 + 4 * (x2 - 1).toNatClampNeg) (kv_Co_at hi1) kv_fu 0 0 h _ (fun z10 h11 => ?_)
      refine kr_lload6 (d_X9_meansBehind_136 _) ?_
      exact kr_lreturn (d_X9_meansBehind_138 _) rfl
    · refine kr_constL (v := 0) (d_X9_meansBehind_10 _) ?_
      exact kr_lreturn (d_X9_meansBehind_11 _) rfl

theorem m_X9_meansBehind : ∀ (d : Nat) (k1 : Nat) (hk1 : kv_Co k1) (x2 : Int32) (x3 : Int64) (h : kv_H), kv_M kv_l (kK_X9_meansBehind d) [.ref 0, .ref k1, .int x2, .long x3] h (f_X9_meansBehind d k1 x2 x3 h)
  | 0, _, _, _, _, _ => fun _ _ _ _ q => (by cases q)
  | d + 1, k1, hk1, x2, x3, h => m_X9_meansBehindB d (f_X9_meansBehind d) (m_X9_meansBehind d) k1 hk1 x2 x3 h
/-! X9_means -/
def f_X9_means (x1 : Int32) (h : kv_H) : Option (Int64 × kv_H) :=
  if x1 < (1 : Int32) then (some ((-1000000001), h))
  else (if x1 ≤ (3 : Int32) then (kv_b (f_X9_meansBehind 4 91 x1 1 h) (fun r2 h1 =>
      some (r2, h1)))
    else (some ((-1000000001), h)))
set_option maxRecDepth 20000 in
theorem m_X9_means (x1 : Int32) (h : kv_H) : kv_M kv_l kK_X9_means [.ref 0, .int x1] h (f_X9_means x1 h) := by
  refine kv_met (ls := [some (.ref 0), some (.int x1)]) (show plainName RX9 = true by decide +kernel) (fun _ => rfl) (fun _ => Nat.le_of_ble_eq_true rfl) ?_
  unfold f_X9_means
  refine kr_iload1 d_X9_means_0 ?_
  refine kr_const (v := 1) d_X9_means_1 ?_
  refine kr_icmp_lt d_X9_means_2 ?_ ?_
  · refine kr_constL (v := (-1000000001)) d_X9_means_10 ?_
    exact kr_lreturn d_X9_means_13 rfl
  · refine kr_iload1 d_X9_means_5 ?_
    refine kr_const (v := 3) d_X9_means_6 ?_
    refine kr_icmp_le d_X9_means_7 ?_ ?_
    · refine kr_aload0 d_X9_means_14 ?_
      refine kr_aload0 d_X9_means_15 ?_
      refine kr_getR (q := 79) d_X9_means_16 fl_X9_21 sh_0 rfl ?_
      refine kr_getR (q := 91) d_X9_means_19 fl_X9_109 sh_79 rfl ?_
      refine kr_iload1 d_X9_means_22 ?_
      refine kr_constL (v := 1) d_X9_means_23 ?_
      refine kr_iv_l (As := [.ref 91, .int x1, .long 1]) d_X9_means_24 (cl_X9_250 _) (m_X9_meansBehind 4 91 co_91 x1 1 h) sh_0 (Nat.le_of_ble_eq_true rfl) rfl (Nat.le_of_ble_eq_true rfl) (fun r2 h1 => ?_)
      exact kr_lreturn d_X9_means_27 rfl
    · refine kr_constL (v := (-1000000001)) d_X9_means_10 ?_
      exact kr_lreturn d_X9_means_13 rfl


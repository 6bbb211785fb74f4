/-! X10_told -/
def f_X10_told (x1 : Int32) (x2 : Int32) (h : kv_H) : Option (Int32 × kv_H) :=
  kv_b (f_X10_isLeaf x1 h) (fun r2 h1 =>
  if r2 = 0 then (some ((-1000000001), h1))
  else (kv_b (f_X10_leafAt x1 h1) (fun r4 h3 =>
    kv_sw x2 [0, 1, 2, 3, 4, 5, 6, 7, 8, 9, 10, 11] [(kv_k r4 3098 (some ((h3 112 r4.toNatClampNeg), h3))),
    (kv_k (r4 + 1) 3098 (some ((h3 112 (r4 + 1).toNatClampNeg), h3))),
    (kv_k (r4 + 2) 3098 (some ((h3 112 (r4 + 2).toNatClampNeg), h3))),
    (kv_k (r4 + 3) 3098 (some ((h3 112 (r4 + 3).toNatClampNeg), h3))),
    (kv_k (r4 + 4) 3098 (kv_b (f_X10_orNone (h3 112 (r4 + 4).toNatClampNeg) h3) (fun r6 h5 =>
      some (r6, h5)))),
    (kv_b (f_X10_room x1 h3) (fun r8 h7 =>
      some (r8, h7))),
    (kv_b (f_X10_miss x1 h3) (fun r10 h9 =>
      some (r10, h9))),
    (kv_k (r4 + 6) 3098 (some ((h3 112 (r4 + 6).toNatClampNeg), h3))),
    (kv_k (r4 + 5) 3098 (some ((h3 112 (r4 + 5).toNatClampNeg), h3))),
    (kv_b (f_X10_placeOf x1 h3) (fun r12 h11 =>
      kv_b (f_X10_orNone r12 h11) (fun r14 h13 =>
      some (r14, h13)))),
    (kv_b (f_X10_vaultBits h3) (fun r16 h15 =>
      kv_b (f_X10_isRead r16 x1 h15) (fun r18 h17 =>
      if r18 = 0 then (some (0, h17))
      else (some (1, h17))))),
    (kv_b (f_X10_worth x1 h3) (fun r20 h19 =>
      some (r20, h19)))] (some ((-1000000001), h3)))))
set_option maxRecDepth 20000 in
theorem m_X10_told (x1 : Int32) (x2 : Int32) (h : kv_H) : kv_M kv_i kK_X10_told [.ref 111, .int x1, .int x2] h (f_X10_told x1 x2 h) := by
  refine kv_met (ls := [some (.ref 111), some (.int x1), some (.int x2), none]) (show plainName RX10 = true by decide +kernel) (fun _ => rfl) (fun _ => Nat.le_of_ble_eq_true rfl) ?_
  unfold f_X10_told
  refine kr_aload0 d_X10_told_0 ?_
  refine kr_iload1 d_X10_told_1 ?_
  refine kr_iv_i (As := [.int x1]) d_X10_told_2 cl_X10_116 (m_X10_isLeaf x1 h) sh_111 (Nat.le_of_ble_eq_true rfl) rfl (Nat.le_of_ble_eq_true rfl) (fun r2 h1 => ?_)
  refine kr_if_ne d_X10_told_5 ?_ ?_
  · refine kr_aload0 d_X10_told_11 ?_
    refine kr_iload1 d_X10_told_12 ?_
    refine kr_iv_i (As := [.int x1]) d_X10_told_13 cl_X10_92 (m_X10_leafAt x1 h1) sh_111 (Nat.le_of_ble_eq_true rfl) rfl (Nat.le_of_ble_eq_true rfl) (fun r4 h3 => ?_)
    refine kr_istore3 d_X10_told_16 (Nat.le_of_ble_eq_true rfl) kv_c1i ?_
    refine kr_iload2 d_X10_told_17 ?_
    refine kr_sw d_X10_told_18 ?_ ⟨?_, ?_, ?_, ?_, ?_, ?_, ?_, ?_, ?_, ?_, ?_, ?_, trivial⟩
    · refine kr_const (v := (-1000000001)) d_X10_told_190 ?_
      exact kr_ireturn d_X10_told_192 rfl
    · refine kr_aload0 d_X10_told_80 ?_
      refine kr_getR (q := 112) d_X10_told_81 fl_X10_7 sh_111 rfl ?_
      refine kr_iload3 d_X10_told_84 ?_
      refine kr_iaload d_X10_told_85 sh_112 ?_
      exact kr_ireturn d_X10_told_86 rfl
    · refine kr_aload0 d_X10_told_87 ?_
      refine kr_getR (q := 112) d_X10_told_88 fl_X10_7 sh_111 rfl ?_
      refine kr_iload3 d_X10_told_91 ?_
      refine kr_const (v := 1) d_X10_told_92 ?_
      refine kr_iadd d_X10_told_93 ?_
      refine kr_iaload d_X10_told_94 sh_112 ?_
      exact kr_ireturn d_X10_told_95 rfl
    · refine kr_aload0 d_X10_told_96 ?_
      refine kr_getR (q := 112) d_X10_told_97 fl_X10_7 sh_111 rfl ?_
      refine kr_iload3 d_X10_told_100 ?_
      refine kr_const (v := 2) d_X10_told_101 ?_
      refine kr_iadd d_X10_told_102 ?_
      refine kr_iaload d_X10_told_103 sh_112 ?_
      exact kr_ireturn d_X10_told_104 rfl
    · refine kr_aload0 d_X10_told_105 ?_
      refine kr_getR (q := 112) d_X10_told_106 fl_X10_7 sh_111 rfl ?_
      refine kr_iload3 d_X10_told_109 ?_
      refine kr_const (v := 3) d_X10_told_110 ?_
      refine kr_iadd d_X10_told_111 ?_
      refine kr_iaload d_X10_told_112 sh_112 ?_
      exact kr_ireturn d_X10_told_113 rfl
    · refine kr_aload0 d_X10_told_114 ?_
      refine kr_getR (q := 112) d_X10_told_115 fl_X10_7 sh_111 rfl ?_
      refine kr_iload3 d_X10_told_118 ?_
      refine kr_const (v := 4) d_X10_told_119 ?_
      refine kr_iadd d_X10_told_120 ?_
      refine kr_iaload d_X10_told_121 sh_112 ?_
      refine kr_is_i (As := [.int (h3 112 (r4 + 4).toNatClampNeg)]) d_X10_told_122 cl_X10_126 (m_X10_orNone (h3 112 (r4 + 4).toNatClampNeg) h3) (Nat.le_of_ble_eq_true rfl) rfl (Nat.le_of_ble_eq_true rfl) (fun r6 h5 => ?_)
      exact kr_ireturn d_X10_told_125 rfl
    · refine kr_aload0 d_X10_told_126 ?_
      refine kr_iload1 d_X10_told_127 ?_
      refine kr_iv_i (As := [.int x1]) d_X10_told_128 cl_X10_104 (m_X10_room x1 h3) sh_111 (Nat.le_of_ble_eq_true rfl) rfl (Nat.le_of_ble_eq_true rfl) (fun r8 h7 => ?_)
      exact kr_ireturn d_X10_told_131 rfl
    · refine kr_aload0 d_X10_told_132 ?_
      refine kr_iload1 d_X10_told_133 ?_
      refine kr_iv_i (As := [.int x1]) d_X10_told_134 cl_X10_107 (m_X10_miss x1 h3) sh_111 (Nat.le_of_ble_eq_true rfl) rfl (Nat.le_of_ble_eq_true rfl) (fun r10 h9 => ?_)
      exact kr_ireturn d_X10_told_137 rfl
    · refine kr_aload0 d_X10_told_138 ?_
      refine kr_getR (q := 112) d_X10_told_139 fl_X10_7 sh_111 rfl ?_
      refine kr_iload3 d_X10_told_142 ?_
      refine kr_const (v := 6) d_X10_told_143 ?_
      refine kr_iadd d_X10_told_145 ?_
      refine kr_iaload d_X10_told_146 sh_112 ?_
      exact kr_ireturn d_X10_told_147 rfl
    · refine kr_aload0 d_X10_told_148 ?_
      refine kr_getR (q := 112) d_X10_told_149 fl_X10_7 sh_111 rfl ?_
      refine kr_iload3 d_X10_told_152 ?_
      refine kr_const (v := 5) d_X10_told_153 ?_
      refine kr_iadd d_X10_told_154 ?_
      refine kr_iaload d_X10_told_155 sh_112 ?_
      exact kr_ireturn d_X10_told_156 rfl
    · refine kr_aload0 d_X10_told_157 ?_
      refine kr_iload1 d_X10_told_158 ?_
      refine kr_iv_i (As := [.int x1]) d_X10_told_159 cl_X10_129 (m_X10_placeOf x1 h3) sh_111 (Nat.le_of_ble_eq_true rfl) rfl (Nat.le_of_ble_eq_true rfl) (fun r12 h11 => ?_)
      refine kr_is_i (As := [.int r12]) d_X10_told_162 cl_X10_126 (m_X10_orNone r12 h11) (Nat.le_of_ble_eq_true rfl) rfl (Nat.le_of_ble_eq_true rfl) (fun r14 h13 => ?_)
      exact kr_ireturn d_X10_told_165 rfl
    · refine kr_aload0 d_X10_told_166 ?_
      refine kr_aload0 d_X10_told_167 ?_
      refine kr_iv_i (As := []) d_X10_told_168 cl_X10_132 (m_X10_vaultBits h3) sh_111 (Nat.le_of_ble_eq_true rfl) rfl (Nat.le_of_ble_eq_true rfl) (fun r16 h15 => ?_)
      refine kr_iload1 d_X10_told_171 ?_
      refine kr_iv_i (As := [.int r16, .int x1]) d_X10_told_172 cl_X10_136 (m_X10_isRead r16 x1 h15) sh_111 (Nat.le_of_ble_eq_true rfl) rfl (Nat.le_of_ble_eq_true rfl) (fun r18 h17 => ?_)
      refine kr_if_eq d_X10_told_175 ?_ ?_
      · refine kr_const (v := 0) d_X10_told_182 ?_
        exact kr_ireturn d_X10_told_183 rfl
      · refine kr_const (v := 1) d_X10_told_178 ?_
        refine kr_goto d_X10_told_179 ?_
        exact kr_ireturn d_X10_told_183 rfl
    · refine kr_aload0 d_X10_told_184 ?_
      refine kr_iload1 d_X10_told_185 ?_
      refine kr_iv_i (As := [.int x1]) d_X10_told_186 cl_X10_140 (m_X10_worth x1 h3) sh_111 (Nat.le_of_ble_eq_true rfl) rfl (Nat.le_of_ble_eq_true rfl) (fun r20 h19 => ?_)
      exact kr_ireturn d_X10_told_189 rfl
  · refine kr_const (v := (-1000000001)) d_X10_told_8 ?_
    exact kr_ireturn d_X10_told_10 rfl

/-! X10_isOf -/
def f_X10_isOf (x1 : Int32) (x2 : Int32) (h : kv_H) : Option (Int32 × kv_H) :=
  if x1 = x2 then (some (1, h))
  else (if x2 = 0 then (some (1, h))
    else (kv_jn (fun  (h1 : kv_H) =>
      if x2 = (2 : Int32) then (if x1 = (4 : Int32) then (some (1, h1))
          else (some (0, h1)))
        else (some (0, h1))) (fun (J19 : kv_H → Option (Int32 × kv_H)) =>
      if x2 = (1 : Int32) then (if x1 = (3 : Int32) then (some (1, h))
        else (J19 h))
      else (J19 h))))
set_option maxRecDepth 20000 in
theorem m_X10_isOf (x1 : Int32) (x2 : Int32) (h : kv_H) : kv_M kv_i kK_X10_isOf [.int x1, .int x2] h (f_X10_isOf x1 x2 h) := by
  refine kv_met (ls := [some (.int x1), some (.int x2)]) (show plainName RX10 = true by decide +kernel) (fun _ => rfl) (fun _ => Nat.le_of_ble_eq_true rfl) ?_
  unfold f_X10_isOf
  refine kr_iload0 d_X10_isOf_0 ?_
  refine kr_iload1 d_X10_isOf_1 ?_
  refine kr_icmp_eq d_X10_isOf_2 ?_ ?_
  · refine kr_const (v := 1) d_X10_isOf_29 ?_
    refine kr_goto d_X10_isOf_30 ?_
    exact kr_zreturnK (by decide) d_X10_isOf_34 rfl
  · refine kr_iload1 d_X10_isOf_5 ?_
    refine kr_if_eq d_X10_isOf_6 ?_ ?_
    · refine kr_const (v := 1) d_X10_isOf_29 ?_
      refine kr_goto d_X10_isOf_30 ?_
      exact kr_zreturnK (by decide) d_X10_isOf_34 rfl
    · refine kr_iload1 d_X10_isOf_9 ?_
      refine kr_const (v := 1) d_X10_isOf_10 ?_
      refine kr_jn (P := fun J19 =>  ∀ (h1 : kv_H), kv_S kv_i kK_X10_isOf 19 [some (.int x1), some (.int x2)] [] h1 (J19  h1)) (fun  h1 => ?_) (fun J19 hJ19 => ?_)
      · refine kr_iload1 d_X10_isOf_19 ?_
        refine kr_const (v := 2) d_X10_isOf_20 ?_
        refine kr_icmp_ne d_X10_isOf_21 ?_ ?_
        · refine kr_const (v := 0) d_X10_isOf_33 ?_
          exact kr_zreturnK (by decide) d_X10_isOf_34 rfl
        · refine kr_iload0 d_X10_isOf_24 ?_
          refine kr_const (v := 4) d_X10_isOf_25 ?_
          refine kr_icmp_ne d_X10_isOf_26 ?_ ?_
          · refine kr_const (v := 0) d_X10_isOf_33 ?_
            exact kr_zreturnK (by decide) d_X10_isOf_34 rfl
          · refine kr_const (v := 1) d_X10_isOf_29 ?_
            refine kr_goto d_X10_isOf_30 ?_
            exact kr_zreturnK (by decide) d_X10_isOf_34 rfl
      refine kr_icmp_ne d_X10_isOf_11 ?_ ?_
      · exact hJ19 h
      · refine kr_iload0 d_X10_isOf_14 ?_
        refine kr_const (v := 3) d_X10_isOf_15 ?_
        refine kr_icmp_eq d_X10_isOf_16 ?_ ?_
        · refine kr_const (v := 1) d_X10_isOf_29 ?_
          refine kr_goto d_X10_isOf_30 ?_
          exact kr_zreturnK (by decide) d_X10_isOf_34 rfl
        · exact hJ19 h

/-! X10_as -/
def f_X10_as (x1 : Int32) (x2 : Int32) (h : kv_H) : Option (Int32 × kv_H) :=
  kv_b (f_X10_isLeaf x1 h) (fun r2 h1 =>
  if r2 = 0 then (some ((-1000000001), h1))
  else (kv_b (f_X10_isIn (x2.toInt64) 0 5 h1) (fun r4 h3 =>
    if r4 = 0 then (some ((-1000000001), h3))
    else (kv_b (f_X10_leafAt x1 h3) (fun r6 h5 =>
      kv_k r6 3098 (kv_b (f_X10_isOf (h5 112 r6.toNatClampNeg) x2 h5) (fun r8 h7 =>
      if r8 = 0 then (some ((-1000000012), h7))
      else (kv_b (f_X10_leafAt x1 h7) (fun r10 h9 =>
        kv_k (r10 + 1) 3098 (some ((h9 112 (r10 + 1).toNatClampNeg), h9)))))))))))
set_option maxRecDepth 20000 in
theorem m_X10_as (x1 : Int32) (x2 : Int32) (h : kv_H) : kv_M kv_i kK_X10_as [.ref 111, .int x1, .int x2] h (f_X10_as x1 x2 h) := by
  refine kv_met (ls := [some (.ref 111), some (.int x1), some (.int x2)]) (show plainName RX10 = true by decide +kernel) (fun _ => rfl) (fun _ => Nat.le_of_ble_eq_true rfl) ?_
  unfold f_X10_as
  refine kr_aload0 d_X10_as_0 ?_
  refine kr_iload1 d_X10_as_1 ?_
  refine kr_iv_i (As := [.int x1]) d_X10_as_2 cl_X10_116 (m_X10_isLeaf x1 h) sh_111 (Nat.le_of_ble_eq_true rfl) rfl (Nat.le_of_ble_eq_true rfl) (fun r2 h1 => ?_)
  refine kr_if_eq d_X10_as_5 ?_ ?_
  · refine kr_const (v := (-1000000001)) d_X10_as_20 ?_
    exact kr_ireturn d_X10_as_22 rfl
  · refine kr_iload2 d_X10_as_8 ?_
    refine kr_i2l d_X10_as_9 ?_
    refine kr_constL (v := 0) d_X10_as_10 ?_
    refine kr_constL (v := 5) d_X10_as_11 ?_
    refine kr_is_i (As := [.long (x2.toInt64), .long 0, .long 5]) d_X10_as_14 cl_X10_83 (m_X10_isIn (x2.toInt64) 0 5 h1) (Nat.le_of_ble_eq_true rfl) rfl (Nat.le_of_ble_eq_true rfl) (fun r4 h3 => ?_)
    refine kr_if_ne d_X10_as_17 ?_ ?_
    · refine kr_aload0 d_X10_as_23 ?_
      refine kr_getR (q := 112) d_X10_as_24 fl_X10_7 sh_111 rfl ?_
      refine kr_aload0 d_X10_as_27 ?_
      refine kr_iload1 d_X10_as_28 ?_
      refine kr_iv_i (As := [.int x1]) d_X10_as_29 cl_X10_92 (m_X10_leafAt x1 h3) sh_111 (Nat.le_of_ble_eq_true rfl) rfl (Nat.le_of_ble_eq_true rfl) (fun r6 h5 => ?_)
      refine kr_iaload d_X10_as_32 sh_112 ?_
      refine kr_iload2 d_X10_as_33 ?_
      refine kr_is_i (As := [.int (h5 112 r6.toNatClampNeg), .int x2]) d_X10_as_34 cl_X10_143 (m_X10_isOf (h5 112 r6.toNatClampNeg) x2 h5) (Nat.le_of_ble_eq_true rfl) rfl (Nat.le_of_ble_eq_true rfl) (fun r8 h7 => ?_)
      refine kr_if_eq d_X10_as_37 ?_ ?_
      · refine kr_const (v := (-1000000012)) d_X10_as_55 ?_
        exact kr_ireturn d_X10_as_57 rfl
      · refine kr_aload0 d_X10_as_40 ?_
        refine kr_getR (q := 112) d_X10_as_41 fl_X10_7 sh_111 rfl ?_
        refine kr_aload0 d_X10_as_44 ?_
        refine kr_iload1 d_X10_as_45 ?_
        refine kr_iv_i (As := [.int x1]) d_X10_as_46 cl_X10_92 (m_X10_leafAt x1 h7) sh_111 (Nat.le_of_ble_eq_true rfl) rfl (Nat.le_of_ble_eq_true rfl) (fun r10 h9 => ?_)
        refine kr_const (v := 1) d_X10_as_49 ?_
        refine kr_iadd d_X10_as_50 ?_
        refine kr_iaload d_X10_as_51 sh_112 ?_
        refine kr_goto d_X10_as_52 ?_
        exact kr_ireturn d_X10_as_57 rfl
    · refine kr_const (v := (-1000000001)) d_X10_as_20 ?_
      exact kr_ireturn d_X10_as_22 rfl

/-! X10_turns -/
def f_X10_turns (x1 : Int32) (x2 : Int32) (h : kv_H) : Option (Int32 × kv_H) :=
  kv_b (f_X10_isLeaf x1 h) (fun r2 h1 =>
  if r2 = 0 then (some ((-1000000001), h1))
  else (kv_b (f_X10_isIn (x2.toInt64) 0 5 h1) (fun r4 h3 =>
    if r4 = 0 then (some ((-1000000001), h3))
    else (kv_b (f_X10_leafAt x1 h3) (fun r6 h5 =>
      kv_b (f_X10_becomes r6 x2 h5) (fun r8 h7 =>
      some (r8, h7)))))))
set_option maxRecDepth 20000 in
theorem m_X10_turns (x1 : Int32) (x2 : Int32) (h : kv_H) : kv_M kv_i kK_X10_turns [.ref 111, .int x1, .int x2] h (f_X10_turns x1 x2 h) := by
  refine kv_met (ls := [some (.ref 111), some (.int x1), some (.int x2)]) (show plainName RX10 = true by decide +kernel) (fun _ => rfl) (fun _ => Nat.le_of_ble_eq_true rfl) ?_
  unfold f_X10_turns
  refine kr_aload0 d_X10_turns_0 ?_
  refine kr_iload1 d_X10_turns_1 ?_
  refine kr_iv_i (As := [.int x1]) d_X10_turns_2 cl_X10_116 (m_X10_isLeaf x1 h) sh_111 (Nat.le_of_ble_eq_true rfl) rfl (Nat.le_of_ble_eq_true rfl) (fun r2 h1 => ?_)
  refine kr_if_eq d_X10_turns_5 ?_ ?_
  · refine kr_const (v := (-1000000001)) d_X10_turns_33 ?_
    exact kr_ireturn d_X10_turns_35 rfl
  · refine kr_iload2 d_X10_turns_8 ?_
    refine kr_i2l d_X10_turns_9 ?_
    refine kr_constL (v := 0) d_X10_turns_10 ?_
    refine kr_constL (v := 5) d_X10_turns_11 ?_
    refine kr_is_i (As := [.long (x2.toInt64), .long 0, .long 5]) d_X10_turns_14 cl_X10_83 (m_X10_isIn (x2.toInt64) 0 5 h1) (Nat.le_of_ble_eq_true rfl) rfl (Nat.le_of_ble_eq_true rfl) (fun r4 h3 => ?_)
    refine kr_if_eq d_X10_turns_17 ?_ ?_
    · refine kr_const (v := (-1000000001)) d_X10_turns_33 ?_
      exact kr_ireturn d_X10_turns_35 rfl
    · refine kr_aload0 d_X10_turns_20 ?_
      refine kr_aload0 d_X10_turns_21 ?_
      refine kr_iload1 d_X10_turns_22 ?_
      refine kr_iv_i (As := [.int x1]) d_X10_turns_23 cl_X10_92 (m_X10_leafAt x1 h3) sh_111 (Nat.le_of_ble_eq_true rfl) rfl (Nat.le_of_ble_eq_true rfl) (fun r6 h5 => ?_)
      refine kr_iload2 d_X10_turns_26 ?_
      refine kr_iv_i (As := [.int r6, .int x2]) d_X10_turns_27 cl_X10_147 (m_X10_becomes r6 x2 h5) sh_111 (Nat.le_of_ble_eq_true rfl) rfl (Nat.le_of_ble_eq_true rfl) (fun r8 h7 => ?_)
      refine kr_goto d_X10_turns_30 ?_
      exact kr_ireturn d_X10_turns_35 rfl

/-! X10_set -/
def f_X10_set (x1 : Int32) (x2 : Int32) (x3 : Int32) (h : kv_H) : Option (Int32 × kv_H) :=
  kv_b (f_X10_isLeaf x1 h) (fun r2 h1 =>
  if r2 = 0 then (some ((-1000000001), h1))
  else (kv_b (f_X10_isIn (x2.toInt64) 0 2 h1) (fun r4 h3 =>
    if r4 = 0 then (some ((-1000000001), h3))
    else (kv_jn (fun (y5 : Int64) (h6 : kv_H) =>
      kv_jn (fun (y7 : Int64) (h8 : kv_H) =>
        kv_b (f_X10_isIn (x3.toInt64) y5 y7 h8) (fun r10 h9 =>
          if r10 = 0 then (some ((-1000000001), h9))
          else (kv_b (f_X10_leafAt x1 h9) (fun r12 h11 =>
            kv_b (f_X10_becomes ((r12 + 1) + x2) x3 h11) (fun r14 h13 =>
            some (r14, h13)))))) (fun (J45 : Int64 → kv_H → Option (Int32 × kv_H)) =>
        if x2 = (1 : Int32) then (J45 99 h6)
        else (J45 9 h6))) (fun (J31 : Int64 → kv_H → Option (Int32 × kv_H)) =>
      if x2 = 0 then (J31 1 h3)
      else (J31 0 h3))))))
set_option maxRecDepth 20000 in
theorem m_X10_set (x1 : Int32) (x2 : Int32) (x3 : Int32) (h : kv_H) : kv_M kv_i kK_X10_set [.ref 111, .int x1, .int x2, .int x3] h (f_X10_set x1 x2 x3 h) := by
  refine kv_met (ls := [some (.ref 111), some (.int x1), some (.int x2), some (.int x3)]) (show plainName RX10 = true by decide +kernel) (fun _ => rfl) (fun _ => Nat.le_of_ble_eq_true rfl) ?_
  unfold f_X10_set
  refine kr_aload0 d_X10_set_0 ?_
  refine kr_iload1 d_X10_set_1 ?_
  refine kr_iv_i (As := [.int x1]) d_X10_set_2 cl_X10_116 (m_X10_isLeaf x1 h) sh_111 (Nat.le_of_ble_eq_true rfl) rfl (Nat.le_of_ble_eq_true rfl) (fun r2 h1 => ?_)
  refine kr_if_eq d_X10_set_5 ?_ ?_
  · refine kr_const (v := (-1000000001)) d_X10_set_51 ?_
    exact kr_ireturn d_X10_set_53 rfl
  · refine kr_iload2 d_X10_set_8 ?_
    refine kr_i2l d_X10_set_9 ?_
    refine kr_constL (v := 0) d_X10_set_10 ?_
    refine kr_constL (v := 2) d_X10_set_11 ?_
    refine kr_is_i (As := [.long (x2.toInt64), .long 0, .long 2]) d_X10_set_14 cl_X10_83 (m_X10_isIn (x2.toInt64) 0 2 h1) (Nat.le_of_ble_eq_true rfl) rfl (Nat.le_of_ble_eq_true rfl) (fun r4 h3 => ?_)
    refine kr_if_eq d_X10_set_17 ?_ ?_
    · refine kr_const (v := (-1000000001)) d_X10_set_51 ?_
      exact kr_ireturn d_X10_set_53 rfl
    · refine kr_iload3 d_X10_set_20 ?_
      refine kr_i2l d_X10_set_21 ?_
      refine kr_iload2 d_X10_set_22 ?_
      refine kr_jn (P := fun J31 => ∀ (y5 : Int64), ∀ (h6 : kv_H), kv_S kv_i kK_X10_set 31 [some (.ref 111), some (.int x1), some (.int x2), some (.int x3)] [.long y5, .long (x3.toInt64)] h6 (J31 y5 h6)) (fun y5 h6 => ?_) (fun J31 hJ31 => ?_)
      · refine kr_iload2 d_X10_set_31 ?_
        refine kr_const (v := 1) d_X10_set_32 ?_
        refine kr_jn (P := fun J45 => ∀ (y7 : Int64), ∀ (h8 : kv_H), kv_S kv_i kK_X10_set 45 [some (.ref 111), some (.int x1), some (.int x2), some (.int x3)] [.long y7, .long y5, .long (x3.toInt64)] h8 (J45 y7 h8)) (fun y7 h8 => ?_) (fun J45 hJ45 => ?_)
        · refine kr_is_i (As := [.long (x3.toInt64), .long y5, .long y7]) d_X10_set_45 cl_X10_83 (m_X10_isIn (x3.toInt64) y5 y7 h8) (Nat.le_of_ble_eq_true rfl) rfl (Nat.le_of_ble_eq_true rfl) (fun r10 h9 => ?_)
          refine kr_if_ne d_X10_set_48 ?_ ?_
          · refine kr_aload0 d_X10_set_54 ?_
            refine kr_aload0 d_X10_set_55 ?_
            refine kr_iload1 d_X10_set_56 ?_
            refine kr_iv_i (As := [.int x1]) d_X10_set_57 cl_X10_92 (m_X10_leafAt x1 h9) sh_111 (Nat.le_of_ble_eq_true rfl) rfl (Nat.le_of_ble_eq_true rfl) (fun r12 h11 => ?_)
            refine kr_const (v := 1) d_X10_set_60 ?_
            refine kr_iadd d_X10_set_61 ?_
            refine kr_iload2 d_X10_set_62 ?_
            refine kr_iadd d_X10_set_63 ?_
            refine kr_iload3 d_X10_set_64 ?_
            refine kr_iv_i (As := [.int ((r12 + 1) + x2), .int x3]) d_X10_set_65 cl_X10_147 (m_X10_becomes ((r12 + 1) + x2) x3 h11) sh_111 (Nat.le_of_ble_eq_true rfl) rfl (Nat.le_of_ble_eq_true rfl) (fun r14 h13 => ?_)
            exact kr_ireturn d_X10_set_68 rfl
          · refine kr_const (v := (-1000000001)) d_X10_set_51 ?_
            exact kr_ireturn d_X10_set_53 rfl
        refine kr_icmp_ne d_X10_set_33 ?_ ?_
        · refine kr_constL (v := 9) d_X10_set_42 ?_
          exact hJ45 9 h6
        · refine kr_constL (v := 99) d_X10_set_36 ?_
          refine kr_goto d_X10_set_39 ?_
          exact hJ45 99 h6
      refine kr_if_ne d_X10_set_23 ?_ ?_
      · refine kr_constL (v := 0) d_X10_set_30 ?_
        exact hJ31 0 h3
      · refine kr_constL (v := 1) d_X10_set_26 ?_
        refine kr_goto d_X10_set_27 ?_
        exact hJ31 1 h3

/-! X10_leans -/
def f_X10_leans (x1 : Int32) (x2 : Int32) (h : kv_H) : Option (Int32 × kv_H) :=
  kv_b (f_X10_isLeaf x1 h) (fun r2 h1 =>
  if r2 = 0 then (some ((-1000000001), h1))
  else (kv_jn (fun  (h3 : kv_H) =>
    kv_b (f_X10_leafAt x1 h3) (fun r5 h4 =>
      if x2 = (-1000000005 : Int32) then (kv_b (f_X10_becomes (r5 + 4) (-1) h4) (fun r11 h10 =>
        kv_b (f_X10_orNone r11 h10) (fun r13 h12 =>
        some (r13, h12))))
      else (kv_b (f_X10_becomes (r5 + 4) x2 h4) (fun r7 h6 =>
        kv_b (f_X10_orNone r7 h6) (fun r9 h8 =>
        some (r9, h8)))))) (fun (J30 : kv_H → Option (Int32 × kv_H)) =>
    if x2 = (-1000000005 : Int32) then (J30 h1)
    else (kv_b (f_X10_isIn (x2.toInt64) 0 ((x1 - 1).toInt64) h1) (fun r15 h14 =>
      if r15 = 0 then (some ((-1000000001), h14))
      else (J30 h14))))))
set_option maxRecDepth 20000 in
theorem m_X10_leans (x1 : Int32) (x2 : Int32) (h : kv_H) : kv_M kv_i kK_X10_leans [.ref 111, .int x1, .int x2] h (f_X10_leans x1 x2 h) := by
  refine kv_met (ls := [some (.ref 111), some (.int x1), some (.int x2)]) (show plainName RX10 = true by decide +kernel) (fun _ => rfl) (fun _ => Nat.le_of_ble_eq_true rfl) ?_
  unfold f_X10_leans
  refine kr_aload0 d_X10_leans_0 ?_
  refine kr_iload1 d_X10_leans_1 ?_
  refine kr_iv_i (As := [.int x1]) d_X10_leans_2 cl_X10_116 (m_X10_isLeaf x1 h) sh_111 (Nat.le_of_ble_eq_true rfl) rfl (Nat.le_of_ble_eq_true rfl) (fun r2 h1 => ?_)
  refine kr_if_eq d_X10_leans_5 ?_ ?_
  · refine kr_const (v := (-1000000001)) d_X10_leans_27 ?_
    exact kr_ireturn d_X10_leans_29 rfl
  · refine kr_iload2 d_X10_leans_8 ?_
    refine kr_const (v := (-1000000005)) d_X10_leans_9 ?_
    refine kr_jn (P := fun J30 =>  ∀ (h3 : kv_H), kv_S kv_i kK_X10_leans 30 [some (.ref 111), some (.int x1), some (.int x2)] [] h3 (J30  h3)) (fun  h3 => ?_) (fun J30 hJ30 => ?_)
    · refine kr_aload0 d_X10_leans_30 ?_
      refine kr_aload0 d_X10_leans_31 ?_
      refine kr_iload1 d_X10_leans_32 ?_
      refine kr_iv_i (As := [.int x1]) d_X10_leans_33 cl_X10_92 (m_X10_leafAt x1 h3) sh_111 (Nat.le_of_ble_eq_true rfl) rfl (Nat.le_of_ble_eq_true rfl) (fun r5 h4 => ?_)
      refine kr_const (v := 4) d_X10_leans_36 ?_
      refine kr_iadd d_X10_leans_37 ?_
      refine kr_iload2 d_X10_leans_38 ?_
      refine kr_const (v := (-1000000005)) d_X10_leans_39 ?_
      refine kr_icmp_ne d_X10_leans_41 ?_ ?_
      · refine kr_iload2 d_X10_leans_48 ?_
        refine kr_iv_i (As := [.int (r5 + 4), .int x2]) d_X10_leans_49 cl_X10_147 (m_X10_becomes (r5 + 4) x2 h4) sh_111 (Nat.le_of_ble_eq_true rfl) rfl (Nat.le_of_ble_eq_true rfl) (fun r7 h6 => ?_)
        refine kr_is_i (As := [.int r7]) d_X10_leans_52 cl_X10_126 (m_X10_orNone r7 h6) (Nat.le_of_ble_eq_true rfl) rfl (Nat.le_of_ble_eq_true rfl) (fun r9 h8 => ?_)
        exact kr_ireturn d_X10_leans_55 rfl
      · refine kr_const (v := (-1)) d_X10_leans_44 ?_
        refine kr_goto d_X10_leans_45 ?_
        refine kr_iv_i (As := [.int (r5 + 4), .int (-1)]) d_X10_leans_49 cl_X10_147 (m_X10_becomes (r5 + 4) (-1) h4) sh_111 (Nat.le_of_ble_eq_true rfl) rfl (Nat.le_of_ble_eq_true rfl) (fun r11 h10 => ?_)
        refine kr_is_i (As := [.int r11]) d_X10_leans_52 cl_X10_126 (m_X10_orNone r11 h10) (Nat.le_of_ble_eq_true rfl) rfl (Nat.le_of_ble_eq_true rfl) (fun r13 h12 => ?_)
        exact kr_ireturn d_X10_leans_55 rfl
    refine kr_icmp_eq d_X10_leans_11 ?_ ?_
    · exact hJ30 h1
    · refine kr_iload2 d_X10_leans_14 ?_
      refine kr_i2l d_X10_leans_15 ?_
      refine kr_constL (v := 0) d_X10_leans_16 ?_
      refine kr_iload1 d_X10_leans_17 ?_
      refine kr_const (v := 1) d_X10_leans_18 ?_
      refine kr_isub d_X10_leans_19 ?_
      refine kr_i2l d_X10_leans_20 ?_
      refine kr_is_i (As := [.long (x2.toInt64), .long 0, .long ((x1 - 1).toInt64)]) d_X10_leans_21 cl_X10_83 (m_X10_isIn (x2.toInt64) 0 ((x1 - 1).toInt64) h1) (Nat.le_of_ble_eq_true rfl) rfl (Nat.le_of_ble_eq_true rfl) (fun r15 h14 => ?_)
      refine kr_if_ne d_X10_leans_24 ?_ ?_
      · exact hJ30 h14
      · refine kr_const (v := (-1000000001)) d_X10_leans_27 ?_
        exact kr_ireturn d_X10_leans_29 rfl

/-! X10_deal -/
def f_X10_deal_L17 (c1 : Int32) : Nat → Int32 → kv_H → (Int32 → kv_H → Option (Int32 × kv_H)) → Option (Int32 × kv_H)
  | 0, _, _, _ => none
  | n + 1, v2, h, C => if c1 ≤ v2 then (C v2 h)
    else (if (8 : Int32) ≤ (h 112 0) then (C v2 h)
      else (kv_b (f_X10_drawn h) (fun r4 h3 =>
        kv_vl (1 + (r4 - r4 / 9 * 9)) (fun e5 =>
        kv_b (f_X10_drawn h3) (fun r7 h6 =>
        kv_vl (r7 - r7 / 100 * 100) (fun e8 =>
        kv_b (f_X10_drawn h6) (fun r10 h9 =>
        kv_z (1 + (h9 112 0)) (kv_vl (r10 - r10 / (1 + (h9 112 0)) * (1 + (h9 112 0))) (fun e11 =>
        if e11 = (h9 112 0) then (kv_b (f_X10_comes 0 e5 e8 (-1) h9) (fun _ h13 =>
          f_X10_deal_L17 c1 n (v2 + 1) h13 C))
        else (kv_b (f_X10_comes 0 e5 e8 e11 h9) (fun _ h12 =>
          f_X10_deal_L17 c1 n (v2 + 1) h12 C)))))))))))
def f_X10_deal (x1 : Int32) (h : kv_H) : Option (Int32 × kv_H) :=
  kv_b (f_X10_isIn (x1.toInt64) 1 8 h) (fun r2 h1 =>
  if r2 = 0 then (some ((-1000000001), h1))
  else (f_X10_deal_L17 x1 kv_fu 0 h1 (fun z14 h15 =>
    some (z14, h15))))
set_option maxRecDepth 20000 in
theorem s_f_X10_deal_L17 (c1 : Int32) : ∀ (n : Nat) (v2 : Int32) (h : kv_H) (C : Int32 → kv_H → Option (Int32 × kv_H)), (∀ (w2 : Int32) (h : kv_H), kv_S kv_i kK_X10_deal 98 [none, none, some (.int w2), none, none, none] [] h (C w2 h)) → kv_S kv_i kK_X10_deal 17 [some (.ref 111), some (.int c1), some (.int v2), none, none, none] [] h (f_X10_deal_L17 c1 n v2 h C) := by
  intro n
  induction n with
  | zero => intros; exact kv_none
  | succ n ih =>
    intro v2 h C hC
    unfold f_X10_deal_L17
    refine kr_iload2 d_X10_deal_17 ?_
    refine kr_iload1 d_X10_deal_18 ?_
    refine kr_icmp_ge d_X10_deal_19 ?_ ?_
    · refine kr_kill0 ?_
      refine kr_kill1 ?_
      exact hC v2 h
    · refine kr_aload0 d_X10_deal_22 ?_
      refine kr_getR (q := 112) d_X10_deal_23 fl_X10_7 sh_111 rfl ?_
      refine kr_const (v := 0) d_X10_deal_26 ?_
      refine kr_ialoadC (j := 0) ⟨by decide, by decide, by decide⟩ d_X10_deal_27 sh_112 ?_
      refine kr_const (v := 8) d_X10_deal_28 ?_
      refine kr_icmp_ge d_X10_deal_30 ?_ ?_
      · refine kr_kill0 ?_
        refine kr_kill1 ?_
        exact hC v2 h
      · refine kr_const (v := 1) d_X10_deal_33 ?_
        refine kr_aload0 d_X10_deal_34 ?_
        refine kr_iv_i (As := []) d_X10_deal_35 cl_X10_155 (m_X10_drawn h) sh_111 (Nat.le_of_ble_eq_true rfl) rfl (Nat.le_of_ble_eq_true rfl) (fun r4 h3 => ?_)
        refine kr_const (v := 9) d_X10_deal_38 ?_
        refine kr_iremK (by decide) d_X10_deal_40 ?_
        refine kr_iadd d_X10_deal_41 ?_
        refine kr_vl (fun e5 => ?_)
        refine kr_istore3 d_X10_deal_42 (Nat.le_of_ble_eq_true rfl) kv_c1i ?_
        refine kr_aload0 d_X10_deal_43 ?_
        refine kr_iv_i (As := []) d_X10_deal_44 cl_X10_155 (m_X10_drawn h3) sh_111 (Nat.le_of_ble_eq_true rfl) rfl (Nat.le_of_ble_eq_true rfl) (fun r7 h6 => ?_)
        refine kr_const (v := 100) d_X10_deal_47 ?_
        refine kr_iremK (by decide) d_X10_deal_49 ?_
        refine kr_vl (fun e8 => ?_)
        refine kr_istore4 d_X10_deal_50 (Nat.le_of_ble_eq_true rfl) kv_c1i ?_
        refine kr_aload0 d_X10_deal_52 ?_
        refine kr_iv_i (As := []) d_X10_deal_53 cl_X10_155 (m_X10_drawn h6) sh_111 (Nat.le_of_ble_eq_true rfl) rfl (Nat.le_of_ble_eq_true rfl) (fun r10 h9 => ?_)
        refine kr_const (v := 1) d_X10_deal_56 ?_
        refine kr_aload0 d_X10_deal_57 ?_
        refine kr_getR (q := 112) d_X10_deal_58 fl_X10_7 sh_111 rfl ?_
        refine kr_const (v := 0) d_X10_deal_61 ?_
        refine kr_ialoadC (j := 0) ⟨by decide, by decide, by decide⟩ d_X10_deal_62 sh_112 ?_
        refine kr_iadd d_X10_deal_63 ?_
        refine kr_irem d_X10_deal_64 ?_
        refine kr_vl (fun e11 => ?_)
        refine kr_istore5 d_X10_deal_65 (Nat.le_of_ble_eq_true rfl) kv_c1i ?_
        refine kr_aload0 d_X10_deal_67 ?_
        refine kr_const (v := 0) d_X10_deal_68 ?_
        refine kr_iload3 d_X10_deal_69 ?_
        refine kr_iload4 d_X10_deal_70 ?_
        refine kr_iload5 d_X10_deal_72 ?_
        refine kr_aload0 d_X10_deal_74 ?_
        refine kr_getR (q := 112) d_X10_deal_75 fl_X10_7 sh_111 rfl ?_
        refine kr_const (v := 0) d_X10_deal_78 ?_
        refine kr_ialoadC (j := 0) ⟨by decide, by decide, by decide⟩ d_X10_deal_79 sh_112 ?_
        refine kr_icmp_ne d_X10_deal_80 ?_ ?_
        · refine kr_iload5 d_X10_deal_87 ?_
          refine kr_iv_u (As := [.int 0, .int e5, .int e8, .int e11]) d_X10_deal_89 cl_X10_122 (m_X10_comes 0 e5 e8 e11 h9) sh_111 (Nat.le_of_ble_eq_true rfl) rfl (Nat.le_of_ble_eq_true rfl) (fun h12 => ?_)
          refine kr_iinc2 d_X10_deal_92 (Nat.le_of_ble_eq_true rfl) kv_c1i ?_
          refine kr_goto d_X10_deal_95 ?_
          refine kr_kill3 ?_
          refine kr_kill4 ?_
          refine kr_kill5 ?_
          exact ih (v2 + 1) h12 C hC
        · refine kr_const (v := (-1)) d_X10_deal_83 ?_
          refine kr_goto d_X10_deal_84 ?_
          refine kr_iv_u (As := [.int 0, .int e5, .int e8, .int (-1)]) d_X10_deal_89 cl_X10_122 (m_X10_comes 0 e5 e8 (-1) h9) sh_111 (Nat.le_of_ble_eq_true rfl) rfl (Nat.le_of_ble_eq_true rfl) (fun h13 => ?_)
          refine kr_iinc2 d_X10_deal_92 (Nat.le_of_ble_eq_true rfl) kv_c1i ?_
          refine kr_goto d_X10_deal_95 ?_
          refine kr_kill3 ?_
          refine kr_kill4 ?_
          refine kr_kill5 ?_
          exact ih (v2 + 1) h13 C hC

set_option maxRecDepth 20000 in
theorem m_X10_deal (x1 : Int32) (h : kv_H) : kv_M kv_i kK_X10_deal [.ref 111, .int x1] h (f_X10_deal x1 h) := by
  refine kv_met (ls := [some (.ref 111), some (.int x1), none, none, none, none]) (show plainName RX10 = true by decide +kernel) (fun _ => rfl) (fun _ => Nat.le_of_ble_eq_true rfl) ?_
  unfold f_X10_deal
  refine kr_iload1 d_X10_deal_0 ?_
  refine kr_i2l d_X10_deal_1 ?_
  refine kr_constL (v := 1) d_X10_deal_2 ?_
  refine kr_constL (v := 8) d_X10_deal_3 ?_
  refine kr_is_i (As := [.long (x1.toInt64), .long 1, .long 8]) d_X10_deal_6 cl_X10_83 (m_X10_isIn (x1.toInt64) 1 8 h) (Nat.le_of_ble_eq_true rfl) rfl (Nat.le_of_ble_eq_true rfl) (fun r2 h1 => ?_)
  refine kr_if_ne d_X10_deal_9 ?_ ?_
  · refine kr_const (v := 0) d_X10_deal_15 ?_
    refine kr_istore2 d_X10_deal_16 (Nat.le_of_ble_eq_true rfl) kv_c1i ?_
    refine s_f_X10_deal_L17 x1 kv_fu 0 h1 _ (fun z14 h15 => ?_)
    refine kr_iload2 d_X10_deal_98 ?_
    exact kr_ireturn d_X10_deal_99 rfl
  · refine kr_const (v := (-1000000001)) d_X10_deal_12 ?_
    exact kr_ireturn d_X10_deal_14 rfl

/-! X10_fullness -/
def f_X10_fullness_L4 : Nat → Int32 → Int32 → kv_H → (Int32 → kv_H → Option (Int32 × kv_H)) → Option (Int32 × kv_H)
  | 0, _, _, _, _ => none
  | n + 1, v1, v2, h, C => if (h 112 2) ≤ v2 then (C v1 h)
    else (kv_k (66 + v2) 3098 (kv_k (h 112 (66 + v2).toNatClampNeg) 8 (kv_vl (v1 + (h 123 (h 112 (66 + v2).toNatClampNeg).toNatClampNeg)) (fun e1 =>
      f_X10_fullness_L4 n e1 (v2 + 1) h C))))
def f_X10_fullness (h : kv_H) : Option (Int32 × kv_H) :=
  f_X10_fullness_L4 kv_fu 0 0 h (fun z2 h3 =>
  some (z2, h3))
set_option maxRecDepth 20000 in
theorem s_f_X10_fullness_L4 : ∀ (n : Nat) (v1 : Int32) (v2 : Int32) (h : kv_H) (C : Int32 → kv_H → Option (Int32 × kv_H)), (∀ (w1 : Int32) (h : kv_H), kv_S kv_i kK_X10_fullness 37 [none, some (.int w1), none] [] h (C w1 h)) → kv_S kv_i kK_X10_fullness 4 [some (.ref 111), some (.int v1), some (.int v2)] [] h (f_X10_fullness_L4 n v1 v2 h C) := by
  intro n
  induction n with
  | zero => intros; exact kv_none
  | succ n ih =>
    intro v1 v2 h C hC
    unfold f_X10_fullness_L4
    refine kr_iload2 d_X10_fullness_4 ?_
    refine kr_aload0 d_X10_fullness_5 ?_
    refine kr_getR (q := 112) d_X10_fullness_6 fl_X10_7 sh_111 rfl ?_
    refine kr_const (v := 2) d_X10_fullness_9 ?_
    refine kr_ialoadC (j := 2) ⟨by decide, by decide, by decide⟩ d_X10_fullness_10 sh_112 ?_
    refine kr_icmp_ge d_X10_fullness_11 ?_ ?_
    · refine kr_kill0 ?_
      refine kr_kill2 ?_
      exact hC v1 h
    · refine kr_iload1 d_X10_fullness_14 ?_
      refine kr_aload0 d_X10_fullness_15 ?_
      refine kr_getR (q := 123) d_X10_fullness_16 fl_X10_43 sh_111 rfl ?_
      refine kr_aload0 d_X10_fullness_19 ?_
      refine kr_getR (q := 112) d_X10_fullness_20 fl_X10_7 sh_111 rfl ?_
      refine kr_const (v := 66) d_X10_fullness_23 ?_
      refine kr_iload2 d_X10_fullness_25 ?_
      refine kr_iadd d_X10_fullness_26 ?_
      refine kr_iaload d_X10_fullness_27 sh_112 ?_
      refine kr_iaload d_X10_fullness_28 sh_123 ?_
      refine kr_iadd d_X10_fullness_29 ?_
      refine kr_vl (fun e1 => ?_)
      refine kr_istore1 d_X10_fullness_30 (Nat.le_of_ble_eq_true rfl) kv_c1a ?_
      refine kr_iinc2 d_X10_fullness_31 (Nat.le_of_ble_eq_true rfl) kv_c1i ?_
      refine kr_goto d_X10_fullness_34 ?_
      exact ih e1 (v2 + 1) h C hC

set_option maxRecDepth 20000 in
theorem m_X10_fullness (h : kv_H) : kv_M kv_i kK_X10_fullness [.ref 111] h (f_X10_fullness h) := by
  refine kv_met (ls := [some (.ref 111), none, none]) (show plainName RX10 = true by decide +kernel) (fun _ => rfl) (fun _ => Nat.le_of_ble_eq_true rfl) ?_
  unfold f_X10_fullness
  refine kr_const (v := 0) d_X10_fullness_0 ?_
  refine kr_istore1 d_X10_fullness_1 (Nat.le_of_ble_eq_true rfl) kv_c1a ?_
  refine kr_const (v := 0) d_X10_fullness_2 ?_
  refine kr_istore2 d_X10_fullness_3 (Nat.le_of_ble_eq_true rfl) kv_c1i ?_
  refine s_f_X10_fullness_L4 kv_fu 0 0 h _ (fun z2 h3 => ?_)
  refine kr_iload1 d_X10_fullness_37 ?_
  exact kr_ireturn d_X10_fullness_38 rfl

/-! X10_leaves -/
def f_X10_leaves_L12 : Nat → Int32 → kv_H → (kv_H → Option (Unit × kv_H)) → Option (Unit × kv_H)
  | 0, _, _, _ => none
  | n + 1, v2, h, C => if (h 112 2) ≤ v2 then (C h)
    else (kv_k ((66 + v2) + 1) 3098 (kv_k (66 + v2) 3098 (kv_hl (kv_up h 112 (66 + v2).toNatClampNeg (h 112 ((66 + v2) + 1).toNatClampNeg)) (fun h2 =>
      f_X10_leaves_L12 n (v2 + 1) h2 C))))
def f_X10_leaves (x1 : Int32) (h : kv_H) : Option (Unit × kv_H) :=
  kv_hl (kv_up h 112 2 ((h 112 2) - 1)) (fun h1 =>
  f_X10_leaves_L12 kv_fu x1 h1 (fun  h3 =>
  some ((), h3)))
set_option maxRecDepth 20000 in
theorem s_f_X10_leaves_L12 : ∀ (n : Nat) (v2 : Int32) (h : kv_H) (C : kv_H → Option (Unit × kv_H)), (∀  (h : kv_H), kv_S kv_u kK_X10_leaves 48 [none, none, none] [] h (C h)) → kv_S kv_u kK_X10_leaves 12 [some (.ref 111), none, some (.int v2)] [] h (f_X10_leaves_L12 n v2 h C) := by
  intro n
  induction n with
  | zero => intros; exact kv_none
  | succ n ih =>
    intro v2 h C hC
    unfold f_X10_leaves_L12
    refine kr_iload2 d_X10_leaves_12 ?_
    refine kr_aload0 d_X10_leaves_13 ?_
    refine kr_getR (q := 112) d_X10_leaves_14 fl_X10_7 sh_111 rfl ?_
    refine kr_const (v := 2) d_X10_leaves_17 ?_
    refine kr_ialoadC (j := 2) ⟨by decide, by decide, by decide⟩ d_X10_leaves_18 sh_112 ?_
    refine kr_icmp_ge d_X10_leaves_19 ?_ ?_
    · refine kr_kill0 ?_
      refine kr_kill2 ?_
      exact hC h
    · refine kr_aload0 d_X10_leaves_22 ?_
      refine kr_getR (q := 112) d_X10_leaves_23 fl_X10_7 sh_111 rfl ?_
      refine kr_const (v := 66) d_X10_leaves_26 ?_
      refine kr_iload2 d_X10_leaves_28 ?_
      refine kr_iadd d_X10_leaves_29 ?_
      refine kr_aload0 d_X10_leaves_30 ?_
      refine kr_getR (q := 112) d_X10_leaves_31 fl_X10_7 sh_111 rfl ?_
      refine kr_const (v := 66) d_X10_leaves_34 ?_
      refine kr_iload2 d_X10_leaves_36 ?_
      refine kr_iadd d_X10_leaves_37 ?_
      refine kr_const (v := 1) d_X10_leaves_38 ?_
      refine kr_iadd d_X10_leaves_39 ?_
      refine kr_iaload d_X10_leaves_40 sh_112 ?_
      refine kr_iastore d_X10_leaves_41 sh_112 ?_
      refine kr_hl (fun h2 => ?_)
      refine kr_iinc2 d_X10_leaves_42 (Nat.le_of_ble_eq_true rfl) kv_c1n ?_
      refine kr_goto d_X10_leaves_45 ?_
      exact ih (v2 + 1) h2 C hC

set_option maxRecDepth 20000 in
theorem m_X10_leaves (x1 : Int32) (h : kv_H) : kv_M kv_u kK_X10_leaves [.ref 111, .int x1] h (f_X10_leaves x1 h) := by
  refine kv_met (ls := [some (.ref 111), some (.int x1), none]) (show plainName RX10 = true by decide +kernel) (fun _ => rfl) (fun _ => Nat.le_of_ble_eq_true rfl) ?_
  unfold f_X10_leaves
  refine kr_aload0 d_X10_leaves_0 ?_
  refine kr_getR (q := 112) d_X10_leaves_1 fl_X10_7 sh_111 rfl ?_
  refine kr_const (v := 2) d_X10_leaves_4 ?_
  refine kr_dup2 d_X10_leaves_5 rfl rfl ?_
  refine kr_ialoadC (j := 2) ⟨by decide, by decide, by decide⟩ d_X10_leaves_6 sh_112 ?_
  refine kr_const (v := 1) d_X10_leaves_7 ?_
  refine kr_isub d_X10_leaves_8 ?_
  refine kr_iastoreC (j := 2) ⟨by decide, by decide, by decide⟩ d_X10_leaves_9 sh_112 ?_
  refine kr_hl (fun h1 => ?_)
  refine kr_iload1 d_X10_leaves_10 ?_
  refine kr_istore2 d_X10_leaves_11 (Nat.le_of_ble_eq_true rfl) kv_c1i ?_
  refine kr_kill1 ?_
  refine s_f_X10_leaves_L12 kv_fu x1 h1 _ (fun  h3 => ?_)
  exact kr_return d_X10_leaves_48 rfl

/-! X10_isLeaned -/
def f_X10_isLeaned_L4 (c1 : Int32) : Nat → Int32 → Int32 → kv_H → (Int32 → kv_H → Option (Int32 × kv_H)) → Option (Int32 × kv_H)
  | 0, _, _, _, _ => none
  | n + 1, v2, v3, h, C => if (h 112 2) ≤ v3 then (C v2 h)
    else (if v2 = 0 then (kv_k (66 + v3) 3098 (kv_b (f_X10_leafAt (h 112 (66 + v3).toNatClampNeg) h) (fun r2 h1 =>
        kv_k (r2 + 4) 3098 (if (h1 112 (r2 + 4).toNatClampNeg) = c1 then (f_X10_isLeaned_L4 c1 n 1 (v3 + 1) h1 C)
        else (f_X10_isLeaned_L4 c1 n 0 (v3 + 1) h1 C)))))
      else (f_X10_isLeaned_L4 c1 n 1 (v3 + 1) h C))
def f_X10_isLeaned (x1 : Int32) (h : kv_H) : Option (Int32 × kv_H) :=
  f_X10_isLeaned_L4 x1 kv_fu 0 0 h (fun z3 h4 =>
  kv_t .boolean z3 (some (z3, h4)))
set_option maxRecDepth 20000 in
theorem s_f_X10_isLeaned_L4 (c1 : Int32) : ∀ (n : Nat) (v2 : Int32) (v3 : Int32) (h : kv_H) (C : Int32 → kv_H → Option (Int32 × kv_H)), (∀ (w2 : Int32) (h : kv_H), kv_S kv_i kK_X10_isLeaned 54 [none, none, some (.int w2), none] [] h (C w2 h)) → kv_S kv_i kK_X10_isLeaned 4 [some (.ref 111), some (.int c1), some (.int v2), some (.int v3)] [] h (f_X10_isLeaned_L4 c1 n v2 v3 h C) := by
  intro n
  induction n with
  | zero => intros; exact kv_none
  | succ n ih =>
    intro v2 v3 h C hC
    unfold f_X10_isLeaned_L4
    refine kr_iload3 d_X10_isLeaned_4 ?_
    refine kr_aload0 d_X10_isLeaned_5 ?_
    refine kr_getR (q := 112) d_X10_isLeaned_6 fl_X10_7 sh_111 rfl ?_
    refine kr_const (v := 2) d_X10_isLeaned_9 ?_
    refine kr_ialoadC (j := 2) ⟨by decide, by decide, by decide⟩ d_X10_isLeaned_10 sh_112 ?_
    refine kr_icmp_ge d_X10_isLeaned_11 ?_ ?_
    · refine kr_kill0 ?_
      refine kr_kill1 ?_
      refine kr_kill3 ?_
      exact hC v2 h
    · refine kr_iload2 d_X10_isLeaned_14 ?_
      refine kr_if_ne d_X10_isLeaned_15 ?_ ?_
      · refine kr_const (v := 1) d_X10_isLeaned_42 ?_
        refine kr_goto d_X10_isLeaned_43 ?_
        refine kr_istore2 d_X10_isLeaned_47 (Nat.le_of_ble_eq_true rfl) kv_c1i ?_
        refine kr_iinc3 d_X10_isLeaned_48 (Nat.le_of_ble_eq_true rfl) kv_c1i ?_
        refine kr_goto d_X10_isLeaned_51 ?_
        exact ih 1 (v3 + 1) h C hC
      · refine kr_aload0 d_X10_isLeaned_18 ?_
        refine kr_getR (q := 112) d_X10_isLeaned_19 fl_X10_7 sh_111 rfl ?_
        refine kr_aload0 d_X10_isLeaned_22 ?_
        refine kr_aload0 d_X10_isLeaned_23 ?_
        refine kr_getR (q := 112) d_X10_isLeaned_24 fl_X10_7 sh_111 rfl ?_
        refine kr_const (v := 66) d_X10_isLeaned_27 ?_
        refine kr_iload3 d_X10_isLeaned_29 ?_
        refine kr_iadd d_X10_isLeaned_30 ?_
        refine kr_iaload d_X10_isLeaned_31 sh_112 ?_
        refine kr_iv_i (As := [.int (h 112 (66 + v3).toNatClampNeg)]) d_X10_isLeaned_32 cl_X10_92 (m_X10_leafAt (h 112 (66 + v3).toNatClampNeg) h) sh_111 (Nat.le_of_ble_eq_true rfl) rfl (Nat.le_of_ble_eq_true rfl) (fun r2 h1 => ?_)
        refine kr_const (v := 4) d_X10_isLeaned_35 ?_
        refine kr_iadd d_X10_isLeaned_36 ?_
        refine kr_iaload d_X10_isLeaned_37 sh_112 ?_
        refine kr_iload1 d_X10_isLeaned_38 ?_
        refine kr_icmp_ne d_X10_isLeaned_39 ?_ ?_
        · refine kr_const (v := 0) d_X10_isLeaned_46 ?_
          refine kr_istore2 d_X10_isLeaned_47 (Nat.le_of_ble_eq_true rfl) kv_c1i ?_
          refine kr_iinc3 d_X10_isLeaned_48 (Nat.le_of_ble_eq_true rfl) kv_c1i ?_
          refine kr_goto d_X10_isLeaned_51 ?_
          exact ih 0 (v3 + 1) h1 C hC
        · refine kr_const (v := 1) d_X10_isLeaned_42 ?_
          refine kr_goto d_X10_isLeaned_43 ?_
          refine kr_istore2 d_X10_isLeaned_47 (Nat.le_of_ble_eq_true rfl) kv_c1i ?_
          refine kr_iinc3 d_X10_isLeaned_48 (Nat.le_of_ble_eq_true rfl) kv_c1i ?_
          refine kr_goto d_X10_isLeaned_51 ?_
          exact ih 1 (v3 + 1) h1 C hC

set_option maxRecDepth 20000 in
theorem m_X10_isLeaned (x1 : Int32) (h : kv_H) : kv_M kv_i kK_X10_isLeaned [.ref 111, .int x1] h (f_X10_isLeaned x1 h) := by
  refine kv_met (ls := [some (.ref 111), some (.int x1), none, none]) (show plainName RX10 = true by decide +kernel) (fun _ => rfl) (fun _ => Nat.le_of_ble_eq_true rfl) ?_
  unfold f_X10_isLeaned
  refine kr_const (v := 0) d_X10_isLeaned_0 ?_
  refine kr_istore2 d_X10_isLeaned_1 (Nat.le_of_ble_eq_true rfl) kv_c1i ?_
  refine kr_const (v := 0) d_X10_isLeaned_2 ?_
  refine kr_istore3 d_X10_isLeaned_3 (Nat.le_of_ble_eq_true rfl) kv_c1i ?_
  refine s_f_X10_isLeaned_L4 x1 kv_fu 0 0 h _ (fun z3 h4 => ?_)
  refine kr_iload2 d_X10_isLeaned_54 ?_
  exact kr_zreturn d_X10_isLeaned_55 rfl

/-! X10_mayGo -/
def f_X10_mayGo (x1 : Int32) (h : kv_H) : Option (Int32 × kv_H) :=
  if (h 112 5) = 0 then (some (1, h))
  else (kv_k (66 + x1) 3098 (kv_b (f_X10_isLeaned (h 112 (66 + x1).toNatClampNeg) h) (fun r2 h1 =>
    if r2 = 0 then (some (1, h1))
    else (some (0, h1)))))
set_option maxRecDepth 20000 in
theorem m_X10_mayGo (x1 : Int32) (h : kv_H) : kv_M kv_i kK_X10_mayGo [.ref 111, .int x1] h (f_X10_mayGo x1 h) := by
  refine kv_met (ls := [some (.ref 111), some (.int x1)]) (show plainName RX10 = true by decide +kernel) (fun _ => rfl) (fun _ => Nat.le_of_ble_eq_true rfl) ?_
  unfold f_X10_mayGo
  refine kr_aload0 d_X10_mayGo_0 ?_
  refine kr_getR (q := 112) d_X10_mayGo_1 fl_X10_7 sh_111 rfl ?_
  refine kr_const (v := 5) d_X10_mayGo_4 ?_
  refine kr_ialoadC (j := 5) ⟨by decide, by decide, by decide⟩ d_X10_mayGo_5 sh_112 ?_
  refine kr_if_eq d_X10_mayGo_6 ?_ ?_
  · refine kr_const (v := 1) d_X10_mayGo_25 ?_
    refine kr_goto d_X10_mayGo_26 ?_
    exact kr_zreturnK (by decide) d_X10_mayGo_30 rfl
  · refine kr_aload0 d_X10_mayGo_9 ?_
    refine kr_aload0 d_X10_mayGo_10 ?_
    refine kr_getR (q := 112) d_X10_mayGo_11 fl_X10_7 sh_111 rfl ?_
    refine kr_const (v := 66) d_X10_mayGo_14 ?_
    refine kr_iload1 d_X10_mayGo_16 ?_
    refine kr_iadd d_X10_mayGo_17 ?_
    refine kr_iaload d_X10_mayGo_18 sh_112 ?_
    refine kr_iv_i (As := [.int (h 112 (66 + x1).toNatClampNeg)]) d_X10_mayGo_19 cl_X10_158 (m_X10_isLeaned (h 112 (66 + x1).toNatClampNeg) h) sh_111 (Nat.le_of_ble_eq_true rfl) rfl (Nat.le_of_ble_eq_true rfl) (fun r2 h1 => ?_)
    refine kr_if_ne d_X10_mayGo_22 ?_ ?_
    · refine kr_const (v := 0) d_X10_mayGo_29 ?_
      exact kr_zreturnK (by decide) d_X10_mayGo_30 rfl
    · refine kr_const (v := 1) d_X10_mayGo_25 ?_
      refine kr_goto d_X10_mayGo_26 ?_
      exact kr_zreturnK (by decide) d_X10_mayGo_30 rfl

/-! X10_speaks -/
def f_X10_speaks (x1 : Int32) (h : kv_H) : Option (Int32 × kv_H) :=
  kv_k (66 + x1) 3098 (kv_vl (h 112 (66 + x1).toNatClampNeg) (fun e1 =>
  kv_b (f_X10_leafAt e1 h) (fun r3 h2 =>
  kv_b (f_X10_counts 2 h2) (fun r5 h4 =>
  if (h4 112 4) = (1 : Int32) then (kv_k (r3 + 6) 3098 (some ((-(h4 112 (r3 + 6).toNatClampNeg)), h4)))
  else (if (h4 112 4) = (2 : Int32) then (kv_k (r3 + 5) 3098 (some ((-(h4 112 (r3 + 5).toNatClampNeg)), h4)))
    else (if (h4 112 4) < (4 : Int32) then (some (0, h4))
      else (if 0 ≤ r5 then (kv_k (r3 + 6) 3098 (kv_hl (kv_up h4 131 97 ((h4 112 6) - (h4 112 (r3 + 6).toNatClampNeg))) (fun h6 =>
          kv_k (r3 + 5) 3098 (kv_hl (kv_up h6 131 116 (h6 112 (r3 + 5).toNatClampNeg)) (fun h7 =>
          kv_k e1 8 (kv_hl (kv_up h7 131 114 (h7 123 e1.toNatClampNeg)) (fun h8 =>
          kv_hl (kv_up h8 131 110 e1) (fun h9 =>
          kv_b (f_X10_worked r5 h9) (fun r11 h10 =>
          some (r11, h10))))))))))
        else (some (0, h4)))))))))
set_option maxRecDepth 20000 in
theorem m_X10_speaks (x1 : Int32) (h : kv_H) : kv_M kv_i kK_X10_speaks [.ref 111, .int x1] h (f_X10_speaks x1 h) := by
  refine kv_met (ls := [some (.ref 111), some (.int x1), none, none, none]) (show plainName RX10 = true by decide +kernel) (fun _ => rfl) (fun _ => Nat.le_of_ble_eq_true rfl) ?_
  unfold f_X10_speaks
  refine kr_aload0 d_X10_speaks_0 ?_
  refine kr_getR (q := 112) d_X10_speaks_1 fl_X10_7 sh_111 rfl ?_
  refine kr_const (v := 66) d_X10_speaks_4 ?_
  refine kr_iload1 d_X10_speaks_6 ?_
  refine kr_iadd d_X10_speaks_7 ?_
  refine kr_iaload d_X10_speaks_8 sh_112 ?_
  refine kr_vl (fun e1 => ?_)
  refine kr_istore2 d_X10_speaks_9 (Nat.le_of_ble_eq_true rfl) kv_c1i ?_
  refine kr_aload0 d_X10_speaks_10 ?_
  refine kr_iload2 d_X10_speaks_11 ?_
  refine kr_iv_i (As := [.int e1]) d_X10_speaks_12 cl_X10_92 (m_X10_leafAt e1 h) sh_111 (Nat.le_of_ble_eq_true rfl) rfl (Nat.le_of_ble_eq_true rfl) (fun r3 h2 => ?_)
  refine kr_istore3 d_X10_speaks_15 (Nat.le_of_ble_eq_true rfl) kv_c1i ?_
  refine kr_aload0 d_X10_speaks_16 ?_
  refine kr_const (v := 2) d_X10_speaks_17 ?_
  refine kr_iv_i (As := [.int 2]) d_X10_speaks_18 cl_X10_88 (m_X10_counts 2 h2) sh_111 (Nat.le_of_ble_eq_true rfl) rfl (Nat.le_of_ble_eq_true rfl) (fun r5 h4 => ?_)
  refine kr_istore4 d_X10_speaks_21 (Nat.le_of_ble_eq_true rfl) kv_c1i ?_
  refine kr_aload0 d_X10_speaks_23 ?_
  refine kr_getR (q := 112) d_X10_speaks_24 fl_X10_7 sh_111 rfl ?_
  refine kr_const (v := 4) d_X10_speaks_27 ?_
  refine kr_ialoadC (j := 4) ⟨by decide, by decide, by decide⟩ d_X10_speaks_28 sh_112 ?_
  refine kr_const (v := 1) d_X10_speaks_29 ?_
  refine kr_icmp_ne d_X10_speaks_30 ?_ ?_
  · refine kr_aload0 d_X10_speaks_44 ?_
    refine kr_getR (q := 112) d_X10_speaks_45 fl_X10_7 sh_111 rfl ?_
    refine kr_const (v := 4) d_X10_speaks_48 ?_
    refine kr_ialoadC (j := 4) ⟨by decide, by decide, by decide⟩ d_X10_speaks_49 sh_112 ?_
    refine kr_const (v := 2) d_X10_speaks_50 ?_
    refine kr_icmp_ne d_X10_speaks_51 ?_ ?_
    · refine kr_aload0 d_X10_speaks_64 ?_
      refine kr_getR (q := 112) d_X10_speaks_65 fl_X10_7 sh_111 rfl ?_
      refine kr_const (v := 4) d_X10_speaks_68 ?_
      refine kr_ialoadC (j := 4) ⟨by decide, by decide, by decide⟩ d_X10_speaks_69 sh_112 ?_
      refine kr_const (v := 4) d_X10_speaks_70 ?_
      refine kr_icmp_lt d_X10_speaks_71 ?_ ?_
      · refine kr_const (v := 0) d_X10_speaks_79 ?_
        exact kr_ireturn d_X10_speaks_80 rfl
      · refine kr_iload4 d_X10_speaks_74 ?_
        refine kr_if_ge d_X10_speaks_76 ?_ ?_
        · refine kr_aload0 d_X10_speaks_81 ?_
          refine kr_getR (q := 131) d_X10_speaks_82 fl_X10_67 sh_111 rfl ?_
          refine kr_const (v := 97) d_X10_speaks_85 ?_
          refine kr_aload0 d_X10_speaks_87 ?_
          refine kr_getR (q := 112) d_X10_speaks_88 fl_X10_7 sh_111 rfl ?_
          refine kr_const (v := 6) d_X10_speaks_91 ?_
          refine kr_ialoadC (j := 6) ⟨by decide, by decide, by decide⟩ d_X10_speaks_93 sh_112 ?_
          refine kr_aload0 d_X10_speaks_94 ?_
          refine kr_getR (q := 112) d_X10_speaks_95 fl_X10_7 sh_111 rfl ?_
          refine kr_iload3 d_X10_speaks_98 ?_
          refine kr_const (v := 6) d_X10_speaks_99 ?_
          refine kr_iadd d_X10_speaks_101 ?_
          refine kr_iaload d_X10_speaks_102 sh_112 ?_
          refine kr_isub d_X10_speaks_103 ?_
          refine kr_iastoreC (j := 97) ⟨by decide, by decide, by decide⟩ d_X10_speaks_104 sh_131 ?_
          refine kr_hl (fun h6 => ?_)
          refine kr_aload0 d_X10_speaks_105 ?_
          refine kr_getR (q := 131) d_X10_speaks_106 fl_X10_67 sh_111 rfl ?_
          refine kr_const (v := 116) d_X10_speaks_109 ?_
          refine kr_aload0 d_X10_speaks_111 ?_
          refine kr_getR (q := 112) d_X10_speaks_112 fl_X10_7 sh_111 rfl ?_
          refine kr_iload3 d_X10_speaks_115 ?_
          refine kr_const (v := 5) d_X10_speaks_116 ?_
          refine kr_iadd d_X10_speaks_117 ?_
          refine kr_iaload d_X10_speaks_118 sh_112 ?_
          refine kr_iastoreC (j := 116) ⟨by decide, by decide, by decide⟩ d_X10_speaks_119 sh_131 ?_
          refine kr_hl (fun h7 => ?_)
          refine kr_aload0 d_X10_speaks_120 ?_
          refine kr_getR (q := 131) d_X10_speaks_121 fl_X10_67 sh_111 rfl ?_
          refine kr_const (v := 114) d_X10_speaks_124 ?_
          refine kr_aload0 d_X10_speaks_126 ?_
          refine kr_getR (q := 123) d_X10_speaks_127 fl_X10_43 sh_111 rfl ?_
          refine kr_iload2 d_X10_speaks_130 ?_
          refine kr_iaload d_X10_speaks_131 sh_123 ?_
          refine kr_iastoreC (j := 114) ⟨by decide, by decide, by decide⟩ d_X10_speaks_132 sh_131 ?_
          refine kr_hl (fun h8 => ?_)
          refine kr_aload0 d_X10_speaks_133 ?_
          refine kr_getR (q := 131) d_X10_speaks_134 fl_X10_67 sh_111 rfl ?_
          refine kr_const (v := 110) d_X10_speaks_137 ?_
          refine kr_iload2 d_X10_speaks_139 ?_
          refine kr_iastoreC (j := 110) ⟨by decide, by decide, by decide⟩ d_X10_speaks_140 sh_131 ?_
          refine kr_hl (fun h9 => ?_)
          refine kr_aload0 d_X10_speaks_141 ?_
          refine kr_iload4 d_X10_speaks_142 ?_
          refine kr_iv_i (As := [.int r5]) d_X10_speaks_144 cl_X10_95 (m_X10_worked r5 h9) sh_111 (Nat.le_of_ble_eq_true rfl) rfl (Nat.le_of_ble_eq_true rfl) (fun r11 h10 => ?_)
          exact kr_ireturn d_X10_speaks_147 rfl
        · refine kr_const (v := 0) d_X10_speaks_79 ?_
          exact kr_ireturn d_X10_speaks_80 rfl
    · refine kr_aload0 d_X10_speaks_54 ?_
      refine kr_getR (q := 112) d_X10_speaks_55 fl_X10_7 sh_111 rfl ?_
      refine kr_iload3 d_X10_speaks_58 ?_
      refine kr_const (v := 5) d_X10_speaks_59 ?_
      refine kr_iadd d_X10_speaks_60 ?_
      refine kr_iaload d_X10_speaks_61 sh_112 ?_
      refine kr_ineg d_X10_speaks_62 ?_
      exact kr_ireturn d_X10_speaks_63 rfl
  · refine kr_aload0 d_X10_speaks_33 ?_
    refine kr_getR (q := 112) d_X10_speaks_34 fl_X10_7 sh_111 rfl ?_
    refine kr_iload3 d_X10_speaks_37 ?_
    refine kr_const (v := 6) d_X10_speaks_38 ?_
    refine kr_iadd d_X10_speaks_40 ?_
    refine kr_iaload d_X10_speaks_41 sh_112 ?_
    refine kr_ineg d_X10_speaks_42 ?_
    exact kr_ireturn d_X10_speaks_43 rfl

/-! X10_goesFirst -/
def f_X10_goesFirst_L4 : Nat → Int32 → Int32 → kv_H → (Int32 → kv_H → Option (Int32 × kv_H)) → Option (Int32 × kv_H)
  | 0, _, _, _, _ => none
  | n + 1, v1, v2, h, C => if (h 112 2) ≤ v2 then (C v1 h)
    else (kv_b (f_X10_mayGo v2 h) (fun r2 h1 =>
      if r2 = 0 then (kv_vl (v1 + 0) (fun e3 =>
        f_X10_goesFirst_L4 n e3 (v2 + 1) h1 C))
      else (kv_vl (v1 + 1) (fun e4 =>
        f_X10_goesFirst_L4 n e4 (v2 + 1) h1 C))))
def f_X10_goesFirst_L69 : Nat → Int32 → Int32 → Int32 → Int32 → kv_H → (Int32 → kv_H → Option (Int32 × kv_H)) → Option (Int32 × kv_H)
  | 0, _, _, _, _, _, _ => none
  | n + 1, v2, v3, v4, v5, h, C => if (h 112 2) ≤ v5 then (C v3 h)
    else (kv_b (f_X10_mayGo v5 h) (fun r10 h9 =>
      if r10 = 0 then (f_X10_goesFirst_L69 n v2 v3 v4 (v5 + 1) h9 C)
      else (kv_jn (fun (y11 : Int32) (h12 : kv_H) =>
        kv_jn (fun  (h13 : kv_H) =>
          f_X10_goesFirst_L69 n (v2 + (-1)) v5 y11 (v5 + 1) h13 C) (fun (J136 : kv_H → Option (Int32 × kv_H)) =>
          if v3 < 0 then (J136 h12)
          else (if y11 ≤ v4 then (f_X10_goesFirst_L69 n (v2 + (-1)) v3 v4 (v5 + 1) h12 C)
            else (J136 h12)))) (fun (J120 : Int32 → kv_H → Option (Int32 × kv_H)) =>
        if (h9 112 4) = (3 : Int32) then (if v2 = 0 then (J120 1 h9)
          else (J120 0 h9))
        else (kv_b (f_X10_speaks v5 h9) (fun r15 h14 =>
          J120 r15 h14))))))
def f_X10_goesFirst (h : kv_H) : Option (Int32 × kv_H) :=
  f_X10_goesFirst_L4 kv_fu 0 0 h (fun z5 h6 =>
  kv_jn (fun (y7 : Int32) (h8 : kv_H) =>
    f_X10_goesFirst_L69 kv_fu y7 (-1) 0 0 h8 (fun z16 h17 =>
      some (z16, h17))) (fun (J60 : Int32 → kv_H → Option (Int32 × kv_H)) =>
    kv_jn (fun  (h18 : kv_H) =>
    J60 0 h18) (fun (J59 : kv_H → Option (Int32 × kv_H)) =>
    if (h6 112 4) = (3 : Int32) then (if z5 ≤ 0 then (J59 h6)
      else (kv_b (f_X10_drawn h6) (fun r20 h19 =>
        kv_z z5 (J60 (r20 - r20 / z5 * z5) h19))))
    else (J59 h6))))
set_option maxRecDepth 20000 in
theorem s_f_X10_goesFirst_L4 : ∀ (n : Nat) (v1 : Int32) (v2 : Int32) (h : kv_H) (C : Int32 → kv_H → Option (Int32 × kv_H)), (∀ (w1 : Int32) (h : kv_H), kv_S kv_i kK_X10_goesFirst 36 [some (.ref 111), some (.int w1), none, none, none, none, none] [] h (C w1 h)) → kv_S kv_i kK_X10_goesFirst 4 [some (.ref 111), some (.int v1), some (.int v2), none, none, none, none] [] h (f_X10_goesFirst_L4 n v1 v2 h C) := by
  intro n
  induction n with
  | zero => intros; exact kv_none
  | succ n ih =>
    intro v1 v2 h C hC
    unfold f_X10_goesFirst_L4
    refine kr_iload2 d_X10_goesFirst_4 ?_
    refine kr_aload0 d_X10_goesFirst_5 ?_
    refine kr_getR (q := 112) d_X10_goesFirst_6 fl_X10_7 sh_111 rfl ?_
    refine kr_const (v := 2) d_X10_goesFirst_9 ?_
    refine kr_ialoadC (j := 2) ⟨by decide, by decide, by decide⟩ d_X10_goesFirst_10 sh_112 ?_
    refine kr_icmp_ge d_X10_goesFirst_11 ?_ ?_
    · refine kr_kill2 ?_
      exact hC v1 h
    · refine kr_iload1 d_X10_goesFirst_14 ?_
      refine kr_aload0 d_X10_goesFirst_15 ?_
      refine kr_iload2 d_X10_goesFirst_16 ?_
      refine kr_iv_i (As := [.int v2]) d_X10_goesFirst_17 cl_X10_161 (m_X10_mayGo v2 h) sh_111 (Nat.le_of_ble_eq_true rfl) rfl (Nat.le_of_ble_eq_true rfl) (fun r2 h1 => ?_)
      refine kr_if_eq d_X10_goesFirst_20 ?_ ?_
      · refine kr_const (v := 0) d_X10_goesFirst_27 ?_
        refine kr_iadd d_X10_goesFirst_28 ?_
        refine kr_vl (fun e3 => ?_)
        refine kr_istore1 d_X10_goesFirst_29 (Nat.le_of_ble_eq_true rfl) kv_c1a ?_
        refine kr_iinc2 d_X10_goesFirst_30 (Nat.le_of_ble_eq_true rfl) kv_c1i ?_
        refine kr_goto d_X10_goesFirst_33 ?_
        exact ih e3 (v2 + 1) h1 C hC
      · refine kr_const (v := 1) d_X10_goesFirst_23 ?_
        refine kr_goto d_X10_goesFirst_24 ?_
        refine kr_iadd d_X10_goesFirst_28 ?_
        refine kr_vl (fun e4 => ?_)
        refine kr_istore1 d_X10_goesFirst_29 (Nat.le_of_ble_eq_true rfl) kv_c1a ?_
        refine kr_iinc2 d_X10_goesFirst_30 (Nat.le_of_ble_eq_true rfl) kv_c1i ?_
        refine kr_goto d_X10_goesFirst_33 ?_
        exact ih e4 (v2 + 1) h1 C hC

set_option maxRecDepth 20000 in
theorem s_f_X10_goesFirst_L69 : ∀ (n : Nat) (v2 : Int32) (v3 : Int32) (v4 : Int32) (v5 : Int32) (h : kv_H) (C : Int32 → kv_H → Option (Int32 × kv_H)), (∀ (w3 : Int32) (h : kv_H), kv_S kv_i kK_X10_goesFirst 149 [none, none, none, some (.int w3), none, none, none] [] h (C w3 h)) → kv_S kv_i kK_X10_goesFirst 69 [some (.ref 111), none, some (.int v2), some (.int v3), some (.int v4), some (.int v5), none] [] h (f_X10_goesFirst_L69 n v2 v3 v4 v5 h C) := by
  intro n
  induction n with
  | zero => intros; exact kv_none
  | succ n ih =>
    intro v2 v3 v4 v5 h C hC
    unfold f_X10_goesFirst_L69
    refine kr_iload5 d_X10_goesFirst_69 ?_
    refine kr_aload0 d_X10_goesFirst_71 ?_
    refine kr_getR (q := 112) d_X10_goesFirst_72 fl_X10_7 sh_111 rfl ?_
    refine kr_const (v := 2) d_X10_goesFirst_75 ?_
    refine kr_ialoadC (j := 2) ⟨by decide, by decide, by decide⟩ d_X10_goesFirst_76 sh_112 ?_
    refine kr_icmp_ge d_X10_goesFirst_77 ?_ ?_
    · refine kr_kill0 ?_
      refine kr_kill2 ?_
      refine kr_kill4 ?_
      refine kr_kill5 ?_
      exact hC v3 h
    · refine kr_aload0 d_X10_goesFirst_80 ?_
      refine kr_iload5 d_X10_goesFirst_81 ?_
      refine kr_iv_i (As := [.int v5]) d_X10_goesFirst_83 cl_X10_161 (m_X10_mayGo v5 h) sh_111 (Nat.le_of_ble_eq_true rfl) rfl (Nat.le_of_ble_eq_true rfl) (fun r10 h9 => ?_)
      refine kr_if_ne d_X10_goesFirst_86 ?_ ?_
      · refine kr_aload0 d_X10_goesFirst_92 ?_
        refine kr_getR (q := 112) d_X10_goesFirst_93 fl_X10_7 sh_111 rfl ?_
        refine kr_const (v := 4) d_X10_goesFirst_96 ?_
        refine kr_ialoadC (j := 4) ⟨by decide, by decide, by decide⟩ d_X10_goesFirst_97 sh_112 ?_
        refine kr_const (v := 3) d_X10_goesFirst_98 ?_
        refine kr_jn (P := fun J120 => ∀ (y11 : Int32), ∀ (h12 : kv_H), kv_S kv_i kK_X10_goesFirst 120 [some (.ref 111), none, some (.int v2), some (.int v3), some (.int v4), some (.int v5), none] [.int y11] h12 (J120 y11 h12)) (fun y11 h12 => ?_) (fun J120 hJ120 => ?_)
        · refine kr_istore6 d_X10_goesFirst_120 (Nat.le_of_ble_eq_true rfl) kv_c1i ?_
          refine kr_iinc2 d_X10_goesFirst_122 (Nat.le_of_ble_eq_true rfl) kv_c1n ?_
          refine kr_iload3 d_X10_goesFirst_125 ?_
          refine kr_jn (P := fun J136 =>  ∀ (h13 : kv_H), kv_S kv_i kK_X10_goesFirst 136 [some (.ref 111), none, some (.int (v2 + (-1))), none, none, some (.int v5), some (.int y11)] [] h13 (J136  h13)) (fun  h13 => ?_) (fun J136 hJ136 => ?_)
          · refine kr_iload5 d_X10_goesFirst_136 ?_
            refine kr_istore3 d_X10_goesFirst_138 (Nat.le_of_ble_eq_true rfl) kv_c1i ?_
            refine kr_iload6 d_X10_goesFirst_139 ?_
            refine kr_istore4 d_X10_goesFirst_141 (Nat.le_of_ble_eq_true rfl) kv_c1i ?_
            refine kr_iinc5 d_X10_goesFirst_143 (Nat.le_of_ble_eq_true rfl) kv_c1i ?_
            refine kr_goto d_X10_goesFirst_146 ?_
            refine kr_kill6 ?_
            exact ih (v2 + (-1)) v5 y11 (v5 + 1) h13 C hC
          refine kr_if_lt d_X10_goesFirst_126 ?_ ?_
          · refine kr_kill3 ?_
            refine kr_kill4 ?_
            exact hJ136 h12
          · refine kr_iload6 d_X10_goesFirst_129 ?_
            refine kr_iload4 d_X10_goesFirst_131 ?_
            refine kr_icmp_le d_X10_goesFirst_133 ?_ ?_
            · refine kr_iinc5 d_X10_goesFirst_143 (Nat.le_of_ble_eq_true rfl) kv_c1i ?_
              refine kr_goto d_X10_goesFirst_146 ?_
              refine kr_kill6 ?_
              exact ih (v2 + (-1)) v3 v4 (v5 + 1) h12 C hC
            · refine kr_kill3 ?_
              refine kr_kill4 ?_
              exact hJ136 h12
        refine kr_icmp_ne d_X10_goesFirst_99 ?_ ?_
        · refine kr_aload0 d_X10_goesFirst_114 ?_
          refine kr_iload5 d_X10_goesFirst_115 ?_
          refine kr_iv_i (As := [.int v5]) d_X10_goesFirst_117 cl_X10_164 (m_X10_speaks v5 h9) sh_111 (Nat.le_of_ble_eq_true rfl) rfl (Nat.le_of_ble_eq_true rfl) (fun r15 h14 => ?_)
          exact hJ120 r15 h14
        · refine kr_iload2 d_X10_goesFirst_102 ?_
          refine kr_if_ne d_X10_goesFirst_103 ?_ ?_
          · refine kr_const (v := 0) d_X10_goesFirst_110 ?_
            refine kr_goto d_X10_goesFirst_111 ?_
            exact hJ120 0 h9
          · refine kr_const (v := 1) d_X10_goesFirst_106 ?_
            refine kr_goto d_X10_goesFirst_107 ?_
            exact hJ120 1 h9
      · refine kr_goto d_X10_goesFirst_89 ?_
        refine kr_iinc5 d_X10_goesFirst_143 (Nat.le_of_ble_eq_true rfl) kv_c1i ?_
        refine kr_goto d_X10_goesFirst_146 ?_
        exact ih v2 v3 v4 (v5 + 1) h9 C hC

set_option maxRecDepth 20000 in
theorem m_X10_goesFirst (h : kv_H) : kv_M kv_i kK_X10_goesFirst [.ref 111] h (f_X10_goesFirst h) := by
  refine kv_met (ls := [some (.ref 111), none, none, none, none, none, none]) (show plainName RX10 = true by decide +kernel) (fun _ => rfl) (fun _ => Nat.le_of_ble_eq_true rfl) ?_
  unfold f_X10_goesFirst
  refine kr_const (v := 0) d_X10_goesFirst_0 ?_
  refine kr_istore1 d_X10_goesFirst_1 (Nat.le_of_ble_eq_true rfl) kv_c1a ?_
  refine kr_const (v := 0) d_X10_goesFirst_2 ?_
  refine kr_istore2 d_X10_goesFirst_3 (Nat.le_of_ble_eq_true rfl) kv_c1i ?_
  refine s_f_X10_goesFirst_L4 kv_fu 0 0 h _ (fun z5 h6 => ?_)
  refine kr_aload0 d_X10_goesFirst_36 ?_
  refine kr_getR (q := 112) d_X10_goesFirst_37 fl_X10_7 sh_111 rfl ?_
  refine kr_const (v := 4) d_X10_goesFirst_40 ?_
  refine kr_ialoadC (j := 4) ⟨by decide, by decide, by decide⟩ d_X10_goesFirst_41 sh_112 ?_
  refine kr_const (v := 3) d_X10_goesFirst_42 ?_
  refine kr_jn (P := fun J60 => ∀ (y7 : Int32), ∀ (h8 : kv_H), kv_S kv_i kK_X10_goesFirst 60 [some (.ref 111), none, none, none, none, none, none] [.int y7] h8 (J60 y7 h8)) (fun y7 h8 => ?_) (fun J60 hJ60 => ?_)
  · refine kr_istore2 d_X10_goesFirst_60 (Nat.le_of_ble_eq_true rfl) kv_c1n ?_
    refine kr_const (v := (-1)) d_X10_goesFirst_61 ?_
    refine kr_istore3 d_X10_goesFirst_62 (Nat.le_of_ble_eq_true rfl) kv_c1i ?_
    refine kr_const (v := 0) d_X10_goesFirst_63 ?_
    refine kr_istore4 d_X10_goesFirst_64 (Nat.le_of_ble_eq_true rfl) kv_c1i ?_
    refine kr_const (v := 0) d_X10_goesFirst_66 ?_
    refine kr_istore5 d_X10_goesFirst_67 (Nat.le_of_ble_eq_true rfl) kv_c1i ?_
    refine s_f_X10_goesFirst_L69 kv_fu y7 (-1) 0 0 h8 _ (fun z16 h17 => ?_)
    refine kr_iload3 d_X10_goesFirst_149 ?_
    exact kr_ireturn d_X10_goesFirst_150 rfl
  refine kr_jn (P := fun J59 =>  ∀ (h18 : kv_H), kv_S kv_i kK_X10_goesFirst 59 [some (.ref 111), none, none, none, none, none, none] [] h18 (J59  h18)) (fun  h18 => ?_) (fun J59 hJ59 => ?_)
  · refine kr_const (v := 0) d_X10_goesFirst_59 ?_
    exact hJ60 0 h18
  refine kr_icmp_ne d_X10_goesFirst_43 ?_ ?_
  · refine kr_kill1 ?_
    exact hJ59 h6
  · refine kr_iload1 d_X10_goesFirst_46 ?_
    refine kr_if_le d_X10_goesFirst_47 ?_ ?_
    · refine kr_kill1 ?_
      exact hJ59 h6
    · refine kr_aload0 d_X10_goesFirst_50 ?_
      refine kr_iv_i (As := []) d_X10_goesFirst_51 cl_X10_155 (m_X10_drawn h6) sh_111 (Nat.le_of_ble_eq_true rfl) rfl (Nat.le_of_ble_eq_true rfl) (fun r20 h19 => ?_)
      refine kr_iload1 d_X10_goesFirst_54 ?_
      refine kr_irem d_X10_goesFirst_55 ?_
      refine kr_goto d_X10_goesFirst_56 ?_
      refine kr_kill1 ?_
      exact hJ60 (r20 - r20 / z5 * z5) h19

/-! X10_throwsFor -/
def f_X10_throwsFor_L2 (c1 : Int32) : Nat → Int32 → kv_H → (Int32 → kv_H → Option (Int32 × kv_H)) → Option (Int32 × kv_H)
  | 0, _, _, _ => none
  | n + 1, v2, h, C => if (h 112 2) ≤ 0 then (C v2 h)
    else (kv_b (f_X10_fullness h) (fun r2 h1 =>
      if (r2 + c1) ≤ (h1 112 3) then (C v2 h1)
      else (kv_b (f_X10_goesFirst h1) (fun r4 h3 =>
        kv_b (f_X10_leaves r4 h3) (fun _ h5 =>
        f_X10_throwsFor_L2 c1 n (v2 + 1) h5 C)))))
def f_X10_throwsFor (x1 : Int32) (h : kv_H) : Option (Int32 × kv_H) :=
  f_X10_throwsFor_L2 x1 kv_fu 0 h (fun z6 h7 =>
  some (z6, h7))
set_option maxRecDepth 20000 in
theorem s_f_X10_throwsFor_L2 (c1 : Int32) : ∀ (n : Nat) (v2 : Int32) (h : kv_H) (C : Int32 → kv_H → Option (Int32 × kv_H)), (∀ (w2 : Int32) (h : kv_H), kv_S kv_i kK_X10_throwsFor 40 [none, none, some (.int w2)] [] h (C w2 h)) → kv_S kv_i kK_X10_throwsFor 2 [some (.ref 111), some (.int c1), some (.int v2)] [] h (f_X10_throwsFor_L2 c1 n v2 h C) := by
  intro n
  induction n with
  | zero => intros; exact kv_none
  | succ n ih =>
    intro v2 h C hC
    unfold f_X10_throwsFor_L2
    refine kr_aload0 d_X10_throwsFor_2 ?_
    refine kr_getR (q := 112) d_X10_throwsFor_3 fl_X10_7 sh_111 rfl ?_
    refine kr_const (v := 2) d_X10_throwsFor_6 ?_
    refine kr_ialoadC (j := 2) ⟨by decide, by decide, by decide⟩ d_X10_throwsFor_7 sh_112 ?_
    refine kr_if_le d_X10_throwsFor_8 ?_ ?_
    · refine kr_kill0 ?_
      refine kr_kill1 ?_
      exact hC v2 h
    · refine kr_aload0 d_X10_throwsFor_11 ?_
      refine kr_iv_i (As := []) d_X10_throwsFor_12 cl_X10_167 (m_X10_fullness h) sh_111 (Nat.le_of_ble_eq_true rfl) rfl (Nat.le_of_ble_eq_true rfl) (fun r2 h1 => ?_)
      refine kr_iload1 d_X10_throwsFor_15 ?_
      refine kr_iadd d_X10_throwsFor_16 ?_
      refine kr_aload0 d_X10_throwsFor_17 ?_
      refine kr_getR (q := 112) d_X10_throwsFor_18 fl_X10_7 sh_111 rfl ?_
      refine kr_const (v := 3) d_X10_throwsFor_21 ?_
      refine kr_ialoadC (j := 3) ⟨by decide, by decide, by decide⟩ d_X10_throwsFor_22 sh_112 ?_
      refine kr_icmp_le d_X10_throwsFor_23 ?_ ?_
      · refine kr_kill0 ?_
        refine kr_kill1 ?_
        exact hC v2 h1
      · refine kr_aload0 d_X10_throwsFor_26 ?_
        refine kr_aload0 d_X10_throwsFor_27 ?_
        refine kr_iv_i (As := []) d_X10_throwsFor_28 cl_X10_170 (m_X10_goesFirst h1) sh_111 (Nat.le_of_ble_eq_true rfl) rfl (Nat.le_of_ble_eq_true rfl) (fun r4 h3 => ?_)
        refine kr_iv_u (As := [.int r4]) d_X10_throwsFor_31 cl_X10_173 (m_X10_leaves r4 h3) sh_111 (Nat.le_of_ble_eq_true rfl) rfl (Nat.le_of_ble_eq_true rfl) (fun h5 => ?_)
        refine kr_iinc2 d_X10_throwsFor_34 (Nat.le_of_ble_eq_true rfl) kv_c1i ?_
        refine kr_goto d_X10_throwsFor_37 ?_
        exact ih (v2 + 1) h5 C hC

set_option maxRecDepth 20000 in
theorem m_X10_throwsFor (x1 : Int32) (h : kv_H) : kv_M kv_i kK_X10_throwsFor [.ref 111, .int x1] h (f_X10_throwsFor x1 h) := by
  refine kv_met (ls := [some (.ref 111), some (.int x1), none]) (show plainName RX10 = true by decide +kernel) (fun _ => rfl) (fun _ => Nat.le_of_ble_eq_true rfl) ?_
  unfold f_X10_throwsFor
  refine kr_const (v := 0) d_X10_throwsFor_0 ?_
  refine kr_istore2 d_X10_throwsFor_1 (Nat.le_of_ble_eq_true rfl) kv_c1i ?_
  refine s_f_X10_throwsFor_L2 x1 kv_fu 0 h _ (fun z6 h7 => ?_)
  refine kr_iload2 d_X10_throwsFor_40 ?_
  exact kr_ireturn d_X10_throwsFor_41 rfl

/-! X10_asks -/
def f_X10_asks_L43 : Nat → Int32 → kv_H → (kv_H → Option (Int32 × kv_H)) → Option (Int32 × kv_H)
  | 0, _, _, _ => none
  | n + 1, v3, h, C => if v3 < 0 then (C h)
    else (kv_b (f_X10_leafAt v3 h) (fun r23 h22 =>
      kv_k (r23 + 6) 3098 (kv_hl (kv_up h22 112 (r23 + 6).toNatClampNeg (h22 112 6)) (fun h24 =>
      kv_b (f_X10_leafAt v3 h24) (fun r26 h25 =>
      kv_k (r26 + 4) 3098 (kv_vl (h25 112 (r26 + 4).toNatClampNeg) (fun e27 =>
      f_X10_asks_L43 n e27 h25 C)))))))
def f_X10_asks (x1 : Int32) (h : kv_H) : Option (Int32 × kv_H) :=
  kv_b (f_X10_leafAt x1 h) (fun r2 h1 =>
  kv_hl (kv_up h1 112 6 ((h1 112 6) + 1)) (fun h3 =>
  kv_k (r2 + 5) 3098 (kv_k (r2 + 5) 3098 (kv_hl (kv_up h3 112 (r2 + 5).toNatClampNeg ((h3 112 (r2 + 5).toNatClampNeg) + 1)) (fun h4 =>
  kv_b (f_X10_vaultBits h4) (fun r6 h5 =>
  kv_b (f_X10_isRead r6 x1 h5) (fun r8 h7 =>
  if r8 = 0 then (kv_k x1 8 (kv_hl (kv_up h7 112 7 ((h7 112 7) + (h7 124 x1.toNatClampNeg))) (fun h9 =>
    kv_b (f_X10_placeOf x1 h9) (fun r11 h10 =>
    kv_jn (fun (y12 : Int32) (h13 : kv_H) =>
    kv_jn (fun (x14 : Int32) (h15 : kv_H) =>
      if x14 = 0 then (kv_k (r2 + 6) 3098 (kv_k (r2 + 6) 3098 (kv_hl (kv_up h15 112 (r2 + 6).toNatClampNeg (h15 112 (r2 + 6).toNatClampNeg)) (fun h16 =>
          some (0, h16)))))
        else (kv_k (r2 + 6) 3098 (kv_hl (kv_up h15 112 (r2 + 6).toNatClampNeg (h15 112 6)) (fun h17 =>
          some (0, h17))))) (fun (J172 : Int32 → kv_H → Option (Int32 × kv_H)) =>
      if y12 = 0 then (kv_k x1 8 (if (h13 112 3) < (h13 123 x1.toNatClampNeg) then (J172 y12 h13)
        else (kv_k x1 8 (kv_b (f_X10_throwsFor (h13 123 x1.toNatClampNeg) h13) (fun r19 h18 =>
          kv_k (66 + (h18 112 2)) 3098 (kv_hl (kv_up h18 112 (66 + (h18 112 2)).toNatClampNeg x1) (fun h20 =>
          kv_hl (kv_up h20 112 2 ((h20 112 2) + 1)) (fun h21 =>
          J172 1 h21))))))))
      else (J172 y12 h13))) (fun (J114 : Int32 → kv_H → Option (Int32 × kv_H)) =>
    if r11 < 0 then (J114 0 h10)
    else (J114 1 h10))))))
  else (f_X10_asks_L43 kv_fu x1 h7 (fun  h28 =>
    some (1, h28))))))))))
set_option maxRecDepth 20000 in
theorem s_f_X10_asks_L43 : ∀ (n : Nat) (v3 : Int32) (h : kv_H) (C : kv_H → Option (Int32 × kv_H)), (∀  (h : kv_H), kv_S kv_i kK_X10_asks 83 [none, none, none, none] [] h (C h)) → kv_S kv_i kK_X10_asks 43 [some (.ref 111), none, none, some (.int v3)] [] h (f_X10_asks_L43 n v3 h C) := by
  intro n
  induction n with
  | zero => intros; exact kv_none
  | succ n ih =>
    intro v3 h C hC
    unfold f_X10_asks_L43
    refine kr_iload3 d_X10_asks_43 ?_
    refine kr_if_lt d_X10_asks_44 ?_ ?_
    · refine kr_kill0 ?_
      refine kr_kill3 ?_
      exact hC h
    · refine kr_aload0 d_X10_asks_47 ?_
      refine kr_getR (q := 112) d_X10_asks_48 fl_X10_7 sh_111 rfl ?_
      refine kr_aload0 d_X10_asks_51 ?_
      refine kr_iload3 d_X10_asks_52 ?_
      refine kr_iv_i (As := [.int v3]) d_X10_asks_53 cl_X10_92 (m_X10_leafAt v3 h) sh_111 (Nat.le_of_ble_eq_true rfl) rfl (Nat.le_of_ble_eq_true rfl) (fun r23 h22 => ?_)
      refine kr_const (v := 6) d_X10_asks_56 ?_
      refine kr_iadd d_X10_asks_58 ?_
      refine kr_aload0 d_X10_asks_59 ?_
      refine kr_getR (q := 112) d_X10_asks_60 fl_X10_7 sh_111 rfl ?_
      refine kr_const (v := 6) d_X10_asks_63 ?_
      refine kr_ialoadC (j := 6) ⟨by decide, by decide, by decide⟩ d_X10_asks_65 sh_112 ?_
      refine kr_iastore d_X10_asks_66 sh_112 ?_
      refine kr_hl (fun h24 => ?_)
      refine kr_aload0 d_X10_asks_67 ?_
      refine kr_getR (q := 112) d_X10_asks_68 fl_X10_7 sh_111 rfl ?_
      refine kr_aload0 d_X10_asks_71 ?_
      refine kr_iload3 d_X10_asks_72 ?_
      refine kr_iv_i (As := [.int v3]) d_X10_asks_73 cl_X10_92 (m_X10_leafAt v3 h24) sh_111 (Nat.le_of_ble_eq_true rfl) rfl (Nat.le_of_ble_eq_true rfl) (fun r26 h25 => ?_)
      refine kr_const (v := 4) d_X10_asks_76 ?_
      refine kr_iadd d_X10_asks_77 ?_
      refine kr_iaload d_X10_asks_78 sh_112 ?_
      refine kr_vl (fun e27 => ?_)
      refine kr_istore3 d_X10_asks_79 (Nat.le_of_ble_eq_true rfl) kv_c1n ?_
      refine kr_goto d_X10_asks_80 ?_
      exact ih e27 h25 C hC

set_option maxRecDepth 20000 in
theorem m_X10_asks (x1 : Int32) (h : kv_H) : kv_M kv_i kK_X10_asks [.ref 111, .int x1] h (f_X10_asks x1 h) := by
  refine kv_met (ls := [some (.ref 111), some (.int x1), none, none]) (show plainName RX10 = true by decide +kernel) (fun _ => rfl) (fun _ => Nat.le_of_ble_eq_true rfl) ?_
  unfold f_X10_asks
  refine kr_aload0 d_X10_asks_0 ?_
  refine kr_iload1 d_X10_asks_1 ?_
  refine kr_iv_i (As := [.int x1]) d_X10_asks_2 cl_X10_92 (m_X10_leafAt x1 h) sh_111 (Nat.le_of_ble_eq_true rfl) rfl (Nat.le_of_ble_eq_true rfl) (fun r2 h1 => ?_)
  refine kr_istore2 d_X10_asks_5 (Nat.le_of_ble_eq_true rfl) kv_c1i ?_
  refine kr_aload0 d_X10_asks_6 ?_
  refine kr_getR (q := 112) d_X10_asks_7 fl_X10_7 sh_111 rfl ?_
  refine kr_const (v := 6) d_X10_asks_10 ?_
  refine kr_dup2 d_X10_asks_12 rfl rfl ?_
  refine kr_ialoadC (j := 6) ⟨by decide, by decide, by decide⟩ d_X10_asks_13 sh_112 ?_
  refine kr_const (v := 1) d_X10_asks_14 ?_
  refine kr_iadd d_X10_asks_15 ?_
  refine kr_iastoreC (j := 6) ⟨by decide, by decide, by decide⟩ d_X10_asks_16 sh_112 ?_
  refine kr_hl (fun h3 => ?_)
  refine kr_aload0 d_X10_asks_17 ?_
  refine kr_getR (q := 112) d_X10_asks_18 fl_X10_7 sh_111 rfl ?_
  refine kr_iload2 d_X10_asks_21 ?_
  refine kr_const (v := 5) d_X10_asks_22 ?_
  refine kr_iadd d_X10_asks_23 ?_
  refine kr_dup2 d_X10_asks_24 rfl rfl ?_
  refine kr_iaload d_X10_asks_25 sh_112 ?_
  refine kr_const (v := 1) d_X10_asks_26 ?_
  refine kr_iadd d_X10_asks_27 ?_
  refine kr_iastore d_X10_asks_28 sh_112 ?_
  refine kr_hl (fun h4 => ?_)
  refine kr_aload0 d_X10_asks_29 ?_
  refine kr_aload0 d_X10_asks_30 ?_
  refine kr_iv_i (As := []) d_X10_asks_31 cl_X10_132 (m_X10_vaultBits h4) sh_111 (Nat.le_of_ble_eq_true rfl) rfl (Nat.le_of_ble_eq_true rfl) (fun r6 h5 => ?_)
  refine kr_iload1 d_X10_asks_34 ?_
  refine kr_iv_i (As := [.int r6, .int x1]) d_X10_asks_35 cl_X10_136 (m_X10_isRead r6 x1 h5) sh_111 (Nat.le_of_ble_eq_true rfl) rfl (Nat.le_of_ble_eq_true rfl) (fun r8 h7 => ?_)
  refine kr_if_eq d_X10_asks_38 ?_ ?_
  · refine kr_aload0 d_X10_asks_85 ?_
    refine kr_getR (q := 112) d_X10_asks_86 fl_X10_7 sh_111 rfl ?_
    refine kr_const (v := 7) d_X10_asks_89 ?_
    refine kr_dup2 d_X10_asks_91 rfl rfl ?_
    refine kr_ialoadC (j := 7) ⟨by decide, by decide, by decide⟩ d_X10_asks_92 sh_112 ?_
    refine kr_aload0 d_X10_asks_93 ?_
    refine kr_getR (q := 124) d_X10_asks_94 fl_X10_46 sh_111 rfl ?_
    refine kr_iload1 d_X10_asks_97 ?_
    refine kr_iaload d_X10_asks_98 sh_124 ?_
    refine kr_iadd d_X10_asks_99 ?_
    refine kr_iastoreC (j := 7) ⟨by decide, by decide, by decide⟩ d_X10_asks_100 sh_112 ?_
    refine kr_hl (fun h9 => ?_)
    refine kr_aload0 d_X10_asks_101 ?_
    refine kr_iload1 d_X10_asks_102 ?_
    refine kr_iv_i (As := [.int x1]) d_X10_asks_103 cl_X10_129 (m_X10_placeOf x1 h9) sh_111 (Nat.le_of_ble_eq_true rfl) rfl (Nat.le_of_ble_eq_true rfl) (fun r11 h10 => ?_)
    refine kr_jn (P := fun J114 => ∀ (y12 : Int32), ∀ (h13 : kv_H), kv_S kv_i kK_X10_asks 114 [some (.ref 111), some (.int x1), some (.int r2), none] [.int y12] h13 (J114 y12 h13)) (fun y12 h13 => ?_) (fun J114 hJ114 => ?_)
    · refine kr_istore3 d_X10_asks_114 (Nat.le_of_ble_eq_true rfl) kv_c1i ?_
      refine kr_iload3 d_X10_asks_115 ?_
      refine kr_jn (P := fun J172 => ∀ (x14 : Int32), ∀ (h15 : kv_H), kv_S kv_i kK_X10_asks 172 [some (.ref 111), none, some (.int r2), some (.int x14)] [] h15 (J172 x14 h15)) (fun x14 h15 => ?_) (fun J172 hJ172 => ?_)
      · refine kr_aload0 d_X10_asks_172 ?_
        refine kr_getR (q := 112) d_X10_asks_173 fl_X10_7 sh_111 rfl ?_
        refine kr_iload2 d_X10_asks_176 ?_
        refine kr_const (v := 6) d_X10_asks_177 ?_
        refine kr_iadd d_X10_asks_179 ?_
        refine kr_iload3 d_X10_asks_180 ?_
        refine kr_if_eq d_X10_asks_181 ?_ ?_
        · refine kr_aload0 d_X10_asks_194 ?_
          refine kr_getR (q := 112) d_X10_asks_195 fl_X10_7 sh_111 rfl ?_
          refine kr_iload2 d_X10_asks_198 ?_
          refine kr_const (v := 6) d_X10_asks_199 ?_
          refine kr_iadd d_X10_asks_201 ?_
          refine kr_iaload d_X10_asks_202 sh_112 ?_
          refine kr_iastore d_X10_asks_203 sh_112 ?_
          refine kr_hl (fun h16 => ?_)
          refine kr_const (v := 0) d_X10_asks_204 ?_
          exact kr_zreturnK (by decide) d_X10_asks_205 rfl
        · refine kr_aload0 d_X10_asks_184 ?_
          refine kr_getR (q := 112) d_X10_asks_185 fl_X10_7 sh_111 rfl ?_
          refine kr_const (v := 6) d_X10_asks_188 ?_
          refine kr_ialoadC (j := 6) ⟨by decide, by decide, by decide⟩ d_X10_asks_190 sh_112 ?_
          refine kr_goto d_X10_asks_191 ?_
          refine kr_iastore d_X10_asks_203 sh_112 ?_
          refine kr_hl (fun h17 => ?_)
          refine kr_const (v := 0) d_X10_asks_204 ?_
          exact kr_zreturnK (by decide) d_X10_asks_205 rfl
      refine kr_if_ne d_X10_asks_116 ?_ ?_
      · refine kr_kill1 ?_
        exact hJ172 y12 h13
      · refine kr_aload0 d_X10_asks_119 ?_
        refine kr_getR (q := 123) d_X10_asks_120 fl_X10_43 sh_111 rfl ?_
        refine kr_iload1 d_X10_asks_123 ?_
        refine kr_iaload d_X10_asks_124 sh_123 ?_
        refine kr_aload0 d_X10_asks_125 ?_
        refine kr_getR (q := 112) d_X10_asks_126 fl_X10_7 sh_111 rfl ?_
        refine kr_const (v := 3) d_X10_asks_129 ?_
        refine kr_ialoadC (j := 3) ⟨by decide, by decide, by decide⟩ d_X10_asks_130 sh_112 ?_
        refine kr_icmp_gt d_X10_asks_131 ?_ ?_
        · refine kr_kill1 ?_
          exact hJ172 y12 h13
        · refine kr_aload0 d_X10_asks_134 ?_
          refine kr_aload0 d_X10_asks_135 ?_
          refine kr_getR (q := 123) d_X10_asks_136 fl_X10_43 sh_111 rfl ?_
          refine kr_iload1 d_X10_asks_139 ?_
          refine kr_iaload d_X10_asks_140 sh_123 ?_
          refine kr_iv_i (As := [.int (h13 123 x1.toNatClampNeg)]) d_X10_asks_141 cl_X10_177 (m_X10_throwsFor (h13 123 x1.toNatClampNeg) h13) sh_111 (Nat.le_of_ble_eq_true rfl) rfl (Nat.le_of_ble_eq_true rfl) (fun r19 h18 => ?_)
          refine kr_pop d_X10_asks_144 rfl ?_
          refine kr_aload0 d_X10_asks_145 ?_
          refine kr_getR (q := 112) d_X10_asks_146 fl_X10_7 sh_111 rfl ?_
          refine kr_const (v := 66) d_X10_asks_149 ?_
          refine kr_aload0 d_X10_asks_151 ?_
          refine kr_getR (q := 112) d_X10_asks_152 fl_X10_7 sh_111 rfl ?_
          refine kr_const (v := 2) d_X10_asks_155 ?_
          refine kr_ialoadC (j := 2) ⟨by decide, by decide, by decide⟩ d_X10_asks_156 sh_112 ?_
          refine kr_iadd d_X10_asks_157 ?_
          refine kr_iload1 d_X10_asks_158 ?_
          refine kr_iastore d_X10_asks_159 sh_112 ?_
          refine kr_hl (fun h20 => ?_)
          refine kr_aload0 d_X10_asks_160 ?_
          refine kr_getR (q := 112) d_X10_asks_161 fl_X10_7 sh_111 rfl ?_
          refine kr_const (v := 2) d_X10_asks_164 ?_
          refine kr_dup2 d_X10_asks_165 rfl rfl ?_
          refine kr_ialoadC (j := 2) ⟨by decide, by decide, by decide⟩ d_X10_asks_166 sh_112 ?_
          refine kr_const (v := 1) d_X10_asks_167 ?_
          refine kr_iadd d_X10_asks_168 ?_
          refine kr_iastoreC (j := 2) ⟨by decide, by decide, by decide⟩ d_X10_asks_169 sh_112 ?_
          refine kr_hl (fun h21 => ?_)
          refine kr_const (v := 1) d_X10_asks_170 ?_
          refine kr_istore3 d_X10_asks_171 (Nat.le_of_ble_eq_true rfl) kv_c1i ?_
          refine kr_kill1 ?_
          exact hJ172 1 h21
    refine kr_if_lt d_X10_asks_106 ?_ ?_
    · refine kr_const (v := 0) d_X10_asks_113 ?_
      exact hJ114 0 h10
    · refine kr_const (v := 1) d_X10_asks_109 ?_
      refine kr_goto d_X10_asks_110 ?_
      exact hJ114 1 h10
  · refine kr_iload1 d_X10_asks_41 ?_
    refine kr_istore3 d_X10_asks_42 (Nat.le_of_ble_eq_true rfl) kv_c1i ?_
    refine kr_kill1 ?_
    refine kr_kill2 ?_
    refine s_f_X10_asks_L43 kv_fu x1 h7 _ (fun  h28 => ?_)
    refine kr_const (v := 1) d_X10_asks_83 ?_
    exact kr_zreturnK (by decide) d_X10_asks_84 rfl

/-! X10_space -/
def f_X10_space (x1 : Int32) (h : kv_H) : Option (Int32 × kv_H) :=
  kv_b (f_X10_isIn (x1.toInt64) 0 60 h) (fun r2 h1 =>
  if r2 = 0 then (some ((-1000000001), h1))
  else (kv_b (f_X10_knows h1) (fun _ h3 =>
    kv_hl (kv_up h3 112 3 x1) (fun h4 =>
    kv_b (f_X10_throwsFor 0 h4) (fun r6 h5 =>
    some (r6, h5))))))
set_option maxRecDepth 20000 in
theorem m_X10_space (x1 : Int32) (h : kv_H) : kv_M kv_i kK_X10_space [.ref 111, .int x1] h (f_X10_space x1 h) := by
  refine kv_met (ls := [some (.ref 111), some (.int x1)]) (show plainName RX10 = true by decide +kernel) (fun _ => rfl) (fun _ => Nat.le_of_ble_eq_true rfl) ?_
  unfold f_X10_space
  refine kr_iload1 d_X10_space_0 ?_
  refine kr_i2l d_X10_space_1 ?_
  refine kr_constL (v := 0) d_X10_space_2 ?_
  refine kr_constL (v := 60) d_X10_space_3 ?_
  refine kr_is_i (As := [.long (x1.toInt64), .long 0, .long 60]) d_X10_space_6 cl_X10_83 (m_X10_isIn (x1.toInt64) 0 60 h) (Nat.le_of_ble_eq_true rfl) rfl (Nat.le_of_ble_eq_true rfl) (fun r2 h1 => ?_)
  refine kr_if_ne d_X10_space_9 ?_ ?_
  · refine kr_aload0 d_X10_space_15 ?_
    refine kr_iv_u (As := []) d_X10_space_16 cl_X10_182 (m_X10_knows h1) sh_111 (Nat.le_of_ble_eq_true rfl) rfl (Nat.le_of_ble_eq_true rfl) (fun h3 => ?_)
    refine kr_aload0 d_X10_space_19 ?_
    refine kr_getR (q := 112) d_X10_space_20 fl_X10_7 sh_111 rfl ?_
    refine kr_const (v := 3) d_X10_space_23 ?_
    refine kr_iload1 d_X10_space_24 ?_
    refine kr_iastoreC (j := 3) ⟨by decide, by decide, by decide⟩ d_X10_space_25 sh_112 ?_
    refine kr_hl (fun h4 => ?_)
    refine kr_aload0 d_X10_space_26 ?_
    refine kr_const (v := 0) d_X10_space_27 ?_
    refine kr_iv_i (As := [.int 0]) d_X10_space_28 cl_X10_177 (m_X10_throwsFor 0 h4) sh_111 (Nat.le_of_ble_eq_true rfl) rfl (Nat.le_of_ble_eq_true rfl) (fun r6 h5 => ?_)
    exact kr_ireturn d_X10_space_31 rfl
  · refine kr_const (v := (-1000000001)) d_X10_space_12 ?_
    exact kr_ireturn d_X10_space_14 rfl

/-! X10_rule -/
def f_X10_rule (x1 : Int32) (h : kv_H) : Option (Int32 × kv_H) :=
  kv_b (f_X10_isIn (x1.toInt64) 0 4 h) (fun r2 h1 =>
  if r2 = 0 then (some ((-1000000001), h1))
  else (kv_b (f_X10_becomes 4 x1 h1) (fun r4 h3 =>
    some (r4, h3))))
set_option maxRecDepth 20000 in
theorem m_X10_rule (x1 : Int32) (h : kv_H) : kv_M kv_i kK_X10_rule [.ref 111, .int x1] h (f_X10_rule x1 h) := by
  refine kv_met (ls := [some (.ref 111), some (.int x1)]) (show plainName RX10 = true by decide +kernel) (fun _ => rfl) (fun _ => Nat.le_of_ble_eq_true rfl) ?_
  unfold f_X10_rule
  refine kr_iload1 d_X10_rule_0 ?_
  refine kr_i2l d_X10_rule_1 ?_
  refine kr_constL (v := 0) d_X10_rule_2 ?_
  refine kr_constL (v := 4) d_X10_rule_3 ?_
  refine kr_is_i (As := [.long (x1.toInt64), .long 0, .long 4]) d_X10_rule_6 cl_X10_83 (m_X10_isIn (x1.toInt64) 0 4 h) (Nat.le_of_ble_eq_true rfl) rfl (Nat.le_of_ble_eq_true rfl) (fun r2 h1 => ?_)
  refine kr_if_eq d_X10_rule_9 ?_ ?_
  · refine kr_const (v := (-1000000001)) d_X10_rule_21 ?_
    exact kr_ireturn d_X10_rule_23 rfl
  · refine kr_aload0 d_X10_rule_12 ?_
    refine kr_const (v := 4) d_X10_rule_13 ?_
    refine kr_iload1 d_X10_rule_14 ?_
    refine kr_iv_i (As := [.int 4, .int x1]) d_X10_rule_15 cl_X10_147 (m_X10_becomes 4 x1 h1) sh_111 (Nat.le_of_ble_eq_true rfl) rfl (Nat.le_of_ble_eq_true rfl) (fun r4 h3 => ?_)
    refine kr_goto d_X10_rule_18 ?_
    exact kr_ireturn d_X10_rule_23 rfl

/-! X10_care -/
def f_X10_care (x1 : Int32) (h : kv_H) : Option (Int32 × kv_H) :=
  kv_b (f_X10_isIn (x1.toInt64) 0 1 h) (fun r2 h1 =>
  if r2 = 0 then (some ((-1000000001), h1))
  else (kv_b (f_X10_becomes 5 x1 h1) (fun r4 h3 =>
    some (r4, h3))))
set_option maxRecDepth 20000 in
theorem m_X10_care (x1 : Int32) (h : kv_H) : kv_M kv_i kK_X10_care [.ref 111, .int x1] h (f_X10_care x1 h) := by
  refine kv_met (ls := [some (.ref 111), some (.int x1)]) (show plainName RX10 = true by decide +kernel) (fun _ => rfl) (fun _ => Nat.le_of_ble_eq_true rfl) ?_
  unfold f_X10_care
  refine kr_iload1 d_X10_care_0 ?_
  refine kr_i2l d_X10_care_1 ?_
  refine kr_constL (v := 0) d_X10_care_2 ?_
  refine kr_constL (v := 1) d_X10_care_3 ?_
  refine kr_is_i (As := [.long (x1.toInt64), .long 0, .long 1]) d_X10_care_4 cl_X10_83 (m_X10_isIn (x1.toInt64) 0 1 h) (Nat.le_of_ble_eq_true rfl) rfl (Nat.le_of_ble_eq_true rfl) (fun r2 h1 => ?_)
  refine kr_if_eq d_X10_care_7 ?_ ?_
  · refine kr_const (v := (-1000000001)) d_X10_care_19 ?_
    exact kr_ireturn d_X10_care_21 rfl
  · refine kr_aload0 d_X10_care_10 ?_
    refine kr_const (v := 5) d_X10_care_11 ?_
    refine kr_iload1 d_X10_care_12 ?_
    refine kr_iv_i (As := [.int 5, .int x1]) d_X10_care_13 cl_X10_147 (m_X10_becomes 5 x1 h1) sh_111 (Nat.le_of_ble_eq_true rfl) rfl (Nat.le_of_ble_eq_true rfl) (fun r4 h3 => ?_)
    refine kr_goto d_X10_care_16 ?_
    exact kr_ireturn d_X10_care_21 rfl

/-! X10_want -/
def f_X10_want (x1 : Int32) (h : kv_H) : Option (Int32 × kv_H) :=
  kv_b (f_X10_isLeaf x1 h) (fun r2 h1 =>
  if r2 = 0 then (some ((-1000000001), h1))
  else (kv_b (f_X10_knows h1) (fun _ h3 =>
    kv_b (f_X10_asks x1 h3) (fun r5 h4 =>
    if r5 = 0 then (some (0, h4))
    else (some (1, h4))))))
set_option maxRecDepth 20000 in
theorem m_X10_want (x1 : Int32) (h : kv_H) : kv_M kv_i kK_X10_want [.ref 111, .int x1] h (f_X10_want x1 h) := by
  refine kv_met (ls := [some (.ref 111), some (.int x1)]) (show plainName RX10 = true by decide +kernel) (fun _ => rfl) (fun _ => Nat.le_of_ble_eq_true rfl) ?_
  unfold f_X10_want
  refine kr_aload0 d_X10_want_0 ?_
  refine kr_iload1 d_X10_want_1 ?_
  refine kr_iv_i (As := [.int x1]) d_X10_want_2 cl_X10_116 (m_X10_isLeaf x1 h) sh_111 (Nat.le_of_ble_eq_true rfl) rfl (Nat.le_of_ble_eq_true rfl) (fun r2 h1 => ?_)
  refine kr_if_ne d_X10_want_5 ?_ ?_
  · refine kr_aload0 d_X10_want_11 ?_
    refine kr_iv_u (As := []) d_X10_want_12 cl_X10_182 (m_X10_knows h1) sh_111 (Nat.le_of_ble_eq_true rfl) rfl (Nat.le_of_ble_eq_true rfl) (fun h3 => ?_)
    refine kr_aload0 d_X10_want_15 ?_
    refine kr_iload1 d_X10_want_16 ?_
    refine kr_iv_i (As := [.int x1]) d_X10_want_17 cl_X10_187 (m_X10_asks x1 h3) sh_111 (Nat.le_of_ble_eq_true rfl) rfl (Nat.le_of_ble_eq_true rfl) (fun r5 h4 => ?_)
    refine kr_if_eq d_X10_want_20 ?_ ?_
    · refine kr_const (v := 0) d_X10_want_27 ?_
      exact kr_ireturn d_X10_want_28 rfl
    · refine kr_const (v := 1) d_X10_want_23 ?_
      refine kr_goto d_X10_want_24 ?_
      exact kr_ireturn d_X10_want_28 rfl
  · refine kr_const (v := (-1000000001)) d_X10_want_8 ?_
    exact kr_ireturn d_X10_want_10 rfl

/-! X10_next -/
def f_X10_next (h : kv_H) : Option (Int32 × kv_H) :=
  kv_b (f_X10_knows h) (fun _ h1 =>
  kv_vl (h1 112 9) (fun e2 =>
  kv_b (f_X10_goesFirst h1) (fun r4 h3 =>
  kv_hl (kv_up h3 112 9 e2) (fun h5 =>
  if 0 ≤ r4 then (kv_k (66 + r4) 3098 (some ((h5 112 (66 + r4).toNatClampNeg), h5)))
  else (some ((-1000000005), h5))))))
set_option maxRecDepth 20000 in
theorem m_X10_next (h : kv_H) : kv_M kv_i kK_X10_next [.ref 111] h (f_X10_next h) := by
  refine kv_met (ls := [some (.ref 111), none, none]) (show plainName RX10 = true by decide +kernel) (fun _ => rfl) (fun _ => Nat.le_of_ble_eq_true rfl) ?_
  unfold f_X10_next
  refine kr_aload0 d_X10_next_0 ?_
  refine kr_iv_u (As := []) d_X10_next_1 cl_X10_182 (m_X10_knows h) sh_111 (Nat.le_of_ble_eq_true rfl) rfl (Nat.le_of_ble_eq_true rfl) (fun h1 => ?_)
  refine kr_aload0 d_X10_next_4 ?_
  refine kr_getR (q := 112) d_X10_next_5 fl_X10_7 sh_111 rfl ?_
  refine kr_const (v := 9) d_X10_next_8 ?_
  refine kr_ialoadC (j := 9) ⟨by decide, by decide, by decide⟩ d_X10_next_10 sh_112 ?_
  refine kr_vl (fun e2 => ?_)
  refine kr_istore1 d_X10_next_11 (Nat.le_of_ble_eq_true rfl) kv_c1a ?_
  refine kr_aload0 d_X10_next_12 ?_
  refine kr_iv_i (As := []) d_X10_next_13 cl_X10_170 (m_X10_goesFirst h1) sh_111 (Nat.le_of_ble_eq_true rfl) rfl (Nat.le_of_ble_eq_true rfl) (fun r4 h3 => ?_)
  refine kr_istore2 d_X10_next_16 (Nat.le_of_ble_eq_true rfl) kv_c1i ?_
  refine kr_aload0 d_X10_next_17 ?_
  refine kr_getR (q := 112) d_X10_next_18 fl_X10_7 sh_111 rfl ?_
  refine kr_const (v := 9) d_X10_next_21 ?_
  refine kr_iload1 d_X10_next_23 ?_
  refine kr_iastoreC (j := 9) ⟨by decide, by decide, by decide⟩ d_X10_next_24 sh_112 ?_
  refine kr_hl (fun h5 => ?_)
  refine kr_iload2 d_X10_next_25 ?_
  refine kr_if_ge d_X10_next_26 ?_ ?_
  · refine kr_aload0 d_X10_next_34 ?_
    refine kr_getR (q := 112) d_X10_next_35 fl_X10_7 sh_111 rfl ?_
    refine kr_const (v := 66) d_X10_next_38 ?_
    refine kr_iload2 d_X10_next_40 ?_
    refine kr_iadd d_X10_next_41 ?_
    refine kr_iaload d_X10_next_42 sh_112 ?_
    exact kr_ireturn d_X10_next_43 rfl
  · refine kr_const (v := (-1000000005)) d_X10_next_29 ?_
    refine kr_goto d_X10_next_31 ?_
    exact kr_ireturn d_X10_next_43 rfl

/-! X10_out -/
def f_X10_out (x1 : Int32) (h : kv_H) : Option (Int32 × kv_H) :=
  kv_b (f_X10_isLeaf x1 h) (fun r2 h1 =>
  if r2 = 0 then (some ((-1000000001), h1))
  else (kv_b (f_X10_placeOf x1 h1) (fun r4 h3 =>
    kv_jn (fun  (h5 : kv_H) =>
    if 0 ≤ r4 then (some (1, h5))
      else (some (0, h5))) (fun (J26 : kv_H → Option (Int32 × kv_H)) =>
    if r4 < 0 then (J26 h3)
    else (kv_b (f_X10_leaves r4 h3) (fun _ h6 =>
      J26 h6))))))
set_option maxRecDepth 20000 in
theorem m_X10_out (x1 : Int32) (h : kv_H) : kv_M kv_i kK_X10_out [.ref 111, .int x1] h (f_X10_out x1 h) := by
  refine kv_met (ls := [some (.ref 111), some (.int x1), none]) (show plainName RX10 = true by decide +kernel) (fun _ => rfl) (fun _ => Nat.le_of_ble_eq_true rfl) ?_
  unfold f_X10_out
  refine kr_aload0 d_X10_out_0 ?_
  refine kr_iload1 d_X10_out_1 ?_
  refine kr_iv_i (As := [.int x1]) d_X10_out_2 cl_X10_116 (m_X10_isLeaf x1 h) sh_111 (Nat.le_of_ble_eq_true rfl) rfl (Nat.le_of_ble_eq_true rfl) (fun r2 h1 => ?_)
  refine kr_if_ne d_X10_out_5 ?_ ?_
  · refine kr_aload0 d_X10_out_11 ?_
    refine kr_iload1 d_X10_out_12 ?_
    refine kr_iv_i (As := [.int x1]) d_X10_out_13 cl_X10_129 (m_X10_placeOf x1 h1) sh_111 (Nat.le_of_ble_eq_true rfl) rfl (Nat.le_of_ble_eq_true rfl) (fun r4 h3 => ?_)
    refine kr_istore2 d_X10_out_16 (Nat.le_of_ble_eq_true rfl) kv_c1i ?_
    refine kr_iload2 d_X10_out_17 ?_
    refine kr_jn (P := fun J26 =>  ∀ (h5 : kv_H), kv_S kv_i kK_X10_out 26 [none, none, some (.int r4)] [] h5 (J26  h5)) (fun  h5 => ?_) (fun J26 hJ26 => ?_)
    · refine kr_iload2 d_X10_out_26 ?_
      refine kr_if_ge d_X10_out_27 ?_ ?_
      · refine kr_const (v := 1) d_X10_out_34 ?_
        exact kr_ireturn d_X10_out_35 rfl
      · refine kr_const (v := 0) d_X10_out_30 ?_
        refine kr_goto d_X10_out_31 ?_
        exact kr_ireturn d_X10_out_35 rfl
    refine kr_if_lt d_X10_out_18 ?_ ?_
    · refine kr_kill0 ?_
      refine kr_kill1 ?_
      exact hJ26 h3
    · refine kr_aload0 d_X10_out_21 ?_
      refine kr_iload2 d_X10_out_22 ?_
      refine kr_iv_u (As := [.int r4]) d_X10_out_23 cl_X10_173 (m_X10_leaves r4 h3) sh_111 (Nat.le_of_ble_eq_true rfl) rfl (Nat.le_of_ble_eq_true rfl) (fun h6 => ?_)
      refine kr_kill0 ?_
      refine kr_kill1 ?_
      exact hJ26 h6
  · refine kr_const (v := (-1000000001)) d_X10_out_8 ?_
    exact kr_ireturn d_X10_out_10 rfl

/-! X10_at -/
def f_X10_at (x1 : Int32) (h : kv_H) : Option (Int32 × kv_H) :=
  if 0 ≤ x1 then (if (h 112 2) ≤ x1 then (some ((-1000000005), h))
    else (kv_k (66 + x1) 3098 (some ((h 112 (66 + x1).toNatClampNeg), h))))
  else (some ((-1000000001), h))
set_option maxRecDepth 20000 in
theorem m_X10_at (x1 : Int32) (h : kv_H) : kv_M kv_i kK_X10_at [.ref 111, .int x1] h (f_X10_at x1 h) := by
  refine kv_met (ls := [some (.ref 111), some (.int x1)]) (show plainName RX10 = true by decide +kernel) (fun _ => rfl) (fun _ => Nat.le_of_ble_eq_true rfl) ?_
  unfold f_X10_at
  refine kr_iload1 d_X10_at_0 ?_
  refine kr_if_ge d_X10_at_1 ?_ ?_
  · refine kr_iload1 d_X10_at_9 ?_
    refine kr_aload0 d_X10_at_10 ?_
    refine kr_getR (q := 112) d_X10_at_11 fl_X10_7 sh_111 rfl ?_
    refine kr_const (v := 2) d_X10_at_14 ?_
    refine kr_ialoadC (j := 2) ⟨by decide, by decide, by decide⟩ d_X10_at_15 sh_112 ?_
    refine kr_icmp_ge d_X10_at_16 ?_ ?_
    · refine kr_const (v := (-1000000005)) d_X10_at_31 ?_
      exact kr_ireturn d_X10_at_33 rfl
    · refine kr_aload0 d_X10_at_19 ?_
      refine kr_getR (q := 112) d_X10_at_20 fl_X10_7 sh_111 rfl ?_
      refine kr_const (v := 66) d_X10_at_23 ?_
      refine kr_iload1 d_X10_at_25 ?_
      refine kr_iadd d_X10_at_26 ?_
      refine kr_iaload d_X10_at_27 sh_112 ?_
      refine kr_goto d_X10_at_28 ?_
      exact kr_ireturn d_X10_at_33 rfl
  · refine kr_const (v := (-1000000001)) d_X10_at_4 ?_
    refine kr_goto d_X10_at_6 ?_
    exact kr_ireturn d_X10_at_33 rfl


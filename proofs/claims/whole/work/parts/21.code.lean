/-! X5_advance -/
def f_X5_advance_L27 (c1 : Int32) : Nat → Int32 → kv_H → (Int32 → kv_H → Option (Unit × kv_H)) → Option (Unit × kv_H)
  | 0, _, _, _ => none
  | n + 1, v2, h, C => if (h 41 1) ≤ v2 then (C v2 h)
    else (kv_k v2 96 (if (h 42 v2.toNatClampNeg) = (32 : Int32) then (f_X5_advance_L27 c1 n (v2 + 1) h C)
      else (C v2 h)))
def f_X5_advance_L126 (c3 : Int32) : Nat → kv_H → (kv_H → Option (Unit × kv_H)) → Option (Unit × kv_H)
  | 0, _, _ => none
  | n + 1, h, C => if (h 41 1) ≤ (h 41 8) then (C h)
    else (kv_k (h 41 8) 96 (kv_b (f_X5_sortOf (h 42 (h 41 8).toNatClampNeg) h) (fun r15 h14 =>
      if r15 = (h14 41 6) then (kv_hl (kv_up h14 41 8 ((h14 41 8) + 1)) (fun h16 =>
        f_X5_advance_L126 c3 n h16 C))
      else (C h14))))
def f_X5_advance (h : kv_H) : Option (Unit × kv_H) :=
  kv_jn (fun (y1 : Int32) (h2 : kv_H) =>
  kv_vl (h2 41 8) (fun e3 =>
    f_X5_advance_L27 y1 kv_fu e3 h2 (fun z4 h5 =>
    kv_jn (fun (y6 : Int32) (h7 : kv_H) =>
      kv_hl (kv_up h7 41 7 z4) (fun h8 =>
        kv_hl (kv_up h8 41 8 z4) (fun h9 =>
        if z4 < (h9 41 1) then (kv_k z4 96 (kv_b (f_X5_sortOf (h9 42 z4.toNatClampNeg) h9) (fun r11 h10 =>
          kv_hl (kv_up h10 41 6 r11) (fun h12 =>
          kv_hl (kv_up h12 41 8 ((h12 41 8) + 1)) (fun h13 =>
          if (h13 41 6) = (3 : Int32) then (some ((), h13))
          else (f_X5_advance_L126 y6 kv_fu  h13 (fun  h17 =>
            if y6 = 0 then (some ((), h17))
              else (kv_hl (kv_up h17 41 6 4) (fun h18 =>
                some ((), h18))))))))))
        else (kv_hl (kv_up h9 41 6 0) (fun h19 =>
          some ((), h19)))))) (fun (J69 : Int32 → kv_H → Option (Unit × kv_H)) =>
      kv_jn (fun  (h20 : kv_H) =>
      J69 0 h20) (fun (J68 : kv_H → Option (Unit × kv_H)) =>
      if y1 = 0 then (J68 h5)
      else (if z4 = (h5 41 8) then (J69 1 h5)
        else (J68 h5))))))) (fun (J21 : Int32 → kv_H → Option (Unit × kv_H)) =>
  kv_jn (fun  (h21 : kv_H) =>
  J21 1 h21) (fun (J16 : kv_H → Option (Unit × kv_H)) =>
  if (h 41 6) = (1 : Int32) then (J16 h)
  else (if (h 41 6) = (2 : Int32) then (J16 h)
    else (J21 0 h))))
set_option maxRecDepth 20000 in
theorem s_f_X5_advance_L27 (c1 : Int32) : ∀ (n : Nat) (v2 : Int32) (h : kv_H) (C : Int32 → kv_H → Option (Unit × kv_H)), (∀ (w2 : Int32) (h : kv_H), kv_S kv_u kK_X5_advance 52 [some (.ref 41), some (.int c1), some (.int w2), none] [] h (C w2 h)) → kv_S kv_u kK_X5_advance 27 [some (.ref 41), some (.int c1), some (.int v2), none] [] h (f_X5_advance_L27 c1 n v2 h C) := by
  intro n
  induction n with
  | zero => intros; exact kv_none
  | succ n ih =>
    intro v2 h C hC
    unfold f_X5_advance_L27
    refine kr_iload2 d_X5_advance_27 ?_
    refine kr_aload0 d_X5_advance_28 ?_
    refine kr_getI d_X5_advance_29 fl_X5_18 sh_41 rfl ?_
    refine kr_icmp_ge d_X5_advance_32 ?_ ?_
    · exact hC v2 h
    · refine kr_aload0 d_X5_advance_35 ?_
      refine kr_getR (q := 42) d_X5_advance_36 fl_X5_9 sh_41 rfl ?_
      refine kr_iload2 d_X5_advance_39 ?_
      refine kr_iaload d_X5_advance_40 sh_42 ?_
      refine kr_const (v := 32) d_X5_advance_41 ?_
      refine kr_icmp_ne d_X5_advance_43 ?_ ?_
      · exact hC v2 h
      · refine kr_iinc2 d_X5_advance_46 (Nat.le_of_ble_eq_true rfl) kv_c1i ?_
        refine kr_goto d_X5_advance_49 ?_
        exact ih (v2 + 1) h C hC

set_option maxRecDepth 20000 in
theorem s_f_X5_advance_L126 (c3 : Int32) : ∀ (n : Nat)  (h : kv_H) (C : kv_H → Option (Unit × kv_H)), (∀  (h : kv_H), kv_S kv_u kK_X5_advance 169 [some (.ref 41), none, none, some (.int c3)] [] h (C h)) → kv_S kv_u kK_X5_advance 126 [some (.ref 41), none, none, some (.int c3)] [] h (f_X5_advance_L126 c3 n h C) := by
  intro n
  induction n with
  | zero => intros; exact kv_none
  | succ n ih =>
    intro h C hC
    unfold f_X5_advance_L126
    refine kr_aload0 d_X5_advance_126 ?_
    refine kr_getI d_X5_advance_127 fl_X5_34 sh_41 rfl ?_
    refine kr_aload0 d_X5_advance_130 ?_
    refine kr_getI d_X5_advance_131 fl_X5_18 sh_41 rfl ?_
    refine kr_icmp_ge d_X5_advance_134 ?_ ?_
    · exact hC h
    · refine kr_aload0 d_X5_advance_137 ?_
      refine kr_getR (q := 42) d_X5_advance_138 fl_X5_9 sh_41 rfl ?_
      refine kr_aload0 d_X5_advance_141 ?_
      refine kr_getI d_X5_advance_142 fl_X5_34 sh_41 rfl ?_
      refine kr_iaload d_X5_advance_145 sh_42 ?_
      refine kr_is_i (As := [.int (h 42 (h 41 8).toNatClampNeg)]) d_X5_advance_146 cl_X5_57 (m_X5_sortOf (h 42 (h 41 8).toNatClampNeg) h) (Nat.le_of_ble_eq_true rfl) rfl (Nat.le_of_ble_eq_true rfl) (fun r15 h14 => ?_)
      refine kr_aload0 d_X5_advance_149 ?_
      refine kr_getI d_X5_advance_150 fl_X5_31 sh_41 rfl ?_
      refine kr_icmp_ne d_X5_advance_153 ?_ ?_
      · exact hC h14
      · refine kr_aload0 d_X5_advance_156 ?_
        refine kr_dup d_X5_advance_157 rfl ?_
        refine kr_getI d_X5_advance_158 fl_X5_34 sh_41 rfl ?_
        refine kr_const (v := 1) d_X5_advance_161 ?_
        refine kr_iadd d_X5_advance_162 ?_
        refine kr_putI d_X5_advance_163 fp_X5_34 sh_41 rfl rfl rfl ?_
        refine kr_hl (fun h16 => ?_)
        refine kr_goto d_X5_advance_166 ?_
        exact ih h16 C hC

set_option maxRecDepth 20000 in
theorem m_X5_advance (h : kv_H) : kv_M kv_u kK_X5_advance [.ref 41] h (f_X5_advance h) := by
  refine kv_met (ls := [some (.ref 41), none, none, none]) (show plainName RX5 = true by decide +kernel) (fun _ => rfl) (fun _ => Nat.le_of_ble_eq_true rfl) ?_
  unfold f_X5_advance
  refine kr_aload0 d_X5_advance_0 ?_
  refine kr_getI d_X5_advance_1 fl_X5_31 sh_41 rfl ?_
  refine kr_const (v := 1) d_X5_advance_4 ?_
  refine kr_jn (P := fun J21 => ∀ (y1 : Int32), ∀ (h2 : kv_H), kv_S kv_u kK_X5_advance 21 [some (.ref 41), none, none, none] [.int y1] h2 (J21 y1 h2)) (fun y1 h2 => ?_) (fun J21 hJ21 => ?_)
  · refine kr_istore1 d_X5_advance_21 (Nat.le_of_ble_eq_true rfl) kv_c1a ?_
    refine kr_aload0 d_X5_advance_22 ?_
    refine kr_getI d_X5_advance_23 fl_X5_34 sh_41 rfl ?_
    refine kr_vl (fun e3 => ?_)
    refine kr_istore2 d_X5_advance_26 (Nat.le_of_ble_eq_true rfl) kv_c1i ?_
    refine s_f_X5_advance_L27 y1 kv_fu e3 h2 _ (fun z4 h5 => ?_)
    refine kr_iload1 d_X5_advance_52 ?_
    refine kr_jn (P := fun J69 => ∀ (y6 : Int32), ∀ (h7 : kv_H), kv_S kv_u kK_X5_advance 69 [some (.ref 41), none, some (.int z4), none] [.int y6] h7 (J69 y6 h7)) (fun y6 h7 => ?_) (fun J69 hJ69 => ?_)
    · refine kr_istore3 d_X5_advance_69 (Nat.le_of_ble_eq_true rfl) kv_c1i ?_
      refine kr_aload0 d_X5_advance_70 ?_
      refine kr_iload2 d_X5_advance_71 ?_
      refine kr_putI d_X5_advance_72 fp_X5_54 sh_41 rfl rfl rfl ?_
      refine kr_hl (fun h8 => ?_)
      refine kr_aload0 d_X5_advance_75 ?_
      refine kr_iload2 d_X5_advance_76 ?_
      refine kr_putI d_X5_advance_77 fp_X5_34 sh_41 rfl rfl rfl ?_
      refine kr_hl (fun h9 => ?_)
      refine kr_iload2 d_X5_advance_80 ?_
      refine kr_aload0 d_X5_advance_81 ?_
      refine kr_getI d_X5_advance_82 fl_X5_18 sh_41 rfl ?_
      refine kr_icmp_lt d_X5_advance_85 ?_ ?_
      · refine kr_aload0 d_X5_advance_94 ?_
        refine kr_aload0 d_X5_advance_95 ?_
        refine kr_getR (q := 42) d_X5_advance_96 fl_X5_9 sh_41 rfl ?_
        refine kr_iload2 d_X5_advance_99 ?_
        refine kr_iaload d_X5_advance_100 sh_42 ?_
        refine kr_is_i (As := [.int (h9 42 z4.toNatClampNeg)]) d_X5_advance_101 cl_X5_57 (m_X5_sortOf (h9 42 z4.toNatClampNeg) h9) (Nat.le_of_ble_eq_true rfl) rfl (Nat.le_of_ble_eq_true rfl) (fun r11 h10 => ?_)
        refine kr_putI d_X5_advance_104 fp_X5_31 sh_41 rfl rfl rfl ?_
        refine kr_hl (fun h12 => ?_)
        refine kr_aload0 d_X5_advance_107 ?_
        refine kr_dup d_X5_advance_108 rfl ?_
        refine kr_getI d_X5_advance_109 fl_X5_34 sh_41 rfl ?_
        refine kr_const (v := 1) d_X5_advance_112 ?_
        refine kr_iadd d_X5_advance_113 ?_
        refine kr_putI d_X5_advance_114 fp_X5_34 sh_41 rfl rfl rfl ?_
        refine kr_hl (fun h13 => ?_)
        refine kr_aload0 d_X5_advance_117 ?_
        refine kr_getI d_X5_advance_118 fl_X5_31 sh_41 rfl ?_
        refine kr_const (v := 3) d_X5_advance_121 ?_
        refine kr_icmp_ne d_X5_advance_122 ?_ ?_
        · refine kr_kill2 ?_
          refine s_f_X5_advance_L126 y6 kv_fu  h13 _ (fun  h17 => ?_)
          refine kr_iload3 d_X5_advance_169 ?_
          refine kr_if_eq d_X5_advance_170 ?_ ?_
          · exact kr_return d_X5_advance_178 rfl
          · refine kr_aload0 d_X5_advance_173 ?_
            refine kr_const (v := 4) d_X5_advance_174 ?_
            refine kr_putI d_X5_advance_175 fp_X5_31 sh_41 rfl rfl rfl ?_
            refine kr_hl (fun h18 => ?_)
            exact kr_return d_X5_advance_178 rfl
        · exact kr_return d_X5_advance_125 rfl
      · refine kr_aload0 d_X5_advance_88 ?_
        refine kr_const (v := 0) d_X5_advance_89 ?_
        refine kr_putI d_X5_advance_90 fp_X5_31 sh_41 rfl rfl rfl ?_
        refine kr_hl (fun h19 => ?_)
        exact kr_return d_X5_advance_93 rfl
    refine kr_jn (P := fun J68 =>  ∀ (h20 : kv_H), kv_S kv_u kK_X5_advance 68 [some (.ref 41), none, some (.int z4), none] [] h20 (J68  h20)) (fun  h20 => ?_) (fun J68 hJ68 => ?_)
    · refine kr_const (v := 0) d_X5_advance_68 ?_
      exact hJ69 0 h20
    refine kr_if_eq d_X5_advance_53 ?_ ?_
    · refine kr_kill1 ?_
      exact hJ68 h5
    · refine kr_iload2 d_X5_advance_56 ?_
      refine kr_aload0 d_X5_advance_57 ?_
      refine kr_getI d_X5_advance_58 fl_X5_34 sh_41 rfl ?_
      refine kr_icmp_ne d_X5_advance_61 ?_ ?_
      · refine kr_kill1 ?_
        exact hJ68 h5
      · refine kr_const (v := 1) d_X5_advance_64 ?_
        refine kr_goto d_X5_advance_65 ?_
        refine kr_kill1 ?_
        exact hJ69 1 h5
  refine kr_jn (P := fun J16 =>  ∀ (h21 : kv_H), kv_S kv_u kK_X5_advance 16 [some (.ref 41), none, none, none] [] h21 (J16  h21)) (fun  h21 => ?_) (fun J16 hJ16 => ?_)
  · refine kr_const (v := 1) d_X5_advance_16 ?_
    refine kr_goto d_X5_advance_17 ?_
    exact hJ21 1 h21
  refine kr_icmp_eq d_X5_advance_5 ?_ ?_
  · exact hJ16 h
  · refine kr_aload0 d_X5_advance_8 ?_
    refine kr_getI d_X5_advance_9 fl_X5_31 sh_41 rfl ?_
    refine kr_const (v := 2) d_X5_advance_12 ?_
    refine kr_icmp_ne d_X5_advance_13 ?_ ?_
    · refine kr_const (v := 0) d_X5_advance_20 ?_
      exact hJ21 0 h
    · exact hJ16 h

/-! J0_coder_7d493 -/
def f_J0_coder_7d493 (i0 : Nat) (h : kv_H) : Option (Int32 × kv_H) :=
  if (1 : Int32) = 0 then (some (1, h))
  else (some (0, h))
set_option maxRecDepth 20000 in
theorem m_J0_coder_7d493 (i0 : Nat) (hi0 : i0 < 7) (h : kv_H) : kv_M kv_i kK_J0_coder_7d493 [.ref (1010 + i0)] h (f_J0_coder_7d493 i0 h) := by
  refine kv_met (ls := [some (.ref (1010 + i0))]) (show plainName RJ0 = true by decide +kernel) (fun _ => rfl) (fun _ => Nat.le_of_ble_eq_true rfl) ?_
  unfold f_J0_coder_7d493
  refine kr_gsCS d_J0_coder_7d493_0 wf_J0_38 ?_
  refine kr_if_eq d_J0_coder_7d493_3 ?_ ?_
  · refine kr_const (v := 1) d_J0_coder_7d493_13 ?_
    exact kr_zreturnK (by decide) d_J0_coder_7d493_14 rfl
  · refine kr_aload0 d_J0_coder_7d493_6 ?_
    refine kr_scod d_J0_coder_7d493_7 hi0 wf_J0_15 ?_
    refine kr_goto d_J0_coder_7d493_10 ?_
    exact kr_zreturnK (by decide) d_J0_coder_7d493_14 rfl

/-! J0_length_8abf5 -/
def f_J0_length_8abf5 (i0 : Nat) (h : kv_H) : Option (Int32 × kv_H) :=
  kv_b (f_J0_coder_7d493 i0 h) (fun r2 h1 =>
  some (((nI (kv_sl.getD i0 0)) >>> (r2 &&& 31)), h1))
set_option maxRecDepth 20000 in
theorem m_J0_length_8abf5 (i0 : Nat) (hi0 : i0 < 7) (h : kv_H) : kv_M kv_i kK_J0_length_8abf5 [.ref (1010 + i0)] h (f_J0_length_8abf5 i0 h) := by
  refine kv_met (ls := [some (.ref (1010 + i0))]) (show plainName RJ0 = true by decide +kernel) (fun _ => rfl) (fun _ => Nat.le_of_ble_eq_true rfl) ?_
  unfold f_J0_length_8abf5
  refine kr_aload0 d_J0_length_8abf5_0 ?_
  refine kr_sval d_J0_length_8abf5_1 hi0 wf_J0_9 ?_
  refine kr_blen d_J0_length_8abf5_4 hi0 ?_
  refine kr_aload0 d_J0_length_8abf5_5 ?_
  refine kr_ivS_i (As := []) d_J0_length_8abf5_6 cl_J0_335 (m_J0_coder_7d493 i0 hi0 h) hi0 (Nat.le_of_ble_eq_true rfl) rfl (Nat.le_of_ble_eq_true rfl) (fun r2 h1 => ?_)
  refine kr_ishr d_J0_length_8abf5_9 ?_
  exact kr_ireturn d_J0_length_8abf5_10 rfl

/-! J0_isLatin1_aae02 -/
def f_J0_isLatin1_aae02 (i0 : Nat) (h : kv_H) : Option (Int32 × kv_H) :=
  if (1 : Int32) = 0 then (some (0, h))
  else (if (0 : Int32) = 0 then (some (1, h))
    else (some (0, h)))
set_option maxRecDepth 20000 in
theorem m_J0_isLatin1_aae02 (i0 : Nat) (hi0 : i0 < 7) (h : kv_H) : kv_M kv_i kK_J0_isLatin1_aae02 [.ref (1010 + i0)] h (f_J0_isLatin1_aae02 i0 h) := by
  refine kv_met (ls := [some (.ref (1010 + i0))]) (show plainName RJ0 = true by decide +kernel) (fun _ => rfl) (fun _ => Nat.le_of_ble_eq_true rfl) ?_
  unfold f_J0_isLatin1_aae02
  refine kr_gsCS d_J0_isLatin1_aae02_0 wf_J0_38 ?_
  refine kr_if_eq d_J0_isLatin1_aae02_3 ?_ ?_
  · refine kr_const (v := 0) d_J0_isLatin1_aae02_17 ?_
    exact kr_zreturnK (by decide) d_J0_isLatin1_aae02_18 rfl
  · refine kr_aload0 d_J0_isLatin1_aae02_6 ?_
    refine kr_scod d_J0_isLatin1_aae02_7 hi0 wf_J0_15 ?_
    refine kr_if_ne d_J0_isLatin1_aae02_10 ?_ ?_
    · refine kr_const (v := 0) d_J0_isLatin1_aae02_17 ?_
      exact kr_zreturnK (by decide) d_J0_isLatin1_aae02_18 rfl
    · refine kr_const (v := 1) d_J0_isLatin1_aae02_13 ?_
      refine kr_goto d_J0_isLatin1_aae02_14 ?_
      exact kr_zreturnK (by decide) d_J0_isLatin1_aae02_18 rfl

/-! J3_checkIndex_8e157 -/
def f_J3_checkIndex_8e157 (x1 : Int32) (x2 : Int32) (h : kv_H) : Option (Int32 × kv_H) :=
  if x1 < 0 then (none)
  else (if x1 < x2 then (some (x1, h))
    else (none))
set_option maxRecDepth 20000 in
theorem m_J3_checkIndex_8e157 (x1 : Int32) (x2 : Int32) (u3 : Value) (hu3 : u3 = .null ∨ u3 = .ref 1002) (h : kv_H) : kv_M kv_i kK_J3_checkIndex_8e157 [.int x1, .int x2, u3] h (f_J3_checkIndex_8e157 x1 x2 h) := by
  rcases hu3 with rfl | rfl
  · refine kv_met (ls := [some (.int x1), some (.int x2), some (.null)]) (show plainName RJ3 = true by decide +kernel) (fun _ => rfl) (fun _ => Nat.le_of_ble_eq_true rfl) ?_
    unfold f_J3_checkIndex_8e157
    refine kr_iload0 d_J3_checkIndex_8e157_0 ?_
    refine kr_if_lt d_J3_checkIndex_8e157_1 ?_ ?_
    · exact kv_none
    · refine kr_iload0 d_J3_checkIndex_8e157_4 ?_
      refine kr_iload1 d_J3_checkIndex_8e157_5 ?_
      refine kr_icmp_lt d_J3_checkIndex_8e157_6 ?_ ?_
      · refine kr_iload0 d_J3_checkIndex_8e157_16 ?_
        exact kr_ireturn d_J3_checkIndex_8e157_17 rfl
      · exact kv_none
  · refine kv_met (ls := [some (.int x1), some (.int x2), some (.ref 1002)]) (show plainName RJ3 = true by decide +kernel) (fun _ => rfl) (fun _ => Nat.le_of_ble_eq_true rfl) ?_
    unfold f_J3_checkIndex_8e157
    refine kr_iload0 d_J3_checkIndex_8e157_0 ?_
    refine kr_if_lt d_J3_checkIndex_8e157_1 ?_ ?_
    · exact kv_none
    · refine kr_iload0 d_J3_checkIndex_8e157_4 ?_
      refine kr_iload1 d_J3_checkIndex_8e157_5 ?_
      refine kr_icmp_lt d_J3_checkIndex_8e157_6 ?_ ?_
      · refine kr_iload0 d_J3_checkIndex_8e157_16 ?_
        exact kr_ireturn d_J3_checkIndex_8e157_17 rfl
      · exact kv_none

/-! J0_checkIndex_df160 -/
def f_J0_checkIndex_df160 (x1 : Int32) (x2 : Int32) (h : kv_H) : Option (Unit × kv_H) :=
  kv_b (f_J3_checkIndex_8e157 x1 x2 h) (fun r3 h2 =>
  some ((), h2))
set_option maxRecDepth 20000 in
theorem m_J0_checkIndex_df160 (x1 : Int32) (x2 : Int32) (h : kv_H) : kv_M kv_u kK_J0_checkIndex_df160 [.int x1, .int x2] h (f_J0_checkIndex_df160 x1 x2 h) := by
  refine kv_met (ls := [some (.int x1), some (.int x2)]) (show plainName RJ0 = true by decide +kernel) (fun _ => rfl) (fun _ => Nat.le_of_ble_eq_true rfl) ?_
  unfold f_J0_checkIndex_df160
  refine kr_iload0 d_J0_checkIndex_df160_0 ?_
  refine kr_iload1 d_J0_checkIndex_df160_1 ?_
  refine kr_gsF d_J0_checkIndex_df160_2 wf_J0_1053 (fun u1 hu1 => ?_)
  refine kr_is_i (As := [.int x1, .int x2, u1]) d_J0_checkIndex_df160_5 cl_J0_1059 (m_J3_checkIndex_8e157 x1 x2 u1 hu1 h) (Nat.le_of_ble_eq_true rfl) rfl (Nat.le_of_ble_eq_true rfl) (fun r3 h2 => ?_)
  refine kr_pop d_J0_checkIndex_df160_8 rfl ?_
  exact kr_return d_J0_checkIndex_df160_9 rfl

/-! J1_charAt_3b067 -/
def f_J1_charAt_3b067 (i1 : Nat) (x2 : Int32) (h : kv_H) : Option (Int32 × kv_H) :=
  kv_b (f_J0_checkIndex_df160 x2 (nI (kv_sl.getD i1 0)) h) (fun _ h1 =>
  kv_k x2 (kv_sl.getD i1 0) (kv_t .char (((((kv_sb.getD i1 []).getD x2.toNatClampNeg 0) &&& 255).toUInt32 % 65536).toInt32) (some ((((((kv_sb.getD i1 []).getD x2.toNatClampNeg 0) &&& 255).toUInt32 % 65536).toInt32), h1))))
set_option maxRecDepth 20000 in
theorem m_J1_charAt_3b067 (i1 : Nat) (hi1 : i1 < 7) (x2 : Int32) (h : kv_H) : kv_M kv_i kK_J1_charAt_3b067 [.ref (1020 + i1), .int x2] h (f_J1_charAt_3b067 i1 x2 h) := by
  refine kv_met (ls := [some (.ref (1020 + i1)), some (.int x2)]) (show plainName RJ1 = true by decide +kernel) (fun _ => rfl) (fun _ => Nat.le_of_ble_eq_true rfl) ?_
  unfold f_J1_charAt_3b067
  refine kr_iload1 d_J1_charAt_3b067_0 ?_
  refine kr_aload0 d_J1_charAt_3b067_1 ?_
  refine kr_blen d_J1_charAt_3b067_2 hi1 ?_
  refine kr_is_u (As := [.int x2, .int (nI (kv_sl.getD i1 0))]) d_J1_charAt_3b067_3 cl_J1_9 (m_J0_checkIndex_df160 x2 (nI (kv_sl.getD i1 0)) h) (Nat.le_of_ble_eq_true rfl) rfl (Nat.le_of_ble_eq_true rfl) (fun h1 => ?_)
  refine kr_aload0 d_J1_charAt_3b067_6 ?_
  refine kr_iload1 d_J1_charAt_3b067_7 ?_
  refine kr_bald d_J1_charAt_3b067_8 hi1 ?_
  refine kr_const (v := 255) d_J1_charAt_3b067_9 ?_
  refine kr_iand d_J1_charAt_3b067_12 ?_
  refine kr_i2c d_J1_charAt_3b067_13 ?_
  exact kr_zreturn d_J1_charAt_3b067_14 rfl

/-! J0_charAt_5068e -/
def f_J0_charAt_5068e (i0 : Nat) (x1 : Int32) (h : kv_H) : Option (Int32 × kv_H) :=
  kv_b (f_J0_isLatin1_aae02 i0 h) (fun r2 h1 =>
  if r2 = 0 then (none)
  else (kv_b (f_J1_charAt_3b067 i0 x1 h1) (fun r4 h3 =>
    kv_t .char r4 (some (r4, h3)))))
set_option maxRecDepth 20000 in
theorem m_J0_charAt_5068e (i0 : Nat) (hi0 : i0 < 7) (x1 : Int32) (h : kv_H) : kv_M kv_i kK_J0_charAt_5068e [.ref (1010 + i0), .int x1] h (f_J0_charAt_5068e i0 x1 h) := by
  refine kv_met (ls := [some (.ref (1010 + i0)), some (.int x1)]) (show plainName RJ0 = true by decide +kernel) (fun _ => rfl) (fun _ => Nat.le_of_ble_eq_true rfl) ?_
  unfold f_J0_charAt_5068e
  refine kr_aload0 d_J0_charAt_5068e_0 ?_
  refine kr_ivS_i (As := []) d_J0_charAt_5068e_1 cl_J0_492 (m_J0_isLatin1_aae02 i0 hi0 h) hi0 (Nat.le_of_ble_eq_true rfl) rfl (Nat.le_of_ble_eq_true rfl) (fun r2 h1 => ?_)
  refine kr_if_eq d_J0_charAt_5068e_4 ?_ ?_
  · exact kv_none
  · refine kr_aload0 d_J0_charAt_5068e_7 ?_
    refine kr_sval d_J0_charAt_5068e_8 hi0 wf_J0_9 ?_
    refine kr_iload1 d_J0_charAt_5068e_11 ?_
    refine kr_is_i (As := [.ref (1020 + i0), .int x1]) d_J0_charAt_5068e_12 cl_J0_495 (m_J1_charAt_3b067 i0 hi0 x1 h1) (Nat.le_of_ble_eq_true rfl) rfl (Nat.le_of_ble_eq_true rfl) (fun r4 h3 => ?_)
    exact kr_zreturn d_J0_charAt_5068e_15 rfl

/-! X5_isWord -/
def f_X5_isWord_L28 (q1 : Nat) : Nat → Int32 → kv_H → (kv_H → Option (Int32 × kv_H)) → Option (Int32 × kv_H)
  | 0, _, _, _ => none
  | n + 1, v2, h, C => kv_b (f_J0_length_8abf5 q1 h) (fun r4 h3 =>
    if r4 ≤ v2 then (C h3)
    else (kv_k ((h3 41 7) + v2) 96 (kv_b (f_J0_charAt_5068e q1 v2 h3) (fun r6 h5 =>
      if (h3 42 ((h3 41 7) + v2).toNatClampNeg) = r6 then (f_X5_isWord_L28 q1 n (v2 + 1) h5 C)
      else (some (0, h5))))))
def f_X5_isWord (i1 : Nat) (h : kv_H) : Option (Int32 × kv_H) :=
  if (h 41 6) = (1 : Int32) then (kv_b (f_J0_length_8abf5 i1 h) (fun r2 h1 =>
    if ((h 41 8) - (h 41 7)) = r2 then (f_X5_isWord_L28 i1 kv_fu 0 h1 (fun  h7 =>
      some (1, h7)))
    else (some (0, h1))))
  else (some (0, h))
set_option maxRecDepth 20000 in
theorem s_f_X5_isWord_L28 (q1 : Nat) (hq1 : q1 < 7) : ∀ (n : Nat) (v2 : Int32) (h : kv_H) (C : kv_H → Option (Int32 × kv_H)), (∀  (h : kv_H), kv_S kv_i kK_X5_isWord 63 [none, none, none] [] h (C h)) → kv_S kv_i kK_X5_isWord 28 [some (.ref 41), some (.ref (1010 + q1)), some (.int v2)] [] h (f_X5_isWord_L28 q1 n v2 h C) := by
  intro n
  induction n with
  | zero => intros; exact kv_none
  | succ n ih =>
    intro v2 h C hC
    unfold f_X5_isWord_L28
    refine kr_iload2 d_X5_isWord_28 ?_
    refine kr_aload1 d_X5_isWord_29 ?_
    refine kr_ivS_i (As := []) d_X5_isWord_30 cl_X5_71 (m_J0_length_8abf5 q1 hq1 h) hq1 (Nat.le_of_ble_eq_true rfl) rfl (Nat.le_of_ble_eq_true rfl) (fun r4 h3 => ?_)
    refine kr_icmp_ge d_X5_isWord_33 ?_ ?_
    · refine kr_kill0 ?_
      refine kr_kill1 ?_
      refine kr_kill2 ?_
      exact hC h3
    · refine kr_aload0 d_X5_isWord_36 ?_
      refine kr_getR (q := 42) d_X5_isWord_37 fl_X5_9 sh_41 rfl ?_
      refine kr_aload0 d_X5_isWord_40 ?_
      refine kr_getI d_X5_isWord_41 fl_X5_54 sh_41 rfl ?_
      refine kr_iload2 d_X5_isWord_44 ?_
      refine kr_iadd d_X5_isWord_45 ?_
      refine kr_iaload d_X5_isWord_46 sh_42 ?_
      refine kr_aload1 d_X5_isWord_47 ?_
      refine kr_iload2 d_X5_isWord_48 ?_
      refine kr_ivS_i (As := [.int v2]) d_X5_isWord_49 cl_X5_75 (m_J0_charAt_5068e q1 hq1 v2 h3) hq1 (Nat.le_of_ble_eq_true rfl) rfl (Nat.le_of_ble_eq_true rfl) (fun r6 h5 => ?_)
      refine kr_icmp_eq d_X5_isWord_52 ?_ ?_
      · refine kr_iinc2 d_X5_isWord_57 (Nat.le_of_ble_eq_true rfl) kv_c1a ?_
        refine kr_goto d_X5_isWord_60 ?_
        exact ih (v2 + 1) h5 C hC
      · refine kr_const (v := 0) d_X5_isWord_55 ?_
        exact kr_zreturnK (by decide) d_X5_isWord_56 rfl

set_option maxRecDepth 20000 in
theorem m_X5_isWord (i1 : Nat) (hi1 : i1 < 7) (h : kv_H) : kv_M kv_i kK_X5_isWord [.ref 41, .ref (1010 + i1)] h (f_X5_isWord i1 h) := by
  refine kv_met (ls := [some (.ref 41), some (.ref (1010 + i1)), none]) (show plainName RX5 = true by decide +kernel) (fun _ => rfl) (fun _ => Nat.le_of_ble_eq_true rfl) ?_
  unfold f_X5_isWord
  refine kr_aload0 d_X5_isWord_0 ?_
  refine kr_getI d_X5_isWord_1 fl_X5_31 sh_41 rfl ?_
  refine kr_const (v := 1) d_X5_isWord_4 ?_
  refine kr_icmp_ne d_X5_isWord_5 ?_ ?_
  · refine kr_const (v := 0) d_X5_isWord_24 ?_
    exact kr_zreturnK (by decide) d_X5_isWord_25 rfl
  · refine kr_aload0 d_X5_isWord_8 ?_
    refine kr_getI d_X5_isWord_9 fl_X5_34 sh_41 rfl ?_
    refine kr_aload0 d_X5_isWord_12 ?_
    refine kr_getI d_X5_isWord_13 fl_X5_54 sh_41 rfl ?_
    refine kr_isub d_X5_isWord_16 ?_
    refine kr_aload1 d_X5_isWord_17 ?_
    refine kr_ivS_i (As := []) d_X5_isWord_18 cl_X5_71 (m_J0_length_8abf5 i1 hi1 h) hi1 (Nat.le_of_ble_eq_true rfl) rfl (Nat.le_of_ble_eq_true rfl) (fun r2 h1 => ?_)
    refine kr_icmp_eq d_X5_isWord_21 ?_ ?_
    · refine kr_const (v := 0) d_X5_isWord_26 ?_
      refine kr_istore2 d_X5_isWord_27 (Nat.le_of_ble_eq_true rfl) kv_c1a ?_
      refine s_f_X5_isWord_L28 i1 hi1 kv_fu 0 h1 _ (fun  h7 => ?_)
      refine kr_const (v := 1) d_X5_isWord_63 ?_
      exact kr_zreturnK (by decide) d_X5_isWord_64 rfl
    · refine kr_const (v := 0) d_X5_isWord_24 ?_
      exact kr_zreturnK (by decide) d_X5_isWord_25 rfl

/-! X5_keyHere -/
def f_X5_keyHere (h : kv_H) : Option (Int32 × kv_H) :=
  kv_b (f_X5_isWord 0 h) (fun r2 h1 =>
  if r2 = 0 then (kv_b (f_X5_isWord 1 h1) (fun r4 h3 =>
    if r4 = 0 then (kv_b (f_X5_isWord 2 h3) (fun r6 h5 =>
      if r6 = 0 then (some ((-1), h5))
      else (some (2, h5))))
    else (some (1, h3))))
  else (some (0, h1)))
set_option maxRecDepth 20000 in
theorem m_X5_keyHere (h : kv_H) : kv_M kv_i kK_X5_keyHere [.ref 41] h (f_X5_keyHere h) := by
  refine kv_met (ls := [some (.ref 41)]) (show plainName RX5 = true by decide +kernel) (fun _ => rfl) (fun _ => Nat.le_of_ble_eq_true rfl) ?_
  unfold f_X5_keyHere
  refine kr_aload0 d_X5_keyHere_0 ?_
  refine kr_ldcS 0 d_X5_keyHere_1 (by decide) rfl rfl ?_
  refine kr_iv_i (As := [.ref (1010 + 0)]) d_X5_keyHere_3 cl_X5_63 (m_X5_isWord 0 (by decide) h) sh_41 (Nat.le_of_ble_eq_true rfl) rfl (Nat.le_of_ble_eq_true rfl) (fun r2 h1 => ?_)
  refine kr_if_eq d_X5_keyHere_6 ?_ ?_
  · refine kr_aload0 d_X5_keyHere_11 ?_
    refine kr_ldcS 1 d_X5_keyHere_12 (by decide) rfl rfl ?_
    refine kr_iv_i (As := [.ref (1010 + 1)]) d_X5_keyHere_14 cl_X5_63 (m_X5_isWord 1 (by decide) h1) sh_41 (Nat.le_of_ble_eq_true rfl) rfl (Nat.le_of_ble_eq_true rfl) (fun r4 h3 => ?_)
    refine kr_if_eq d_X5_keyHere_17 ?_ ?_
    · refine kr_aload0 d_X5_keyHere_22 ?_
      refine kr_ldcS 2 d_X5_keyHere_23 (by decide) rfl rfl ?_
      refine kr_iv_i (As := [.ref (1010 + 2)]) d_X5_keyHere_25 cl_X5_63 (m_X5_isWord 2 (by decide) h3) sh_41 (Nat.le_of_ble_eq_true rfl) rfl (Nat.le_of_ble_eq_true rfl) (fun r6 h5 => ?_)
      refine kr_if_eq d_X5_keyHere_28 ?_ ?_
      · refine kr_const (v := (-1)) d_X5_keyHere_35 ?_
        exact kr_ireturn d_X5_keyHere_36 rfl
      · refine kr_const (v := 2) d_X5_keyHere_31 ?_
        refine kr_goto d_X5_keyHere_32 ?_
        exact kr_ireturn d_X5_keyHere_36 rfl
    · refine kr_const (v := 1) d_X5_keyHere_20 ?_
      exact kr_ireturn d_X5_keyHere_21 rfl
  · refine kr_const (v := 0) d_X5_keyHere_9 ?_
    exact kr_ireturn d_X5_keyHere_10 rfl

/-! X5_fail -/
def f_X5_fail (h : kv_H) : Option (Unit × kv_H) :=
  kv_jn (fun  (h1 : kv_H) =>
  kv_hl (kv_up h1 41 6 0) (fun h2 =>
    some ((), h2))) (fun (J15 : kv_H → Option (Unit × kv_H)) =>
  if 0 ≤ (h 41 9) then (J15 h)
  else (kv_hl (kv_up h 41 9 (h 41 7)) (fun h3 =>
    J15 h3)))
set_option maxRecDepth 20000 in
theorem m_X5_fail (h : kv_H) : kv_M kv_u kK_X5_fail [.ref 41] h (f_X5_fail h) := by
  refine kv_met (ls := [some (.ref 41)]) (show plainName RX5 = true by decide +kernel) (fun _ => rfl) (fun _ => Nat.le_of_ble_eq_true rfl) ?_
  unfold f_X5_fail
  refine kr_aload0 d_X5_fail_0 ?_
  refine kr_getI d_X5_fail_1 fl_X5_28 sh_41 rfl ?_
  refine kr_jn (P := fun J15 =>  ∀ (h1 : kv_H), kv_S kv_u kK_X5_fail 15 [some (.ref 41)] [] h1 (J15  h1)) (fun  h1 => ?_) (fun J15 hJ15 => ?_)
  · refine kr_aload0 d_X5_fail_15 ?_
    refine kr_const (v := 0) d_X5_fail_16 ?_
    refine kr_putI d_X5_fail_17 fp_X5_31 sh_41 rfl rfl rfl ?_
    refine kr_hl (fun h2 => ?_)
    exact kr_return d_X5_fail_20 rfl
  refine kr_if_ge d_X5_fail_4 ?_ ?_
  · exact hJ15 h
  · refine kr_aload0 d_X5_fail_7 ?_
    refine kr_aload0 d_X5_fail_8 ?_
    refine kr_getI d_X5_fail_9 fl_X5_54 sh_41 rfl ?_
    refine kr_putI d_X5_fail_12 fp_X5_28 sh_41 rfl rfl rfl ?_
    refine kr_hl (fun h3 => ?_)
    exact hJ15 h3

/-! J1_canEncode_9a6ad -/
def f_J1_canEncode_9a6ad (x1 : Int32) (h : kv_H) : Option (Int32 × kv_H) :=
  if x1 < 0 then (some (0, h))
  else (if (255 : Int32) < x1 then (some (0, h))
    else (some (1, h)))
set_option maxRecDepth 20000 in
theorem m_J1_canEncode_9a6ad (x1 : Int32) (h : kv_H) : kv_M kv_i kK_J1_canEncode_9a6ad [.int x1] h (f_J1_canEncode_9a6ad x1 h) := by
  refine kv_met (ls := [some (.int x1)]) (show plainName RJ1 = true by decide +kernel) (fun _ => rfl) (fun _ => Nat.le_of_ble_eq_true rfl) ?_
  unfold f_J1_canEncode_9a6ad
  refine kr_iload0 d_J1_canEncode_9a6ad_0 ?_
  refine kr_if_lt d_J1_canEncode_9a6ad_1 ?_ ?_
  · refine kr_const (v := 0) d_J1_canEncode_9a6ad_15 ?_
    exact kr_zreturnK (by decide) d_J1_canEncode_9a6ad_16 rfl
  · refine kr_iload0 d_J1_canEncode_9a6ad_4 ?_
    refine kr_const (v := 255) d_J1_canEncode_9a6ad_5 ?_
    refine kr_icmp_gt d_J1_canEncode_9a6ad_8 ?_ ?_
    · refine kr_const (v := 0) d_J1_canEncode_9a6ad_15 ?_
      exact kr_zreturnK (by decide) d_J1_canEncode_9a6ad_16 rfl
    · refine kr_const (v := 1) d_J1_canEncode_9a6ad_11 ?_
      refine kr_goto d_J1_canEncode_9a6ad_12 ?_
      exact kr_zreturnK (by decide) d_J1_canEncode_9a6ad_16 rfl

/-! J1_indexOfChar_4cfef -/
def f_J1_indexOfChar_4cfef_L7 (q0 : Nat) (c3 : Int32) (c4 : Int32) : Nat → Int32 → kv_H → (kv_H → Option (Int32 × kv_H)) → Option (Int32 × kv_H)
  | 0, _, _, _ => none
  | n + 1, v5, h, C => if c3 ≤ v5 then (C h)
    else (kv_k v5 (kv_sl.getD q0 0) (if ((kv_sb.getD q0 []).getD v5.toNatClampNeg 0) = c4 then (some (v5, h))
      else (f_J1_indexOfChar_4cfef_L7 q0 c3 c4 n (v5 + 1) h C)))
def f_J1_indexOfChar_4cfef (i1 : Nat) (x2 : Int32) (x3 : Int32) (x4 : Int32) (h : kv_H) : Option (Int32 × kv_H) :=
  kv_vl (x2.toInt8.toInt32) (fun e1 =>
  f_J1_indexOfChar_4cfef_L7 i1 x4 e1 kv_fu x3 h (fun  h2 =>
  some ((-1), h2)))
set_option maxRecDepth 20000 in
theorem s_f_J1_indexOfChar_4cfef_L7 (q0 : Nat) (hq0 : q0 < 7) (c3 : Int32) (c4 : Int32) : ∀ (n : Nat) (v5 : Int32) (h : kv_H) (C : kv_H → Option (Int32 × kv_H)), (∀  (h : kv_H), kv_S kv_i kK_J1_indexOfChar_4cfef 31 [none, none, none, none, none, none] [] h (C h)) → kv_S kv_i kK_J1_indexOfChar_4cfef 7 [some (.ref (1020 + q0)), none, none, some (.int c3), some (.int c4), some (.int v5)] [] h (f_J1_indexOfChar_4cfef_L7 q0 c3 c4 n v5 h C) := by
  intro n
  induction n with
  | zero => intros; exact kv_none
  | succ n ih =>
    intro v5 h C hC
    unfold f_J1_indexOfChar_4cfef_L7
    refine kr_iload5 d_J1_indexOfChar_4cfef_7 ?_
    refine kr_iload3 d_J1_indexOfChar_4cfef_9 ?_
    refine kr_icmp_ge d_J1_indexOfChar_4cfef_10 ?_ ?_
    · refine kr_kill0 ?_
      refine kr_kill3 ?_
      refine kr_kill4 ?_
      refine kr_kill5 ?_
      exact hC h
    · refine kr_aload0 d_J1_indexOfChar_4cfef_13 ?_
      refine kr_iload5 d_J1_indexOfChar_4cfef_14 ?_
      refine kr_bald d_J1_indexOfChar_4cfef_16 hq0 ?_
      refine kr_iload4 d_J1_indexOfChar_4cfef_17 ?_
      refine kr_icmp_ne d_J1_indexOfChar_4cfef_19 ?_ ?_
      · refine kr_iinc5 d_J1_indexOfChar_4cfef_25 (Nat.le_of_ble_eq_true rfl) kv_c1i ?_
        refine kr_goto d_J1_indexOfChar_4cfef_28 ?_
        exact ih (v5 + 1) h C hC
      · refine kr_iload5 d_J1_indexOfChar_4cfef_22 ?_
        exact kr_ireturn d_J1_indexOfChar_4cfef_24 rfl

set_option maxRecDepth 20000 in
theorem m_J1_indexOfChar_4cfef (i1 : Nat) (hi1 : i1 < 7) (x2 : Int32) (x3 : Int32) (x4 : Int32) (h : kv_H) : kv_M kv_i kK_J1_indexOfChar_4cfef [.ref (1020 + i1), .int x2, .int x3, .int x4] h (f_J1_indexOfChar_4cfef i1 x2 x3 x4 h) := by
  refine kv_met (ls := [some (.ref (1020 + i1)), some (.int x2), some (.int x3), some (.int x4), none, none]) (show plainName RJ1 = true by decide +kernel) (fun _ => rfl) (fun _ => Nat.le_of_ble_eq_true rfl) ?_
  unfold f_J1_indexOfChar_4cfef
  refine kr_iload1 d_J1_indexOfChar_4cfef_0 ?_
  refine kr_i2b d_J1_indexOfChar_4cfef_1 ?_
  refine kr_vl (fun e1 => ?_)
  refine kr_istore4 d_J1_indexOfChar_4cfef_2 (Nat.le_of_ble_eq_true rfl) kv_c1i ?_
  refine kr_iload2 d_J1_indexOfChar_4cfef_4 ?_
  refine kr_istore5 d_J1_indexOfChar_4cfef_5 (Nat.le_of_ble_eq_true rfl) kv_c1i ?_
  refine kr_kill1 ?_
  refine kr_kill2 ?_
  refine s_f_J1_indexOfChar_4cfef_L7 i1 hi1 x4 e1 kv_fu x3 h _ (fun  h2 => ?_)
  refine kr_const (v := (-1)) d_J1_indexOfChar_4cfef_31 ?_
  exact kr_ireturn d_J1_indexOfChar_4cfef_32 rfl

/-! J1_indexOf_4cfef -/
def f_J1_indexOf_4cfef (i1 : Nat) (x2 : Int32) (x3 : Int32) (x4 : Int32) (h : kv_H) : Option (Int32 × kv_H) :=
  kv_b (f_J1_canEncode_9a6ad x2 h) (fun r2 h1 =>
  if r2 = 0 then (some ((-1), h1))
  else (kv_vl (if x3 < (0 : Int32) then (0 : Int32) else x3) (fun e3 =>
    kv_vl (if (nI (kv_sl.getD i1 0)) < x4 then (nI (kv_sl.getD i1 0)) else x4) (fun e4 =>
    if e3 < e4 then (kv_b (f_J1_indexOfChar_4cfef i1 x2 e3 e4 h1) (fun r6 h5 =>
      some (r6, h5)))
    else (some ((-1), h1))))))
set_option maxRecDepth 20000 in
theorem m_J1_indexOf_4cfef (i1 : Nat) (hi1 : i1 < 7) (x2 : Int32) (x3 : Int32) (x4 : Int32) (h : kv_H) : kv_M kv_i kK_J1_indexOf_4cfef [.ref (1020 + i1), .int x2, .int x3, .int x4] h (f_J1_indexOf_4cfef i1 x2 x3 x4 h) := by
  refine kv_met (ls := [some (.ref (1020 + i1)), some (.int x2), some (.int x3), some (.int x4)]) (show plainName RJ1 = true by decide +kernel) (fun _ => rfl) (fun _ => Nat.le_of_ble_eq_true rfl) ?_
  unfold f_J1_indexOf_4cfef
  refine kr_iload1 d_J1_indexOf_4cfef_0 ?_
  refine kr_is_i (As := [.int x2]) d_J1_indexOf_4cfef_1 cl_J1_88 (m_J1_canEncode_9a6ad x2 h) (Nat.le_of_ble_eq_true rfl) rfl (Nat.le_of_ble_eq_true rfl) (fun r2 h1 => ?_)
  refine kr_if_ne d_J1_indexOf_4cfef_4 ?_ ?_
  · refine kr_iload2 d_J1_indexOf_4cfef_9 ?_
    refine kr_const (v := 0) d_J1_indexOf_4cfef_10 ?_
    refine kr_mmax d_J1_indexOf_4cfef_11 wm_J1_92 (Nat.le_of_ble_eq_true rfl) (Nat.le_of_ble_eq_true rfl) ?_
    refine kr_vl (fun e3 => ?_)
    refine kr_istore2 d_J1_indexOf_4cfef_14 (Nat.le_of_ble_eq_true rfl) kv_c1i ?_
    refine kr_iload3 d_J1_indexOf_4cfef_15 ?_
    refine kr_aload0 d_J1_indexOf_4cfef_16 ?_
    refine kr_blen d_J1_indexOf_4cfef_17 hi1 ?_
    refine kr_mmin d_J1_indexOf_4cfef_18 wm_J1_38 (Nat.le_of_ble_eq_true rfl) (Nat.le_of_ble_eq_true rfl) ?_
    refine kr_vl (fun e4 => ?_)
    refine kr_istore3 d_J1_indexOf_4cfef_21 (Nat.le_of_ble_eq_true rfl) kv_c1i ?_
    refine kr_iload2 d_J1_indexOf_4cfef_22 ?_
    refine kr_iload3 d_J1_indexOf_4cfef_23 ?_
    refine kr_icmp_lt d_J1_indexOf_4cfef_24 ?_ ?_
    · refine kr_aload0 d_J1_indexOf_4cfef_29 ?_
      refine kr_iload1 d_J1_indexOf_4cfef_30 ?_
      refine kr_iload2 d_J1_indexOf_4cfef_31 ?_
      refine kr_iload3 d_J1_indexOf_4cfef_32 ?_
      refine kr_is_i (As := [.ref (1020 + i1), .int x2, .int e3, .int e4]) d_J1_indexOf_4cfef_33 cl_J1_95 (m_J1_indexOfChar_4cfef i1 hi1 x2 e3 e4 h1) (Nat.le_of_ble_eq_true rfl) rfl (Nat.le_of_ble_eq_true rfl) (fun r6 h5 => ?_)
      exact kr_ireturn d_J1_indexOf_4cfef_36 rfl
    · refine kr_const (v := (-1)) d_J1_indexOf_4cfef_27 ?_
      exact kr_ireturn d_J1_indexOf_4cfef_28 rfl
  · refine kr_const (v := (-1)) d_J1_indexOf_4cfef_7 ?_
    exact kr_ireturn d_J1_indexOf_4cfef_8 rfl

/-! J0_indexOf_7cf53 -/
def f_J0_indexOf_7cf53 (i0 : Nat) (x1 : Int32) (x2 : Int32) (h : kv_H) : Option (Int32 × kv_H) :=
  kv_b (f_J0_isLatin1_aae02 i0 h) (fun r2 h1 =>
  if r2 = 0 then (none)
  else (kv_b (f_J0_length_8abf5 i0 h1) (fun r4 h3 =>
    kv_b (f_J1_indexOf_4cfef i0 x1 x2 r4 h3) (fun r6 h5 =>
    some (r6, h5)))))
set_option maxRecDepth 20000 in
theorem m_J0_indexOf_7cf53 (i0 : Nat) (hi0 : i0 < 7) (x1 : Int32) (x2 : Int32) (h : kv_H) : kv_M kv_i kK_J0_indexOf_7cf53 [.ref (1010 + i0), .int x1, .int x2] h (f_J0_indexOf_7cf53 i0 x1 x2 h) := by
  refine kv_met (ls := [some (.ref (1010 + i0)), some (.int x1), some (.int x2)]) (show plainName RJ0 = true by decide +kernel) (fun _ => rfl) (fun _ => Nat.le_of_ble_eq_true rfl) ?_
  unfold f_J0_indexOf_7cf53
  refine kr_aload0 d_J0_indexOf_7cf53_0 ?_
  refine kr_ivS_i (As := []) d_J0_indexOf_7cf53_1 cl_J0_492 (m_J0_isLatin1_aae02 i0 hi0 h) hi0 (Nat.le_of_ble_eq_true rfl) rfl (Nat.le_of_ble_eq_true rfl) (fun r2 h1 => ?_)
  refine kr_if_eq d_J0_indexOf_7cf53_4 ?_ ?_
  · exact kv_none
  · refine kr_aload0 d_J0_indexOf_7cf53_7 ?_
    refine kr_sval d_J0_indexOf_7cf53_8 hi0 wf_J0_9 ?_
    refine kr_iload1 d_J0_indexOf_7cf53_11 ?_
    refine kr_iload2 d_J0_indexOf_7cf53_12 ?_
    refine kr_aload0 d_J0_indexOf_7cf53_13 ?_
    refine kr_ivS_i (As := []) d_J0_indexOf_7cf53_14 cl_J0_505 (m_J0_length_8abf5 i0 hi0 h1) hi0 (Nat.le_of_ble_eq_true rfl) rfl (Nat.le_of_ble_eq_true rfl) (fun r4 h3 => ?_)
    refine kr_is_i (As := [.ref (1020 + i0), .int x1, .int x2, .int r4]) d_J0_indexOf_7cf53_17 cl_J0_637 (m_J1_indexOf_4cfef i0 hi0 x1 x2 r4 h3) (Nat.le_of_ble_eq_true rfl) rfl (Nat.le_of_ble_eq_true rfl) (fun r6 h5 => ?_)
    refine kr_goto d_J0_indexOf_7cf53_20 ?_
    exact kr_ireturn d_J0_indexOf_7cf53_36 rfl

/-! J0_indexOf_0f7a4 -/
def f_J0_indexOf_0f7a4 (i0 : Nat) (x1 : Int32) (h : kv_H) : Option (Int32 × kv_H) :=
  kv_b (f_J0_indexOf_7cf53 i0 x1 0 h) (fun r2 h1 =>
  some (r2, h1))
set_option maxRecDepth 20000 in
theorem m_J0_indexOf_0f7a4 (i0 : Nat) (hi0 : i0 < 7) (x1 : Int32) (h : kv_H) : kv_M kv_i kK_J0_indexOf_0f7a4 [.ref (1010 + i0), .int x1] h (f_J0_indexOf_0f7a4 i0 x1 h) := by
  refine kv_met (ls := [some (.ref (1010 + i0)), some (.int x1)]) (show plainName RJ0 = true by decide +kernel) (fun _ => rfl) (fun _ => Nat.le_of_ble_eq_true rfl) ?_
  unfold f_J0_indexOf_0f7a4
  refine kr_aload0 d_J0_indexOf_0f7a4_0 ?_
  refine kr_iload1 d_J0_indexOf_0f7a4_1 ?_
  refine kr_const (v := 0) d_J0_indexOf_0f7a4_2 ?_
  refine kr_ivS_i (As := [.int x1, .int 0]) d_J0_indexOf_0f7a4_3 cl_J0_633 (m_J0_indexOf_7cf53 i0 hi0 x1 0 h) hi0 (Nat.le_of_ble_eq_true rfl) rfl (Nat.le_of_ble_eq_true rfl) (fun r2 h1 => ?_)
  exact kr_ireturn d_J0_indexOf_0f7a4_6 rfl

/-! X5_joinerHere -/
def f_X5_joinerHere (h : kv_H) : Option (Int32 × kv_H) :=
  if (h 41 6) = (3 : Int32) then (kv_k (h 41 7) 96 (kv_b (f_J0_indexOf_0f7a4 3 (((h 42 (h 41 7).toNatClampNeg).toUInt32 % 65536).toInt32) h) (fun r2 h1 =>
    some (r2, h1))))
  else (some ((-1), h))
set_option maxRecDepth 20000 in
theorem m_X5_joinerHere (h : kv_H) : kv_M kv_i kK_X5_joinerHere [.ref 41] h (f_X5_joinerHere h) := by
  refine kv_met (ls := [some (.ref 41)]) (show plainName RX5 = true by decide +kernel) (fun _ => rfl) (fun _ => Nat.le_of_ble_eq_true rfl) ?_
  unfold f_X5_joinerHere
  refine kr_aload0 d_X5_joinerHere_0 ?_
  refine kr_getI d_X5_joinerHere_1 fl_X5_31 sh_41 rfl ?_
  refine kr_const (v := 3) d_X5_joinerHere_4 ?_
  refine kr_icmp_ne d_X5_joinerHere_5 ?_ ?_
  · refine kr_const (v := (-1)) d_X5_joinerHere_26 ?_
    exact kr_ireturn d_X5_joinerHere_27 rfl
  · refine kr_ldcS 3 d_X5_joinerHere_8 (by decide) rfl rfl ?_
    refine kr_aload0 d_X5_joinerHere_10 ?_
    refine kr_getR (q := 42) d_X5_joinerHere_11 fl_X5_9 sh_41 rfl ?_
    refine kr_aload0 d_X5_joinerHere_14 ?_
    refine kr_getI d_X5_joinerHere_15 fl_X5_54 sh_41 rfl ?_
    refine kr_iaload d_X5_joinerHere_18 sh_42 ?_
    refine kr_i2c d_X5_joinerHere_19 ?_
    refine kr_ivS_i (As := [.int (((h 42 (h 41 7).toNatClampNeg).toUInt32 % 65536).toInt32)]) d_X5_joinerHere_20 cl_X5_81 (m_J0_indexOf_0f7a4 3 (by decide) (((h 42 (h 41 7).toNatClampNeg).toUInt32 % 65536).toInt32) h) (by decide) (Nat.le_of_ble_eq_true rfl) rfl (Nat.le_of_ble_eq_true rfl) (fun r2 h1 => ?_)
    refine kr_goto d_X5_joinerHere_23 ?_
    exact kr_ireturn d_X5_joinerHere_27 rfl

/-! X5_joinsAt -/
def f_X5_joinsAt (x1 : Int32) (h : kv_H) : Option (Int32 × kv_H) :=
  kv_b (f_X5_joinerHere h) (fun r2 h1 =>
  if r2 < 0 then (some (0, h1))
  else (kv_k r2 9 (if (kv_ti.getD r2.toNatClampNeg 0) = x1 then (some (1, h1))
    else (some (0, h1)))))
set_option maxRecDepth 20000 in
theorem m_X5_joinsAt (x1 : Int32) (h : kv_H) : kv_M kv_i kK_X5_joinsAt [.ref 41, .int x1] h (f_X5_joinsAt x1 h) := by
  refine kv_met (ls := [some (.ref 41), some (.int x1), none]) (show plainName RX5 = true by decide +kernel) (fun _ => rfl) (fun _ => Nat.le_of_ble_eq_true rfl) ?_
  unfold f_X5_joinsAt
  refine kr_aload0 d_X5_joinsAt_0 ?_
  refine kr_iv_i (As := []) d_X5_joinsAt_1 cl_X5_84 (m_X5_joinerHere h) sh_41 (Nat.le_of_ble_eq_true rfl) rfl (Nat.le_of_ble_eq_true rfl) (fun r2 h1 => ?_)
  refine kr_istore2 d_X5_joinsAt_4 (Nat.le_of_ble_eq_true rfl) kv_c1i ?_
  refine kr_iload2 d_X5_joinsAt_5 ?_
  refine kr_if_lt d_X5_joinsAt_6 ?_ ?_
  · refine kr_const (v := 0) d_X5_joinsAt_22 ?_
    exact kr_zreturnK (by decide) d_X5_joinsAt_23 rfl
  · refine kr_gsTI d_X5_joinsAt_9 wf_X5_87 ?_
    refine kr_iload2 d_X5_joinsAt_12 ?_
    refine kr_ldTI d_X5_joinsAt_13 ?_
    refine kr_iload1 d_X5_joinsAt_14 ?_
    refine kr_icmp_ne d_X5_joinsAt_15 ?_ ?_
    · refine kr_const (v := 0) d_X5_joinsAt_22 ?_
      exact kr_zreturnK (by decide) d_X5_joinsAt_23 rfl
    · refine kr_const (v := 1) d_X5_joinsAt_18 ?_
      refine kr_goto d_X5_joinsAt_19 ?_
      exact kr_zreturnK (by decide) d_X5_joinsAt_23 rfl

/-! X5_addStep -/
def f_X5_addStep (x1 : Int32) (x2 : Int32) (h : kv_H) : Option (Unit × kv_H) :=
  if (96 : Int32) ≤ (h 41 3) then (some ((), h))
  else (kv_k (h 41 3) 96 (kv_hl (kv_up h 43 (h 41 3).toNatClampNeg ((x2 <<< (4 &&& 31)) ||| x1)) (fun h1 =>
    kv_hl (kv_up h1 41 3 ((h1 41 3) + 1)) (fun h2 =>
    some ((), h2)))))
set_option maxRecDepth 20000 in
theorem m_X5_addStep (x1 : Int32) (x2 : Int32) (h : kv_H) : kv_M kv_u kK_X5_addStep [.ref 41, .int x1, .int x2] h (f_X5_addStep x1 x2 h) := by
  refine kv_met (ls := [some (.ref 41), some (.int x1), some (.int x2)]) (show plainName RX5 = true by decide +kernel) (fun _ => rfl) (fun _ => Nat.le_of_ble_eq_true rfl) ?_
  unfold f_X5_addStep
  refine kr_aload0 d_X5_addStep_0 ?_
  refine kr_getI d_X5_addStep_1 fl_X5_22 sh_41 rfl ?_
  refine kr_const (v := 96) d_X5_addStep_4 ?_
  refine kr_icmp_ge d_X5_addStep_6 ?_ ?_
  · exact kr_return d_X5_addStep_33 rfl
  · refine kr_aload0 d_X5_addStep_9 ?_
    refine kr_getR (q := 43) d_X5_addStep_10 fl_X5_15 sh_41 rfl ?_
    refine kr_aload0 d_X5_addStep_13 ?_
    refine kr_getI d_X5_addStep_14 fl_X5_22 sh_41 rfl ?_
    refine kr_iload2 d_X5_addStep_17 ?_
    refine kr_const (v := 4) d_X5_addStep_18 ?_
    refine kr_ishl d_X5_addStep_19 ?_
    refine kr_iload1 d_X5_addStep_20 ?_
    refine kr_ior d_X5_addStep_21 ?_
    refine kr_iastore d_X5_addStep_22 sh_43 ?_
    refine kr_hl (fun h1 => ?_)
    refine kr_aload0 d_X5_addStep_23 ?_
    refine kr_dup d_X5_addStep_24 rfl ?_
    refine kr_getI d_X5_addStep_25 fl_X5_22 sh_41 rfl ?_
    refine kr_const (v := 1) d_X5_addStep_28 ?_
    refine kr_iadd d_X5_addStep_29 ?_
    refine kr_putI d_X5_addStep_30 fp_X5_22 sh_41 rfl rfl rfl ?_
    refine kr_hl (fun h2 => ?_)
    exact kr_return d_X5_addStep_33 rfl

/-! X5_numberHere -/
def f_X5_numberHere_L7 : Nat → Int32 → Int32 → kv_H → (Int32 → kv_H → Option (Int32 × kv_H)) → Option (Int32 × kv_H)
  | 0, _, _, _, _ => none
  | n + 1, v1, v2, h, C => if (h 41 8) ≤ v2 then (C v1 h)
    else (kv_k v2 96 (kv_vl (((10 * v1) + (h 42 v2.toNatClampNeg)) - 48) (fun e2 =>
      f_X5_numberHere_L7 n e2 (v2 + 1) h C)))
def f_X5_numberHere (h : kv_H) : Option (Int32 × kv_H) :=
  kv_vl (h 41 7) (fun e1 =>
  f_X5_numberHere_L7 kv_fu 0 e1 h (fun z3 h4 =>
  some (z3, h4)))
set_option maxRecDepth 20000 in
theorem s_f_X5_numberHere_L7 : ∀ (n : Nat) (v1 : Int32) (v2 : Int32) (h : kv_H) (C : Int32 → kv_H → Option (Int32 × kv_H)), (∀ (w1 : Int32) (h : kv_H), kv_S kv_i kK_X5_numberHere 36 [none, some (.int w1), none] [] h (C w1 h)) → kv_S kv_i kK_X5_numberHere 7 [some (.ref 41), some (.int v1), some (.int v2)] [] h (f_X5_numberHere_L7 n v1 v2 h C) := by
  intro n
  induction n with
  | zero => intros; exact kv_none
  | succ n ih =>
    intro v1 v2 h C hC
    unfold f_X5_numberHere_L7
    refine kr_iload2 d_X5_numberHere_7 ?_
    refine kr_aload0 d_X5_numberHere_8 ?_
    refine kr_getI d_X5_numberHere_9 fl_X5_34 sh_41 rfl ?_
    refine kr_icmp_ge d_X5_numberHere_12 ?_ ?_
    · refine kr_kill0 ?_
      refine kr_kill2 ?_
      exact hC v1 h
    · refine kr_const (v := 10) d_X5_numberHere_15 ?_
      refine kr_iload1 d_X5_numberHere_17 ?_
      refine kr_imul d_X5_numberHere_18 ?_
      refine kr_aload0 d_X5_numberHere_19 ?_
      refine kr_getR (q := 42) d_X5_numberHere_20 fl_X5_9 sh_41 rfl ?_
      refine kr_iload2 d_X5_numberHere_23 ?_
      refine kr_iaload d_X5_numberHere_24 sh_42 ?_
      refine kr_iadd d_X5_numberHere_25 ?_
      refine kr_const (v := 48) d_X5_numberHere_26 ?_
      refine kr_isub d_X5_numberHere_28 ?_
      refine kr_vl (fun e2 => ?_)
      refine kr_istore1 d_X5_numberHere_29 (Nat.le_of_ble_eq_true rfl) kv_c1a ?_
      refine kr_iinc2 d_X5_numberHere_30 (Nat.le_of_ble_eq_true rfl) kv_c1i ?_
      refine kr_goto d_X5_numberHere_33 ?_
      exact ih e2 (v2 + 1) h C hC

set_option maxRecDepth 20000 in
theorem m_X5_numberHere (h : kv_H) : kv_M kv_i kK_X5_numberHere [.ref 41] h (f_X5_numberHere h) := by
  refine kv_met (ls := [some (.ref 41), none, none]) (show plainName RX5 = true by decide +kernel) (fun _ => rfl) (fun _ => Nat.le_of_ble_eq_true rfl) ?_
  unfold f_X5_numberHere
  refine kr_const (v := 0) d_X5_numberHere_0 ?_
  refine kr_istore1 d_X5_numberHere_1 (Nat.le_of_ble_eq_true rfl) kv_c1a ?_
  refine kr_aload0 d_X5_numberHere_2 ?_
  refine kr_getI d_X5_numberHere_3 fl_X5_54 sh_41 rfl ?_
  refine kr_vl (fun e1 => ?_)
  refine kr_istore2 d_X5_numberHere_6 (Nat.le_of_ble_eq_true rfl) kv_c1i ?_
  refine s_f_X5_numberHere_L7 kv_fu 0 e1 h _ (fun z3 h4 => ?_)
  refine kr_iload1 d_X5_numberHere_36 ?_
  exact kr_ireturn d_X5_numberHere_37 rfl

/-! X5_addGiver -/
def f_X5_addGiver (x1 : Int32) (x2 : Int32) (h : kv_H) : Option (Unit × kv_H) :=
  kv_b (f_X5_addStep x1 x2 h) (fun _ h1 =>
  kv_hl (kv_up h1 41 5 ((h1 41 5) + 1)) (fun h2 =>
  kv_b (f_X5_advance h2) (fun _ h3 =>
  some ((), h3))))
set_option maxRecDepth 20000 in
theorem m_X5_addGiver (x1 : Int32) (x2 : Int32) (h : kv_H) : kv_M kv_u kK_X5_addGiver [.ref 41, .int x1, .int x2] h (f_X5_addGiver x1 x2 h) := by
  refine kv_met (ls := [some (.ref 41), some (.int x1), some (.int x2)]) (show plainName RX5 = true by decide +kernel) (fun _ => rfl) (fun _ => Nat.le_of_ble_eq_true rfl) ?_
  unfold f_X5_addGiver
  refine kr_aload0 d_X5_addGiver_0 ?_
  refine kr_iload1 d_X5_addGiver_1 ?_
  refine kr_iload2 d_X5_addGiver_2 ?_
  refine kr_iv_u (As := [.int x1, .int x2]) d_X5_addGiver_3 cl_X5_98 (m_X5_addStep x1 x2 h) sh_41 (Nat.le_of_ble_eq_true rfl) rfl (Nat.le_of_ble_eq_true rfl) (fun h1 => ?_)
  refine kr_aload0 d_X5_addGiver_6 ?_
  refine kr_dup d_X5_addGiver_7 rfl ?_
  refine kr_getI d_X5_addGiver_8 fl_X5_25 sh_41 rfl ?_
  refine kr_const (v := 1) d_X5_addGiver_11 ?_
  refine kr_iadd d_X5_addGiver_12 ?_
  refine kr_putI d_X5_addGiver_13 fp_X5_25 sh_41 rfl rfl rfl ?_
  refine kr_hl (fun h2 => ?_)
  refine kr_aload0 d_X5_addGiver_16 ?_
  refine kr_iv_u (As := []) d_X5_addGiver_17 cl_X5_37 (m_X5_advance h2) sh_41 (Nat.le_of_ble_eq_true rfl) rfl (Nat.le_of_ble_eq_true rfl) (fun h3 => ?_)
  exact kr_return d_X5_addGiver_20 rfl

/-! X5_nameHere -/
def f_X5_nameHere (h : kv_H) : Option (Int32 × kv_H) :=
  if ((h 41 8) - (h 41 7)) = (1 : Int32) then (kv_jn (fun (y1 : Nat) (h2 : kv_H) =>
    kv_k (h2 41 7) 96 (kv_b (f_J0_indexOf_0f7a4 y1 (((h2 42 (h2 41 7).toNatClampNeg).toUInt32 % 65536).toInt32) h2) (fun r4 h3 =>
      some (r4, h3)))) (fun (J42 : Nat → kv_H → Option (Int32 × kv_H)) =>
    if (h 41 4) = 0 then (J42 4 h)
    else (if (h 41 4) = (1 : Int32) then (J42 5 h)
      else (J42 6 h))))
  else (some ((-1), h))
set_option maxRecDepth 20000 in
theorem m_X5_nameHere (h : kv_H) : kv_M kv_i kK_X5_nameHere [.ref 41] h (f_X5_nameHere h) := by
  refine kv_met (ls := [some (.ref 41), none]) (show plainName RX5 = true by decide +kernel) (fun _ => rfl) (fun _ => Nat.le_of_ble_eq_true rfl) ?_
  unfold f_X5_nameHere
  refine kr_aload0 d_X5_nameHere_0 ?_
  refine kr_getI d_X5_nameHere_1 fl_X5_34 sh_41 rfl ?_
  refine kr_aload0 d_X5_nameHere_4 ?_
  refine kr_getI d_X5_nameHere_5 fl_X5_54 sh_41 rfl ?_
  refine kr_isub d_X5_nameHere_8 ?_
  refine kr_const (v := 1) d_X5_nameHere_9 ?_
  refine kr_icmp_eq d_X5_nameHere_10 ?_ ?_
  · refine kr_aload0 d_X5_nameHere_15 ?_
    refine kr_getI d_X5_nameHere_16 fl_X5_44 sh_41 rfl ?_
    refine kr_jn (P := fun J42 => ∀ (y1 : Nat), y1 < 7 → ∀ (h2 : kv_H), kv_S kv_i kK_X5_nameHere 42 [some (.ref 41), none] [.ref (1010 + y1)] h2 (J42 y1 h2)) (fun y1 hy1 h2 => ?_) (fun J42 hJ42 => ?_)
    · refine kr_astore1 d_X5_nameHere_42 (Nat.le_of_ble_eq_true rfl) kv_c1a ?_
      refine kr_aload1 d_X5_nameHere_43 ?_
      refine kr_aload0 d_X5_nameHere_44 ?_
      refine kr_getR (q := 42) d_X5_nameHere_45 fl_X5_9 sh_41 rfl ?_
      refine kr_aload0 d_X5_nameHere_48 ?_
      refine kr_getI d_X5_nameHere_49 fl_X5_54 sh_41 rfl ?_
      refine kr_iaload d_X5_nameHere_52 sh_42 ?_
      refine kr_i2c d_X5_nameHere_53 ?_
      refine kr_ivS_i (As := [.int (((h2 42 (h2 41 7).toNatClampNeg).toUInt32 % 65536).toInt32)]) d_X5_nameHere_54 cl_X5_81 (m_J0_indexOf_0f7a4 y1 hy1 (((h2 42 (h2 41 7).toNatClampNeg).toUInt32 % 65536).toInt32) h2) hy1 (Nat.le_of_ble_eq_true rfl) rfl (Nat.le_of_ble_eq_true rfl) (fun r4 h3 => ?_)
      exact kr_ireturn d_X5_nameHere_57 rfl
    refine kr_if_ne d_X5_nameHere_19 ?_ ?_
    · refine kr_aload0 d_X5_nameHere_27 ?_
      refine kr_getI d_X5_nameHere_28 fl_X5_44 sh_41 rfl ?_
      refine kr_const (v := 1) d_X5_nameHere_31 ?_
      refine kr_icmp_ne d_X5_nameHere_32 ?_ ?_
      · refine kr_ldcS 6 d_X5_nameHere_40 (by decide) rfl rfl ?_
        exact hJ42 6 (by decide) h
      · refine kr_ldcS 5 d_X5_nameHere_35 (by decide) rfl rfl ?_
        refine kr_goto d_X5_nameHere_37 ?_
        exact hJ42 5 (by decide) h
    · refine kr_ldcS 4 d_X5_nameHere_22 (by decide) rfl rfl ?_
      refine kr_goto d_X5_nameHere_24 ?_
      exact hJ42 4 (by decide) h
  · refine kr_const (v := (-1)) d_X5_nameHere_13 ?_
    exact kr_ireturn d_X5_nameHere_14 rfl

/-! X5_isSign -/
def f_X5_isSign (x1 : Int32) (h : kv_H) : Option (Int32 × kv_H) :=
  if (h 41 6) = (3 : Int32) then (kv_k (h 41 7) 96 (if (h 42 (h 41 7).toNatClampNeg) = x1 then (some (1, h))
    else (some (0, h))))
  else (some (0, h))
set_option maxRecDepth 20000 in
theorem m_X5_isSign (x1 : Int32) (h : kv_H) : kv_M kv_i kK_X5_isSign [.ref 41, .int x1] h (f_X5_isSign x1 h) := by
  refine kv_met (ls := [some (.ref 41), some (.int x1)]) (show plainName RX5 = true by decide +kernel) (fun _ => rfl) (fun _ => Nat.le_of_ble_eq_true rfl) ?_
  unfold f_X5_isSign
  refine kr_aload0 d_X5_isSign_0 ?_
  refine kr_getI d_X5_isSign_1 fl_X5_31 sh_41 rfl ?_
  refine kr_const (v := 3) d_X5_isSign_4 ?_
  refine kr_icmp_ne d_X5_isSign_5 ?_ ?_
  · refine kr_const (v := 0) d_X5_isSign_25 ?_
    exact kr_zreturnK (by decide) d_X5_isSign_26 rfl
  · refine kr_aload0 d_X5_isSign_8 ?_
    refine kr_getR (q := 42) d_X5_isSign_9 fl_X5_9 sh_41 rfl ?_
    refine kr_aload0 d_X5_isSign_12 ?_
    refine kr_getI d_X5_isSign_13 fl_X5_54 sh_41 rfl ?_
    refine kr_iaload d_X5_isSign_16 sh_42 ?_
    refine kr_iload1 d_X5_isSign_17 ?_
    refine kr_icmp_ne d_X5_isSign_18 ?_ ?_
    · refine kr_const (v := 0) d_X5_isSign_25 ?_
      exact kr_zreturnK (by decide) d_X5_isSign_26 rfl
    · refine kr_const (v := 1) d_X5_isSign_21 ?_
      refine kr_goto d_X5_isSign_22 ?_
      exact kr_zreturnK (by decide) d_X5_isSign_26 rfl

/-! grp_pj -/
def f_X5_parseJoinedB_L37 (rc : Nat → Int32 → Int32 → Int32 → kv_H → Option (Unit × kv_H)) (c1 : Int32) (c2 : Int32) (c3 : Int32) (c4 : Int32) : Nat → Int32 → kv_H → (kv_H → Option (Unit × kv_H)) → Option (Unit × kv_H)
  | 0, _, _, _ => none
  | n + 1, v5, h, C => if c4 ≤ v5 then (C h)
    else (kv_b (f_X5_joinsAt c1 h) (fun r5 h4 =>
      if r5 = 0 then (C h4)
      else (kv_b (f_X5_joinerHere h4) (fun r7 h6 =>
        kv_b (f_X5_advance h6) (fun _ h8 =>
        kv_b (rc 0 (c1 + 1) c2 c3 h8) (fun _ h9 =>
        kv_b (f_X5_addStep r7 0 h9) (fun _ h10 =>
        f_X5_parseJoinedB_L37 rc c1 c2 c3 c4 n (v5 + 1) h10 C)))))))
def f_X5_parseJoinedB (rc : Nat → Int32 → Int32 → Int32 → kv_H → Option (Unit × kv_H)) (x1 : Int32) (x2 : Int32) (x3 : Int32) (h : kv_H) : Option (Unit × kv_H) :=
  if x1 < (5 : Int32) then (kv_b (rc 0 (x1 + 1) x2 x3 h) (fun _ h1 =>
    kv_jn (fun (y2 : Int32) (h3 : kv_H) =>
    f_X5_parseJoinedB_L37 rc x1 x2 x3 y2 kv_fu 0 h3 (fun  h11 =>
      some ((), h11))) (fun (J32 : Int32 → kv_H → Option (Unit × kv_H)) =>
    if x1 = (2 : Int32) then (J32 1 h1)
    else (J32 96 h1))))
  else (kv_b (rc 1 x2 x3 0 h) (fun _ h12 =>
    some ((), h12)))
def f_X5_parsePieceB (rc : Nat → Int32 → Int32 → Int32 → kv_H → Option (Unit × kv_H)) (x1 : Int32) (x2 : Int32) (h : kv_H) : Option (Unit × kv_H) :=
  kv_jn (fun  (h1 : kv_H) =>
  kv_jn (fun  (h2 : kv_H) =>
    kv_b (f_X5_isSign 33 h2) (fun r4 h3 =>
      kv_jn (fun  (h5 : kv_H) =>
      kv_b (f_X5_isSign 40 h5) (fun r7 h6 =>
        if r7 = 0 then (kv_b (f_X5_fail h6) (fun _ h8 =>
          some ((), h8)))
        else (if (8 : Int32) ≤ x1 then (kv_b (f_X5_fail h6) (fun _ h9 =>
            some ((), h9)))
          else (kv_b (f_X5_advance h6) (fun _ h10 =>
            kv_b (rc 0 0 (x1 + 1) x2 h10) (fun _ h11 =>
            kv_b (f_X5_isSign 41 h11) (fun r13 h12 =>
            if r13 = 0 then (kv_b (f_X5_fail h12) (fun _ h14 =>
              some ((), h14)))
            else (kv_b (f_X5_advance h12) (fun _ h15 =>
              some ((), h15)))))))))) (fun (J99 : kv_H → Option (Unit × kv_H)) =>
      if r4 = 0 then (J99 h3)
      else (if (8 : Int32) ≤ x2 then (J99 h3)
        else (kv_b (f_X5_advance h3) (fun _ h16 =>
          kv_b (rc 1 x1 (x2 + 1) 0 h16) (fun _ h17 =>
          kv_b (f_X5_addStep 9 0 h17) (fun _ h18 =>
          some ((), h18))))))))) (fun (J62 : kv_H → Option (Unit × kv_H)) =>
    if (h1 41 6) = (1 : Int32) then (kv_b (f_X5_nameHere h1) (fun r20 h19 =>
      if r20 < 0 then (J62 h19)
      else (kv_b (f_X5_nameHere h19) (fun r22 h21 =>
        kv_b (f_X5_addGiver 11 r22 h21) (fun _ h23 =>
        some ((), h23))))))
    else (J62 h1))) (fun (J34 : kv_H → Option (Unit × kv_H)) =>
  if (h 41 6) = (2 : Int32) then (if (4 : Int32) < ((h 41 8) - (h 41 7)) then (J34 h)
    else (kv_b (f_X5_numberHere h) (fun r25 h24 =>
      kv_b (f_X5_addGiver 10 r25 h24) (fun _ h26 =>
      some ((), h26)))))
  else (J34 h))
def f_pj : Nat → Nat → Int32 → Int32 → Int32 → kv_H → Option (Unit × kv_H)
  | 0, _, _, _, _, _ => none
  | d + 1, t, a, b, c, h => if t = 0 then f_X5_parseJoinedB (f_pj d) a b c h else f_X5_parsePieceB (f_pj d) a b h
def f_X5_parseJoined (d : Nat) (x1 x2 x3 : Int32) (h : kv_H) : Option (Unit × kv_H) := f_pj d 0 x1 x2 x3 h
def f_X5_parsePiece (d : Nat) (x1 x2 : Int32) (h : kv_H) : Option (Unit × kv_H) := f_pj d 1 x1 x2 0 h
set_option maxRecDepth 20000 in
theorem s_f_X5_parseJoinedB_L37 (d : Nat) (rc : Nat → Int32 → Int32 → Int32 → kv_H → Option (Unit × kv_H)) (hr_X5_parseJoined : ∀ (x1 : Int32) (x2 : Int32) (x3 : Int32) (h : kv_H), kv_M kv_u (kK_X5_parseJoined d) [.ref 41, .int x1, .int x2, .int x3] h (rc 0 x1 x2 x3 h)) (hr_X5_parsePiece : ∀ (x1 : Int32) (x2 : Int32) (h : kv_H), kv_M kv_u (kK_X5_parsePiece d) [.ref 41, .int x1, .int x2] h (rc 1 x1 x2 0 h)) (c1 : Int32) (c2 : Int32) (c3 : Int32) (c4 : Int32) : ∀ (n : Nat) (v5 : Int32) (h : kv_H) (C : kv_H → Option (Unit × kv_H)), (∀  (h : kv_H), kv_S kv_u (kK_X5_parseJoined (d + 1)) 84 [none, none, none, none, none, none, none] [] h (C h)) → kv_S kv_u (kK_X5_parseJoined (d + 1)) 37 [some (.ref 41), some (.int c1), some (.int c2), some (.int c3), some (.int c4), some (.int v5), none] [] h (f_X5_parseJoinedB_L37 rc c1 c2 c3 c4 n v5 h C) := by
  intro n
  induction n with
  | zero => intros; exact kv_none
  | succ n ih =>
    intro v5 h C hC
    unfold f_X5_parseJoinedB_L37
    refine kr_iload5 (d_X5_parseJoined_37 _) ?_
    refine kr_iload4 (d_X5_parseJoined_39 _) ?_
    refine kr_icmp_ge (d_X5_parseJoined_41 _) ?_ ?_
    · refine kr_kill0 ?_
      refine kr_kill1 ?_
      refine kr_kill2 ?_
      refine kr_kill3 ?_
      refine kr_kill4 ?_
      refine kr_kill5 ?_
      exact hC h
    · refine kr_aload0 (d_X5_parseJoined_44 _) ?_
      refine kr_iload1 (d_X5_parseJoined_45 _) ?_
      refine kr_iv_i (As := [.int c1]) (d_X5_parseJoined_46 _) cl_X5_94 (m_X5_joinsAt c1 h) sh_41 (kv_dl (Nat.le_of_ble_eq_true rfl)) rfl (Nat.le_of_ble_eq_true rfl) (fun r5 h4 => ?_)
      refine kr_if_eq (d_X5_parseJoined_49 _) ?_ ?_
      · refine kr_kill0 ?_
        refine kr_kill1 ?_
        refine kr_kill2 ?_
        refine kr_kill3 ?_
        refine kr_kill4 ?_
        refine kr_kill5 ?_
        exact hC h4
      · refine kr_aload0 (d_X5_parseJoined_52 _) ?_
        refine kr_iv_i (As := []) (d_X5_parseJoined_53 _) cl_X5_84 (m_X5_joinerHere h4) sh_41 (kv_dl (Nat.le_of_ble_eq_true rfl)) rfl (Nat.le_of_ble_eq_true rfl) (fun r7 h6 => ?_)
        refine kr_istore6 (d_X5_parseJoined_56 _) (Nat.le_of_ble_eq_true rfl) kv_c1i ?_
        refine kr_aload0 (d_X5_parseJoined_58 _) ?_
        refine kr_iv_u (As := []) (d_X5_parseJoined_59 _) cl_X5_37 (m_X5_advance h6) sh_41 (kv_dl (Nat.le_of_ble_eq_true rfl)) rfl (Nat.le_of_ble_eq_true rfl) (fun h8 => ?_)
        refine kr_aload0 (d_X5_parseJoined_62 _) ?_
        refine kr_iload1 (d_X5_parseJoined_63 _) ?_
        refine kr_const (v := 1) (d_X5_parseJoined_64 _) ?_
        refine kr_iadd (d_X5_parseJoined_65 _) ?_
        refine kr_iload2 (d_X5_parseJoined_66 _) ?_
        refine kr_iload3 (d_X5_parseJoined_67 _) ?_
        refine kr_iv_u (As := [.int (c1 + 1), .int c2, .int c3]) (d_X5_parseJoined_68 _) (cl_X5_50 _) (hr_X5_parseJoined (c1 + 1) c2 c3 h8) sh_41 kv_dr rfl (Nat.le_of_ble_eq_true rfl) (fun h9 => ?_)
        refine kr_aload0 (d_X5_parseJoined_71 _) ?_
        refine kr_iload6 (d_X5_parseJoined_72 _) ?_
        refine kr_const (v := 0) (d_X5_parseJoined_74 _) ?_
        refine kr_iv_u (As := [.int r7, .int 0]) (d_X5_parseJoined_75 _) cl_X5_98 (m_X5_addStep r7 0 h9) sh_41 (kv_dl (Nat.le_of_ble_eq_true rfl)) rfl (Nat.le_of_ble_eq_true rfl) (fun h10 => ?_)
        refine kr_iinc5 (d_X5_parseJoined_78 _) (Nat.le_of_ble_eq_true rfl) kv_c1i ?_
        refine kr_goto (d_X5_parseJoined_81 _) ?_
        refine kr_kill6 ?_
        exact ih (v5 + 1) h10 C hC

set_option maxRecDepth 20000 in
theorem m_X5_parseJoinedB (d : Nat) (rc : Nat → Int32 → Int32 → Int32 → kv_H → Option (Unit × kv_H)) (hr_X5_parseJoined : ∀ (x1 : Int32) (x2 : Int32) (x3 : Int32) (h : kv_H), kv_M kv_u (kK_X5_parseJoined d) [.ref 41, .int x1, .int x2, .int x3] h (rc 0 x1 x2 x3 h)) (hr_X5_parsePiece : ∀ (x1 : Int32) (x2 : Int32) (h : kv_H), kv_M kv_u (kK_X5_parsePiece d) [.ref 41, .int x1, .int x2] h (rc 1 x1 x2 0 h)) (x1 : Int32) (x2 : Int32) (x3 : Int32) (h : kv_H) : kv_M kv_u (kK_X5_parseJoined (d + 1)) [.ref 41, .int x1, .int x2, .int x3] h (f_X5_parseJoinedB rc x1 x2 x3 h) := by
  refine kv_met (ls := [some (.ref 41), some (.int x1), some (.int x2), some (.int x3), none, none, none]) (show plainName RX5 = true by decide +kernel) (fun _ => rfl) (fun _ => Nat.le_of_ble_eq_true rfl) ?_
  unfold f_X5_parseJoinedB
  refine kr_iload1 (d_X5_parseJoined_0 _) ?_
  refine kr_const (v := 5) (d_X5_parseJoined_1 _) ?_
  refine kr_icmp_lt (d_X5_parseJoined_2 _) ?_ ?_
  · refine kr_aload0 (d_X5_parseJoined_12 _) ?_
    refine kr_iload1 (d_X5_parseJoined_13 _) ?_
    refine kr_const (v := 1) (d_X5_parseJoined_14 _) ?_
    refine kr_iadd (d_X5_parseJoined_15 _) ?_
    refine kr_iload2 (d_X5_parseJoined_16 _) ?_
    refine kr_iload3 (d_X5_parseJoined_17 _) ?_
    refine kr_iv_u (As := [.int (x1 + 1), .int x2, .int x3]) (d_X5_parseJoined_18 _) (cl_X5_50 _) (hr_X5_parseJoined (x1 + 1) x2 x3 h) sh_41 kv_dr rfl (Nat.le_of_ble_eq_true rfl) (fun h1 => ?_)
    refine kr_iload1 (d_X5_parseJoined_21 _) ?_
    refine kr_const (v := 2) (d_X5_parseJoined_22 _) ?_
    refine kr_jn (P := fun J32 => ∀ (y2 : Int32), ∀ (h3 : kv_H), kv_S kv_u (kK_X5_parseJoined (d + 1)) 32 [some (.ref 41), some (.int x1), some (.int x2), some (.int x3), none, none, none] [.int y2] h3 (J32 y2 h3)) (fun y2 h3 => ?_) (fun J32 hJ32 => ?_)
    · refine kr_istore4 (d_X5_parseJoined_32 _) (Nat.le_of_ble_eq_true rfl) kv_c1i ?_
      refine kr_const (v := 0) (d_X5_parseJoined_34 _) ?_
      refine kr_istore5 (d_X5_parseJoined_35 _) (Nat.le_of_ble_eq_true rfl) kv_c1i ?_
      refine s_f_X5_parseJoinedB_L37 d rc hr_X5_parseJoined hr_X5_parsePiece x1 x2 x3 y2 kv_fu 0 h3 _ (fun  h11 => ?_)
      exact kr_return (d_X5_parseJoined_84 _) rfl
    refine kr_icmp_ne (d_X5_parseJoined_23 _) ?_ ?_
    · refine kr_const (v := 96) (d_X5_parseJoined_30 _) ?_
      exact hJ32 96 h1
    · refine kr_const (v := 1) (d_X5_parseJoined_26 _) ?_
      refine kr_goto (d_X5_parseJoined_27 _) ?_
      exact hJ32 1 h1
  · refine kr_aload0 (d_X5_parseJoined_5 _) ?_
    refine kr_iload2 (d_X5_parseJoined_6 _) ?_
    refine kr_iload3 (d_X5_parseJoined_7 _) ?_
    refine kr_iv_u (As := [.int x2, .int x3]) (d_X5_parseJoined_8 _) (cl_X5_90 _) (hr_X5_parsePiece x2 x3 h) sh_41 kv_dr rfl (Nat.le_of_ble_eq_true rfl) (fun h12 => ?_)
    exact kr_return (d_X5_parseJoined_11 _) rfl

set_option maxRecDepth 20000 in
theorem m_X5_parsePieceB (d : Nat) (rc : Nat → Int32 → Int32 → Int32 → kv_H → Option (Unit × kv_H)) (hr_X5_parseJoined : ∀ (x1 : Int32) (x2 : Int32) (x3 : Int32) (h : kv_H), kv_M kv_u (kK_X5_parseJoined d) [.ref 41, .int x1, .int x2, .int x3] h (rc 0 x1 x2 x3 h)) (hr_X5_parsePiece : ∀ (x1 : Int32) (x2 : Int32) (h : kv_H), kv_M kv_u (kK_X5_parsePiece d) [.ref 41, .int x1, .int x2] h (rc 1 x1 x2 0 h)) (x1 : Int32) (x2 : Int32) (h : kv_H) : kv_M kv_u (kK_X5_parsePiece (d + 1)) [.ref 41, .int x1, .int x2] h (f_X5_parsePieceB rc x1 x2 h) := by
  refine kv_met (ls := [some (.ref 41), some (.int x1), some (.int x2)]) (show plainName RX5 = true by decide +kernel) (fun _ => rfl) (fun _ => Nat.le_of_ble_eq_true rfl) ?_
  unfold f_X5_parsePieceB
  refine kr_aload0 (d_X5_parsePiece_0 _) ?_
  refine kr_getI (d_X5_parsePiece_1 _) fl_X5_31 sh_41 rfl ?_
  refine kr_const (v := 2) (d_X5_parsePiece_4 _) ?_
  refine kr_jn (P := fun J34 =>  ∀ (h1 : kv_H), kv_S kv_u (kK_X5_parsePiece (d + 1)) 34 [some (.ref 41), some (.int x1), some (.int x2)] [] h1 (J34  h1)) (fun  h1 => ?_) (fun J34 hJ34 => ?_)
  · refine kr_aload0 (d_X5_parsePiece_34 _) ?_
    refine kr_getI (d_X5_parsePiece_35 _) fl_X5_31 sh_41 rfl ?_
    refine kr_const (v := 1) (d_X5_parsePiece_38 _) ?_
    refine kr_jn (P := fun J62 =>  ∀ (h2 : kv_H), kv_S kv_u (kK_X5_parsePiece (d + 1)) 62 [some (.ref 41), some (.int x1), some (.int x2)] [] h2 (J62  h2)) (fun  h2 => ?_) (fun J62 hJ62 => ?_)
    · refine kr_aload0 (d_X5_parsePiece_62 _) ?_
      refine kr_const (v := 33) (d_X5_parsePiece_63 _) ?_
      refine kr_iv_i (As := [.int 33]) (d_X5_parsePiece_65 _) cl_X5_110 (m_X5_isSign 33 h2) sh_41 (kv_dl (Nat.le_of_ble_eq_true rfl)) rfl (Nat.le_of_ble_eq_true rfl) (fun r4 h3 => ?_)
      refine kr_jn (P := fun J99 =>  ∀ (h5 : kv_H), kv_S kv_u (kK_X5_parsePiece (d + 1)) 99 [some (.ref 41), some (.int x1), some (.int x2)] [] h5 (J99  h5)) (fun  h5 => ?_) (fun J99 hJ99 => ?_)
      · refine kr_aload0 (d_X5_parsePiece_99 _) ?_
        refine kr_const (v := 40) (d_X5_parsePiece_100 _) ?_
        refine kr_iv_i (As := [.int 40]) (d_X5_parsePiece_102 _) cl_X5_110 (m_X5_isSign 40 h5) sh_41 (kv_dl (Nat.le_of_ble_eq_true rfl)) rfl (Nat.le_of_ble_eq_true rfl) (fun r7 h6 => ?_)
        refine kr_if_eq (d_X5_parsePiece_105 _) ?_ ?_
        · refine kr_aload0 (d_X5_parsePiece_150 _) ?_
          refine kr_iv_u (As := []) (d_X5_parsePiece_151 _) cl_X5_47 (m_X5_fail h6) sh_41 (kv_dl (Nat.le_of_ble_eq_true rfl)) rfl (Nat.le_of_ble_eq_true rfl) (fun h8 => ?_)
          exact kr_return (d_X5_parsePiece_154 _) rfl
        · refine kr_iload1 (d_X5_parsePiece_108 _) ?_
          refine kr_const (v := 8) (d_X5_parsePiece_109 _) ?_
          refine kr_icmp_ge (d_X5_parsePiece_111 _) ?_ ?_
          · refine kr_aload0 (d_X5_parsePiece_150 _) ?_
            refine kr_iv_u (As := []) (d_X5_parsePiece_151 _) cl_X5_47 (m_X5_fail h6) sh_41 (kv_dl (Nat.le_of_ble_eq_true rfl)) rfl (Nat.le_of_ble_eq_true rfl) (fun h9 => ?_)
            exact kr_return (d_X5_parsePiece_154 _) rfl
          · refine kr_aload0 (d_X5_parsePiece_114 _) ?_
            refine kr_iv_u (As := []) (d_X5_parsePiece_115 _) cl_X5_37 (m_X5_advance h6) sh_41 (kv_dl (Nat.le_of_ble_eq_true rfl)) rfl (Nat.le_of_ble_eq_true rfl) (fun h10 => ?_)
            refine kr_aload0 (d_X5_parsePiece_118 _) ?_
            refine kr_const (v := 0) (d_X5_parsePiece_119 _) ?_
            refine kr_iload1 (d_X5_parsePiece_120 _) ?_
            refine kr_const (v := 1) (d_X5_parsePiece_121 _) ?_
            refine kr_iadd (d_X5_parsePiece_122 _) ?_
            refine kr_iload2 (d_X5_parsePiece_123 _) ?_
            refine kr_iv_u (As := [.int 0, .int (x1 + 1), .int x2]) (d_X5_parsePiece_124 _) (cl_X5_50 _) (hr_X5_parseJoined 0 (x1 + 1) x2 h10) sh_41 kv_dr rfl (Nat.le_of_ble_eq_true rfl) (fun h11 => ?_)
            refine kr_aload0 (d_X5_parsePiece_127 _) ?_
            refine kr_const (v := 41) (d_X5_parsePiece_128 _) ?_
            refine kr_iv_i (As := [.int 41]) (d_X5_parsePiece_130 _) cl_X5_110 (m_X5_isSign 41 h11) sh_41 (kv_dl (Nat.le_of_ble_eq_true rfl)) rfl (Nat.le_of_ble_eq_true rfl) (fun r13 h12 => ?_)
            refine kr_if_eq (d_X5_parsePiece_133 _) ?_ ?_
            · refine kr_aload0 (d_X5_parsePiece_143 _) ?_
              refine kr_iv_u (As := []) (d_X5_parsePiece_144 _) cl_X5_47 (m_X5_fail h12) sh_41 (kv_dl (Nat.le_of_ble_eq_true rfl)) rfl (Nat.le_of_ble_eq_true rfl) (fun h14 => ?_)
              refine kr_goto (d_X5_parsePiece_147 _) ?_
              exact kr_return (d_X5_parsePiece_154 _) rfl
            · refine kr_aload0 (d_X5_parsePiece_136 _) ?_
              refine kr_iv_u (As := []) (d_X5_parsePiece_137 _) cl_X5_37 (m_X5_advance h12) sh_41 (kv_dl (Nat.le_of_ble_eq_true rfl)) rfl (Nat.le_of_ble_eq_true rfl) (fun h15 => ?_)
              refine kr_goto (d_X5_parsePiece_140 _) ?_
              exact kr_return (d_X5_parsePiece_154 _) rfl
      refine kr_if_eq (d_X5_parsePiece_68 _) ?_ ?_
      · exact hJ99 h3
      · refine kr_iload2 (d_X5_parsePiece_71 _) ?_
        refine kr_const (v := 8) (d_X5_parsePiece_72 _) ?_
        refine kr_icmp_ge (d_X5_parsePiece_74 _) ?_ ?_
        · exact hJ99 h3
        · refine kr_aload0 (d_X5_parsePiece_77 _) ?_
          refine kr_iv_u (As := []) (d_X5_parsePiece_78 _) cl_X5_37 (m_X5_advance h3) sh_41 (kv_dl (Nat.le_of_ble_eq_true rfl)) rfl (Nat.le_of_ble_eq_true rfl) (fun h16 => ?_)
          refine kr_aload0 (d_X5_parsePiece_81 _) ?_
          refine kr_iload1 (d_X5_parsePiece_82 _) ?_
          refine kr_iload2 (d_X5_parsePiece_83 _) ?_
          refine kr_const (v := 1) (d_X5_parsePiece_84 _) ?_
          refine kr_iadd (d_X5_parsePiece_85 _) ?_
          refine kr_iv_u (As := [.int x1, .int (x2 + 1)]) (d_X5_parsePiece_86 _) (cl_X5_90 _) (hr_X5_parsePiece x1 (x2 + 1) h16) sh_41 kv_dr rfl (Nat.le_of_ble_eq_true rfl) (fun h17 => ?_)
          refine kr_aload0 (d_X5_parsePiece_89 _) ?_
          refine kr_const (v := 9) (d_X5_parsePiece_90 _) ?_
          refine kr_const (v := 0) (d_X5_parsePiece_92 _) ?_
          refine kr_iv_u (As := [.int 9, .int 0]) (d_X5_parsePiece_93 _) cl_X5_98 (m_X5_addStep 9 0 h17) sh_41 (kv_dl (Nat.le_of_ble_eq_true rfl)) rfl (Nat.le_of_ble_eq_true rfl) (fun h18 => ?_)
          refine kr_goto (d_X5_parsePiece_96 _) ?_
          exact kr_return (d_X5_parsePiece_154 _) rfl
    refine kr_icmp_ne (d_X5_parsePiece_39 _) ?_ ?_
    · exact hJ62 h1
    · refine kr_aload0 (d_X5_parsePiece_42 _) ?_
      refine kr_iv_i (As := []) (d_X5_parsePiece_43 _) cl_X5_107 (m_X5_nameHere h1) sh_41 (kv_dl (Nat.le_of_ble_eq_true rfl)) rfl (Nat.le_of_ble_eq_true rfl) (fun r20 h19 => ?_)
      refine kr_if_lt (d_X5_parsePiece_46 _) ?_ ?_
      · exact hJ62 h19
      · refine kr_aload0 (d_X5_parsePiece_49 _) ?_
        refine kr_const (v := 11) (d_X5_parsePiece_50 _) ?_
        refine kr_aload0 (d_X5_parsePiece_52 _) ?_
        refine kr_iv_i (As := []) (d_X5_parsePiece_53 _) cl_X5_107 (m_X5_nameHere h19) sh_41 (kv_dl (Nat.le_of_ble_eq_true rfl)) rfl (Nat.le_of_ble_eq_true rfl) (fun r22 h21 => ?_)
        refine kr_iv_u (As := [.int 11, .int r22]) (d_X5_parsePiece_56 _) cl_X5_104 (m_X5_addGiver 11 r22 h21) sh_41 (kv_dl (Nat.le_of_ble_eq_true rfl)) rfl (Nat.le_of_ble_eq_true rfl) (fun h23 => ?_)
        refine kr_goto (d_X5_parsePiece_59 _) ?_
        exact kr_return (d_X5_parsePiece_154 _) rfl
  refine kr_icmp_ne (d_X5_parsePiece_5 _) ?_ ?_
  · exact hJ34 h
  · refine kr_aload0 (d_X5_parsePiece_8 _) ?_
    refine kr_getI (d_X5_parsePiece_9 _) fl_X5_34 sh_41 rfl ?_
    refine kr_aload0 (d_X5_parsePiece_12 _) ?_
    refine kr_getI (d_X5_parsePiece_13 _) fl_X5_54 sh_41 rfl ?_
    refine kr_isub (d_X5_parsePiece_16 _) ?_
    refine kr_const (v := 4) (d_X5_parsePiece_17 _) ?_
    refine kr_icmp_gt (d_X5_parsePiece_18 _) ?_ ?_
    · exact hJ34 h
    · refine kr_aload0 (d_X5_parsePiece_21 _) ?_
      refine kr_const (v := 10) (d_X5_parsePiece_22 _) ?_
      refine kr_aload0 (d_X5_parsePiece_24 _) ?_
      refine kr_iv_i (As := []) (d_X5_parsePiece_25 _) cl_X5_101 (m_X5_numberHere h) sh_41 (kv_dl (Nat.le_of_ble_eq_true rfl)) rfl (Nat.le_of_ble_eq_true rfl) (fun r25 h24 => ?_)
      refine kr_iv_u (As := [.int 10, .int r25]) (d_X5_parsePiece_28 _) cl_X5_104 (m_X5_addGiver 10 r25 h24) sh_41 (kv_dl (Nat.le_of_ble_eq_true rfl)) rfl (Nat.le_of_ble_eq_true rfl) (fun h26 => ?_)
      refine kr_goto (d_X5_parsePiece_31 _) ?_
      exact kr_return (d_X5_parsePiece_154 _) rfl

theorem m_pj : ∀ (d : Nat), (∀ (x1 x2 x3 : Int32) (h : kv_H), kv_M kv_u (kK_X5_parseJoined d) [.ref 41, .int x1, .int x2, .int x3] h (f_pj d 0 x1 x2 x3 h)) ∧ (∀ (x1 x2 : Int32) (h : kv_H), kv_M kv_u (kK_X5_parsePiece d) [.ref 41, .int x1, .int x2] h (f_pj d 1 x1 x2 0 h))
  | 0 => ⟨fun _ _ _ _ _ _ _ _ q => (by cases q), fun _ _ _ _ _ _ _ q => (by cases q)⟩
  | d + 1 => ⟨fun x1 x2 x3 h => m_X5_parseJoinedB d (f_pj d) (m_pj d).1 (m_pj d).2 x1 x2 x3 h, fun x1 x2 h => m_X5_parsePieceB d (f_pj d) (m_pj d).1 (m_pj d).2 x1 x2 h⟩
theorem m_X5_parseJoined (d : Nat) (x1 x2 x3 : Int32) (h : kv_H) : kv_M kv_u (kK_X5_parseJoined d) [.ref 41, .int x1, .int x2, .int x3] h (f_X5_parseJoined d x1 x2 x3 h) := (m_pj d).1 x1 x2 x3 h
theorem m_X5_parsePiece (d : Nat) (x1 x2 : Int32) (h : kv_H) : kv_M kv_u (kK_X5_parsePiece d) [.ref 41, .int x1, .int x2] h (f_X5_parsePiece d x1 x2 h) := (m_pj d).2 x1 x2 h
/-! X5_parse -/
def f_X5_parse (h : kv_H) : Option (Int32 × kv_H) :=
  kv_hl (kv_up h 41 3 0) (fun h1 =>
  kv_hl (kv_up h1 41 5 0) (fun h2 =>
  kv_hl (kv_up h2 41 9 (-1)) (fun h3 =>
  kv_hl (kv_up h3 41 6 3) (fun h4 =>
  kv_hl (kv_up h4 41 8 0) (fun h5 =>
  kv_b (f_X5_advance h5) (fun _ h6 =>
  kv_b (f_X5_keyHere h6) (fun r8 h7 =>
  kv_hl (kv_up h7 41 4 r8) (fun h9 =>
  if 0 ≤ (h9 41 4) then (kv_b (f_X5_advance h9) (fun _ h10 =>
    kv_b (f_X5_parseJoined 100 0 0 0 h10) (fun _ h11 =>
    if (h11 41 6) = 0 then (some ((h11 41 9), h11))
    else (kv_b (f_X5_fail h11) (fun _ h12 =>
      some ((h12 41 9), h12))))))
  else (kv_b (f_X5_fail h9) (fun _ h13 =>
    some ((h13 41 9), h13)))))))))))
set_option maxRecDepth 20000 in
theorem m_X5_parse (h : kv_H) : kv_M kv_i kK_X5_parse [.ref 41] h (f_X5_parse h) := by
  refine kv_met (ls := [some (.ref 41)]) (show plainName RX5 = true by decide +kernel) (fun _ => rfl) (fun _ => Nat.le_of_ble_eq_true rfl) ?_
  unfold f_X5_parse
  refine kr_aload0 d_X5_parse_0 ?_
  refine kr_const (v := 0) d_X5_parse_1 ?_
  refine kr_putI d_X5_parse_2 fp_X5_22 sh_41 rfl rfl rfl ?_
  refine kr_hl (fun h1 => ?_)
  refine kr_aload0 d_X5_parse_5 ?_
  refine kr_const (v := 0) d_X5_parse_6 ?_
  refine kr_putI d_X5_parse_7 fp_X5_25 sh_41 rfl rfl rfl ?_
  refine kr_hl (fun h2 => ?_)
  refine kr_aload0 d_X5_parse_10 ?_
  refine kr_const (v := (-1)) d_X5_parse_11 ?_
  refine kr_putI d_X5_parse_12 fp_X5_28 sh_41 rfl rfl rfl ?_
  refine kr_hl (fun h3 => ?_)
  refine kr_aload0 d_X5_parse_15 ?_
  refine kr_const (v := 3) d_X5_parse_16 ?_
  refine kr_putI d_X5_parse_17 fp_X5_31 sh_41 rfl rfl rfl ?_
  refine kr_hl (fun h4 => ?_)
  refine kr_aload0 d_X5_parse_20 ?_
  refine kr_const (v := 0) d_X5_parse_21 ?_
  refine kr_putI d_X5_parse_22 fp_X5_34 sh_41 rfl rfl rfl ?_
  refine kr_hl (fun h5 => ?_)
  refine kr_aload0 d_X5_parse_25 ?_
  refine kr_iv_u (As := []) d_X5_parse_26 cl_X5_37 (m_X5_advance h5) sh_41 (Nat.le_of_ble_eq_true rfl) rfl (Nat.le_of_ble_eq_true rfl) (fun h6 => ?_)
  refine kr_aload0 d_X5_parse_29 ?_
  refine kr_aload0 d_X5_parse_30 ?_
  refine kr_iv_i (As := []) d_X5_parse_31 cl_X5_40 (m_X5_keyHere h6) sh_41 (Nat.le_of_ble_eq_true rfl) rfl (Nat.le_of_ble_eq_true rfl) (fun r8 h7 => ?_)
  refine kr_putI d_X5_parse_34 fp_X5_44 sh_41 rfl rfl rfl ?_
  refine kr_hl (fun h9 => ?_)
  refine kr_aload0 d_X5_parse_37 ?_
  refine kr_getI d_X5_parse_38 fl_X5_44 sh_41 rfl ?_
  refine kr_if_ge d_X5_parse_41 ?_ ?_
  · refine kr_aload0 d_X5_parse_53 ?_
    refine kr_iv_u (As := []) d_X5_parse_54 cl_X5_37 (m_X5_advance h9) sh_41 (Nat.le_of_ble_eq_true rfl) rfl (Nat.le_of_ble_eq_true rfl) (fun h10 => ?_)
    refine kr_aload0 d_X5_parse_57 ?_
    refine kr_const (v := 0) d_X5_parse_58 ?_
    refine kr_const (v := 0) d_X5_parse_59 ?_
    refine kr_const (v := 0) d_X5_parse_60 ?_
    refine kr_iv_u (As := [.int 0, .int 0, .int 0]) d_X5_parse_61 (cl_X5_50 _) (m_X5_parseJoined 100 0 0 0 h10) sh_41 (Nat.le_of_ble_eq_true rfl) rfl (Nat.le_of_ble_eq_true rfl) (fun h11 => ?_)
    refine kr_aload0 d_X5_parse_64 ?_
    refine kr_getI d_X5_parse_65 fl_X5_31 sh_41 rfl ?_
    refine kr_if_eq d_X5_parse_68 ?_ ?_
    · refine kr_aload0 d_X5_parse_75 ?_
      refine kr_getI d_X5_parse_76 fl_X5_28 sh_41 rfl ?_
      exact kr_ireturn d_X5_parse_79 rfl
    · refine kr_aload0 d_X5_parse_71 ?_
      refine kr_iv_u (As := []) d_X5_parse_72 cl_X5_47 (m_X5_fail h11) sh_41 (Nat.le_of_ble_eq_true rfl) rfl (Nat.le_of_ble_eq_true rfl) (fun h12 => ?_)
      refine kr_aload0 d_X5_parse_75 ?_
      refine kr_getI d_X5_parse_76 fl_X5_28 sh_41 rfl ?_
      exact kr_ireturn d_X5_parse_79 rfl
  · refine kr_aload0 d_X5_parse_44 ?_
    refine kr_iv_u (As := []) d_X5_parse_45 cl_X5_47 (m_X5_fail h9) sh_41 (Nat.le_of_ble_eq_true rfl) rfl (Nat.le_of_ble_eq_true rfl) (fun h13 => ?_)
    refine kr_aload0 d_X5_parse_48 ?_
    refine kr_getI d_X5_parse_49 fl_X5_28 sh_41 rfl ?_
    exact kr_ireturn d_X5_parse_52 rfl

/-! X6_becomes -/
def f_X6_becomes (k0 : Nat) (h : kv_H) : Option (Unit × kv_H) :=
  kv_b (f_X9_copyRow 43 96 (k0 + 1) 96 h) (fun _ h1 =>
  kv_hl (kv_up h1 k0 1 (h1 41 3)) (fun h2 =>
  kv_hl (kv_up h2 k0 2 (h2 41 4)) (fun h3 =>
  kv_hl (kv_up h3 k0 3 (h3 41 5)) (fun h4 =>
  some ((), h4)))))
set_option maxRecDepth 20000 in
theorem m_X6_becomes (k0 : Nat) (hk0 : kv_Te k0) (h : kv_H) : kv_M kv_u kK_X6_becomes [.ref k0, .ref 41] h (f_X6_becomes k0 h) := by
  refine kv_met (ls := [some (.ref k0), some (.ref 41)]) (show plainName RX6 = true by decide +kernel) (fun _ => rfl) (fun _ => Nat.le_of_ble_eq_true rfl) ?_
  unfold f_X6_becomes
  refine kr_aload1 d_X6_becomes_0 ?_
  refine kr_getR (q := 43) d_X6_becomes_1 fl_X6_15 sh_41 rfl ?_
  refine kr_aload0 d_X6_becomes_4 ?_
  refine kr_getR (q := (k0 + 1)) d_X6_becomes_5 fl_X6_9 hk0.1 rfl ?_
  refine kr_isn_u (As := [.ref 43, .ref (k0 + 1)]) d_X6_becomes_8 cl_X6_18 (m_X9_copyRow 43 96 sh_43 (k0 + 1) 96 hk0.2 h) (Nat.le_of_ble_eq_true rfl) rfl (Nat.le_of_ble_eq_true rfl) (fun h1 => ?_)
  refine kr_aload0 d_X6_becomes_11 ?_
  refine kr_aload1 d_X6_becomes_12 ?_
  refine kr_getI d_X6_becomes_13 fl_X6_22 sh_41 rfl ?_
  refine kr_putI d_X6_becomes_16 fp_X6_26 hk0.1 rfl rfl rfl ?_
  refine kr_hl (fun h2 => ?_)
  refine kr_aload0 d_X6_becomes_19 ?_
  refine kr_aload1 d_X6_becomes_20 ?_
  refine kr_getI d_X6_becomes_21 fl_X6_27 sh_41 rfl ?_
  refine kr_putI d_X6_becomes_24 fp_X6_30 hk0.1 rfl rfl rfl ?_
  refine kr_hl (fun h3 => ?_)
  refine kr_aload0 d_X6_becomes_27 ?_
  refine kr_aload1 d_X6_becomes_28 ?_
  refine kr_getI d_X6_becomes_29 fl_X6_31 sh_41 rfl ?_
  refine kr_putI d_X6_becomes_32 fp_X6_34 hk0.1 rfl rfl rfl ?_
  refine kr_hl (fun h4 => ?_)
  exact kr_return d_X6_becomes_35 rfl

/-! X7_join -/
def f_X7_join (x1 : Int32) (x2 : Int32) (x3 : Int32) (h : kv_H) : Option (Int32 × kv_H) :=
  kv_sw x1 [0, 1, 2, 3, 4, 5, 6, 7] [(if x2 = 0 then (if x3 = 0 then (some (0, h))
      else (some (1, h)))
    else (some (1, h))),
  (if x2 = 0 then (some (0, h))
    else (if x3 = 0 then (some (0, h))
      else (some (1, h)))),
  (if x3 ≤ x2 then (some (0, h))
    else (some (1, h))),
  (if x2 = x3 then (some (1, h))
    else (some (0, h))),
  (if x2 ≤ x3 then (some (0, h))
    else (some (1, h))),
  (some ((x2 + x3), h)),
  (some ((x2 - x3), h)),
  (some ((x2 * x3), h))] (if x3 = 0 then (some (0, h))
    else (kv_z x3 (some ((x2 / x3), h))))
set_option maxRecDepth 20000 in
theorem m_X7_join (x1 : Int32) (x2 : Int32) (x3 : Int32) (h : kv_H) : kv_M kv_i kK_X7_join [.int x1, .int x2, .int x3] h (f_X7_join x1 x2 x3 h) := by
  refine kv_met (ls := [some (.int x1), some (.int x2), some (.int x3)]) (show plainName RX7 = true by decide +kernel) (fun _ => rfl) (fun _ => Nat.le_of_ble_eq_true rfl) ?_
  unfold f_X7_join
  refine kr_iload0 d_X7_join_0 ?_
  refine kr_sw d_X7_join_1 ?_ ⟨?_, ?_, ?_, ?_, ?_, ?_, ?_, ?_, trivial⟩
  · refine kr_iload2 d_X7_join_121 ?_
    refine kr_if_ne d_X7_join_122 ?_ ?_
    · refine kr_iload1 d_X7_join_129 ?_
      refine kr_iload2 d_X7_join_130 ?_
      refine kr_idiv d_X7_join_131 ?_
      exact kr_ireturn d_X7_join_132 rfl
    · refine kr_const (v := 0) d_X7_join_125 ?_
      refine kr_goto d_X7_join_126 ?_
      exact kr_ireturn d_X7_join_132 rfl
  · refine kr_iload1 d_X7_join_48 ?_
    refine kr_if_ne d_X7_join_49 ?_ ?_
    · refine kr_const (v := 1) d_X7_join_56 ?_
      refine kr_goto d_X7_join_57 ?_
      exact kr_ireturn d_X7_join_61 rfl
    · refine kr_iload2 d_X7_join_52 ?_
      refine kr_if_eq d_X7_join_53 ?_ ?_
      · refine kr_const (v := 0) d_X7_join_60 ?_
        exact kr_ireturn d_X7_join_61 rfl
      · refine kr_const (v := 1) d_X7_join_56 ?_
        refine kr_goto d_X7_join_57 ?_
        exact kr_ireturn d_X7_join_61 rfl
  · refine kr_iload1 d_X7_join_62 ?_
    refine kr_if_eq d_X7_join_63 ?_ ?_
    · refine kr_const (v := 0) d_X7_join_74 ?_
      exact kr_ireturn d_X7_join_75 rfl
    · refine kr_iload2 d_X7_join_66 ?_
      refine kr_if_eq d_X7_join_67 ?_ ?_
      · refine kr_const (v := 0) d_X7_join_74 ?_
        exact kr_ireturn d_X7_join_75 rfl
      · refine kr_const (v := 1) d_X7_join_70 ?_
        refine kr_goto d_X7_join_71 ?_
        exact kr_ireturn d_X7_join_75 rfl
  · refine kr_iload1 d_X7_join_76 ?_
    refine kr_iload2 d_X7_join_77 ?_
    refine kr_icmp_ge d_X7_join_78 ?_ ?_
    · refine kr_const (v := 0) d_X7_join_85 ?_
      exact kr_ireturn d_X7_join_86 rfl
    · refine kr_const (v := 1) d_X7_join_81 ?_
      refine kr_goto d_X7_join_82 ?_
      exact kr_ireturn d_X7_join_86 rfl
  · refine kr_iload1 d_X7_join_87 ?_
    refine kr_iload2 d_X7_join_88 ?_
    refine kr_icmp_ne d_X7_join_89 ?_ ?_
    · refine kr_const (v := 0) d_X7_join_96 ?_
      exact kr_ireturn d_X7_join_97 rfl
    · refine kr_const (v := 1) d_X7_join_92 ?_
      refine kr_goto d_X7_join_93 ?_
      exact kr_ireturn d_X7_join_97 rfl
  · refine kr_iload1 d_X7_join_98 ?_
    refine kr_iload2 d_X7_join_99 ?_
    refine kr_icmp_le d_X7_join_100 ?_ ?_
    · refine kr_const (v := 0) d_X7_join_107 ?_
      exact kr_ireturn d_X7_join_108 rfl
    · refine kr_const (v := 1) d_X7_join_103 ?_
      refine kr_goto d_X7_join_104 ?_
      exact kr_ireturn d_X7_join_108 rfl
  · refine kr_iload1 d_X7_join_109 ?_
    refine kr_iload2 d_X7_join_110 ?_
    refine kr_iadd d_X7_join_111 ?_
    exact kr_ireturn d_X7_join_112 rfl
  · refine kr_iload1 d_X7_join_113 ?_
    refine kr_iload2 d_X7_join_114 ?_
    refine kr_isub d_X7_join_115 ?_
    exact kr_ireturn d_X7_join_116 rfl
  · refine kr_iload1 d_X7_join_117 ?_
    refine kr_iload2 d_X7_join_118 ?_
    refine kr_imul d_X7_join_119 ?_
    exact kr_ireturn d_X7_join_120 rfl


/-! X10_copy -/
def f_X10_copy_L113 (c1 : Int32) (c2 : Int32) (c3 : Int32) (c4 : Int32) (c5 : Int32) : Nat → Int32 → kv_H → (kv_H → Option (Int32 × kv_H)) → Option (Int32 × kv_H)
  | 0, _, _, _ => none
  | n + 1, v6, h, C => if c5 ≤ v6 then (C h)
    else (kv_k (((24 * c1) + c2) + v6) 96 (kv_k v6 24 (kv_hl (kv_up h 133 v6.toNatClampNeg (h 117 (((24 * c1) + c2) + v6).toNatClampNeg)) (fun h5 =>
      f_X10_copy_L113 c1 c2 c3 c4 c5 n (v6 + 1) h5 C))))
def f_X10_copy_L150 (c3 : Int32) (c4 : Int32) (c5 : Int32) : Nat → Int32 → kv_H → (kv_H → Option (Int32 × kv_H)) → Option (Int32 × kv_H)
  | 0, _, _, _ => none
  | n + 1, v6, h, C => if c5 ≤ v6 then (C h)
    else (kv_k v6 24 (kv_k (((24 * c3) + c4) + v6) 96 (kv_hl (kv_up h 117 (((24 * c3) + c4) + v6).toNatClampNeg (h 133 v6.toNatClampNeg)) (fun h7 =>
      f_X10_copy_L150 c3 c4 c5 n (v6 + 1) h7 C))))
def f_X10_copy (x1 : Int32) (x2 : Int32) (x3 : Int32) (x4 : Int32) (x5 : Int32) (h : kv_H) : Option (Int32 × kv_H) :=
  kv_b (f_X10_isSheet x1 h) (fun r2 h1 =>
  if r2 = 0 then (some ((-1000000001), h1))
  else (kv_b (f_X10_isSheet x3 h1) (fun r4 h3 =>
    if r4 = 0 then (some ((-1000000001), h3))
    else (kv_k x1 4 (if (h3 115 x1.toNatClampNeg) < 0 then (some ((-1000000011), h3))
      else (kv_k x3 4 (if 0 ≤ (h3 115 x3.toNatClampNeg) then (kv_k x1 4 (kv_k x3 4 (if (h3 115 x1.toNatClampNeg) = (h3 115 x3.toNatClampNeg) then (if x2 < 0 then (some ((-1000000013), h3))
            else (if x4 < 0 then (some ((-1000000013), h3))
              else (if x5 < 0 then (some ((-1000000013), h3))
                else (kv_k x1 4 (if 0 < (lg_cmp ((x2.toInt64) + (x5.toInt64)) ((h3 116 x1.toNatClampNeg).toInt64)) then (some ((-1000000013), h3))
                  else (kv_k x3 4 (if (lg_cmp ((x4.toInt64) + (x5.toInt64)) ((h3 116 x3.toNatClampNeg).toInt64)) ≤ 0 then (f_X10_copy_L113 x1 x2 x3 x4 x5 kv_fu 0 h3 (fun  h6 =>
                      f_X10_copy_L150 x3 x4 x5 kv_fu 0 h6 (fun  h8 =>
                        some (x5, h8))))
                    else (some ((-1000000013), h3)))))))))
          else (some ((-1000000012), h3)))))
        else (some ((-1000000011), h3)))))))))
set_option maxRecDepth 20000 in
theorem s_f_X10_copy_L113 (c1 : Int32) (c2 : Int32) (c3 : Int32) (c4 : Int32) (c5 : Int32) : ∀ (n : Nat) (v6 : Int32) (h : kv_H) (C : kv_H → Option (Int32 × kv_H)), (∀  (h : kv_H), kv_S kv_i kK_X10_copy 147 [some (.ref 111), none, none, some (.int c3), some (.int c4), some (.int c5), none] [] h (C h)) → kv_S kv_i kK_X10_copy 113 [some (.ref 111), some (.int c1), some (.int c2), some (.int c3), some (.int c4), some (.int c5), some (.int v6)] [] h (f_X10_copy_L113 c1 c2 c3 c4 c5 n v6 h C) := by
  intro n
  induction n with
  | zero => intros; exact kv_none
  | succ n ih =>
    intro v6 h C hC
    unfold f_X10_copy_L113
    refine kr_iload6 d_X10_copy_113 ?_
    refine kr_iload5 d_X10_copy_115 ?_
    refine kr_icmp_ge d_X10_copy_117 ?_ ?_
    · refine kr_kill1 ?_
      refine kr_kill2 ?_
      refine kr_kill6 ?_
      exact hC h
    · refine kr_aload0 d_X10_copy_120 ?_
      refine kr_getR (q := 133) d_X10_copy_121 fl_X10_73 sh_111 rfl ?_
      refine kr_iload6 d_X10_copy_124 ?_
      refine kr_aload0 d_X10_copy_126 ?_
      refine kr_getR (q := 117) d_X10_copy_127 fl_X10_25 sh_111 rfl ?_
      refine kr_const (v := 24) d_X10_copy_130 ?_
      refine kr_iload1 d_X10_copy_132 ?_
      refine kr_imul d_X10_copy_133 ?_
      refine kr_iload2 d_X10_copy_134 ?_
      refine kr_iadd d_X10_copy_135 ?_
      refine kr_iload6 d_X10_copy_136 ?_
      refine kr_iadd d_X10_copy_138 ?_
      refine kr_iaload d_X10_copy_139 sh_117 ?_
      refine kr_iastore d_X10_copy_140 sh_133 ?_
      refine kr_hl (fun h5 => ?_)
      refine kr_iinc6 d_X10_copy_141 (Nat.le_of_ble_eq_true rfl) kv_c1i ?_
      refine kr_goto d_X10_copy_144 ?_
      exact ih (v6 + 1) h5 C hC

set_option maxRecDepth 20000 in
theorem s_f_X10_copy_L150 (c3 : Int32) (c4 : Int32) (c5 : Int32) : ∀ (n : Nat) (v6 : Int32) (h : kv_H) (C : kv_H → Option (Int32 × kv_H)), (∀  (h : kv_H), kv_S kv_i kK_X10_copy 185 [none, none, none, none, none, some (.int c5), none] [] h (C h)) → kv_S kv_i kK_X10_copy 150 [some (.ref 111), none, none, some (.int c3), some (.int c4), some (.int c5), some (.int v6)] [] h (f_X10_copy_L150 c3 c4 c5 n v6 h C) := by
  intro n
  induction n with
  | zero => intros; exact kv_none
  | succ n ih =>
    intro v6 h C hC
    unfold f_X10_copy_L150
    refine kr_iload6 d_X10_copy_150 ?_
    refine kr_iload5 d_X10_copy_152 ?_
    refine kr_icmp_ge d_X10_copy_154 ?_ ?_
    · refine kr_kill0 ?_
      refine kr_kill3 ?_
      refine kr_kill4 ?_
      refine kr_kill6 ?_
      exact hC h
    · refine kr_aload0 d_X10_copy_157 ?_
      refine kr_getR (q := 117) d_X10_copy_158 fl_X10_25 sh_111 rfl ?_
      refine kr_const (v := 24) d_X10_copy_161 ?_
      refine kr_iload3 d_X10_copy_163 ?_
      refine kr_imul d_X10_copy_164 ?_
      refine kr_iload4 d_X10_copy_165 ?_
      refine kr_iadd d_X10_copy_167 ?_
      refine kr_iload6 d_X10_copy_168 ?_
      refine kr_iadd d_X10_copy_170 ?_
      refine kr_aload0 d_X10_copy_171 ?_
      refine kr_getR (q := 133) d_X10_copy_172 fl_X10_73 sh_111 rfl ?_
      refine kr_iload6 d_X10_copy_175 ?_
      refine kr_iaload d_X10_copy_177 sh_133 ?_
      refine kr_iastore d_X10_copy_178 sh_117 ?_
      refine kr_hl (fun h7 => ?_)
      refine kr_iinc6 d_X10_copy_179 (Nat.le_of_ble_eq_true rfl) kv_c1i ?_
      refine kr_goto d_X10_copy_182 ?_
      exact ih (v6 + 1) h7 C hC

set_option maxRecDepth 20000 in
theorem m_X10_copy (x1 : Int32) (x2 : Int32) (x3 : Int32) (x4 : Int32) (x5 : Int32) (h : kv_H) : kv_M kv_i kK_X10_copy [.ref 111, .int x1, .int x2, .int x3, .int x4, .int x5] h (f_X10_copy x1 x2 x3 x4 x5 h) := by
  refine kv_met (ls := [some (.ref 111), some (.int x1), some (.int x2), some (.int x3), some (.int x4), some (.int x5), none]) (show plainName RX10 = true by decide +kernel) (fun _ => rfl) (fun _ => Nat.le_of_ble_eq_true rfl) ?_
  unfold f_X10_copy
  refine kr_iload1 d_X10_copy_0 ?_
  refine kr_is_i (As := [.int x1]) d_X10_copy_1 cl_X10_336 (m_X10_isSheet x1 h) (Nat.le_of_ble_eq_true rfl) rfl (Nat.le_of_ble_eq_true rfl) (fun r2 h1 => ?_)
  refine kr_if_eq d_X10_copy_4 ?_ ?_
  · refine kr_const (v := (-1000000001)) d_X10_copy_14 ?_
    exact kr_ireturn d_X10_copy_16 rfl
  · refine kr_iload3 d_X10_copy_7 ?_
    refine kr_is_i (As := [.int x3]) d_X10_copy_8 cl_X10_336 (m_X10_isSheet x3 h1) (Nat.le_of_ble_eq_true rfl) rfl (Nat.le_of_ble_eq_true rfl) (fun r4 h3 => ?_)
    refine kr_if_ne d_X10_copy_11 ?_ ?_
    · refine kr_aload0 d_X10_copy_17 ?_
      refine kr_getR (q := 115) d_X10_copy_18 fl_X10_19 sh_111 rfl ?_
      refine kr_iload1 d_X10_copy_21 ?_
      refine kr_iaload d_X10_copy_22 sh_115 ?_
      refine kr_if_lt d_X10_copy_23 ?_ ?_
      · refine kr_const (v := (-1000000011)) d_X10_copy_35 ?_
        exact kr_ireturn d_X10_copy_38 rfl
      · refine kr_aload0 d_X10_copy_26 ?_
        refine kr_getR (q := 115) d_X10_copy_27 fl_X10_19 sh_111 rfl ?_
        refine kr_iload3 d_X10_copy_30 ?_
        refine kr_iaload d_X10_copy_31 sh_115 ?_
        refine kr_if_ge d_X10_copy_32 ?_ ?_
        · refine kr_aload0 d_X10_copy_39 ?_
          refine kr_getR (q := 115) d_X10_copy_40 fl_X10_19 sh_111 rfl ?_
          refine kr_iload1 d_X10_copy_43 ?_
          refine kr_iaload d_X10_copy_44 sh_115 ?_
          refine kr_aload0 d_X10_copy_45 ?_
          refine kr_getR (q := 115) d_X10_copy_46 fl_X10_19 sh_111 rfl ?_
          refine kr_iload3 d_X10_copy_49 ?_
          refine kr_iaload d_X10_copy_50 sh_115 ?_
          refine kr_icmp_eq d_X10_copy_51 ?_ ?_
          · refine kr_iload2 d_X10_copy_57 ?_
            refine kr_if_lt d_X10_copy_58 ?_ ?_
            · refine kr_const (v := (-1000000013)) d_X10_copy_106 ?_
              exact kr_ireturn d_X10_copy_109 rfl
            · refine kr_iload4 d_X10_copy_61 ?_
              refine kr_if_lt d_X10_copy_63 ?_ ?_
              · refine kr_const (v := (-1000000013)) d_X10_copy_106 ?_
                exact kr_ireturn d_X10_copy_109 rfl
              · refine kr_iload5 d_X10_copy_66 ?_
                refine kr_if_lt d_X10_copy_68 ?_ ?_
                · refine kr_const (v := (-1000000013)) d_X10_copy_106 ?_
                  exact kr_ireturn d_X10_copy_109 rfl
                · refine kr_iload2 d_X10_copy_71 ?_
                  refine kr_i2l d_X10_copy_72 ?_
                  refine kr_iload5 d_X10_copy_73 ?_
                  refine kr_i2l d_X10_copy_75 ?_
                  refine kr_ladd d_X10_copy_76 ?_
                  refine kr_aload0 d_X10_copy_77 ?_
                  refine kr_getR (q := 116) d_X10_copy_78 fl_X10_22 sh_111 rfl ?_
                  refine kr_iload1 d_X10_copy_81 ?_
                  refine kr_iaload d_X10_copy_82 sh_116 ?_
                  refine kr_i2l d_X10_copy_83 ?_
                  refine kr_lcmp d_X10_copy_84 ?_
                  refine kr_if_gt d_X10_copy_85 ?_ ?_
                  · refine kr_const (v := (-1000000013)) d_X10_copy_106 ?_
                    exact kr_ireturn d_X10_copy_109 rfl
                  · refine kr_iload4 d_X10_copy_88 ?_
                    refine kr_i2l d_X10_copy_90 ?_
                    refine kr_iload5 d_X10_copy_91 ?_
                    refine kr_i2l d_X10_copy_93 ?_
                    refine kr_ladd d_X10_copy_94 ?_
                    refine kr_aload0 d_X10_copy_95 ?_
                    refine kr_getR (q := 116) d_X10_copy_96 fl_X10_22 sh_111 rfl ?_
                    refine kr_iload3 d_X10_copy_99 ?_
                    refine kr_iaload d_X10_copy_100 sh_116 ?_
                    refine kr_i2l d_X10_copy_101 ?_
                    refine kr_lcmp d_X10_copy_102 ?_
                    refine kr_if_le d_X10_copy_103 ?_ ?_
                    · refine kr_const (v := 0) d_X10_copy_110 ?_
                      refine kr_istore6 d_X10_copy_111 (Nat.le_of_ble_eq_true rfl) kv_c1i ?_
                      refine s_f_X10_copy_L113 x1 x2 x3 x4 x5 kv_fu 0 h3 _ (fun  h6 => ?_)
                      refine kr_const (v := 0) d_X10_copy_147 ?_
                      refine kr_istore6 d_X10_copy_148 (Nat.le_of_ble_eq_true rfl) kv_c1i ?_
                      refine s_f_X10_copy_L150 x3 x4 x5 kv_fu 0 h6 _ (fun  h8 => ?_)
                      refine kr_iload5 d_X10_copy_185 ?_
                      exact kr_ireturn d_X10_copy_187 rfl
                    · refine kr_const (v := (-1000000013)) d_X10_copy_106 ?_
                      exact kr_ireturn d_X10_copy_109 rfl
          · refine kr_const (v := (-1000000012)) d_X10_copy_54 ?_
            exact kr_ireturn d_X10_copy_56 rfl
        · refine kr_const (v := (-1000000011)) d_X10_copy_35 ?_
          exact kr_ireturn d_X10_copy_38 rfl
    · refine kr_const (v := (-1000000001)) d_X10_copy_14 ?_
      exact kr_ireturn d_X10_copy_16 rfl

/-! X10_isSlot -/
def f_X10_isSlot (x1 : Int32) (h : kv_H) : Option (Int32 × kv_H) :=
  kv_b (f_X10_isIn (x1.toInt64) 0 4 h) (fun r2 h1 =>
  kv_t .boolean r2 (some (r2, h1)))
set_option maxRecDepth 20000 in
theorem m_X10_isSlot (x1 : Int32) (h : kv_H) : kv_M kv_i kK_X10_isSlot [.int x1] h (f_X10_isSlot x1 h) := by
  refine kv_met (ls := [some (.int x1)]) (show plainName RX10 = true by decide +kernel) (fun _ => rfl) (fun _ => Nat.le_of_ble_eq_true rfl) ?_
  unfold f_X10_isSlot
  refine kr_iload0 d_X10_isSlot_0 ?_
  refine kr_i2l d_X10_isSlot_1 ?_
  refine kr_constL (v := 0) d_X10_isSlot_2 ?_
  refine kr_constL (v := 4) d_X10_isSlot_3 ?_
  refine kr_is_i (As := [.long (x1.toInt64), .long 0, .long 4]) d_X10_isSlot_6 cl_X10_83 (m_X10_isIn (x1.toInt64) 0 4 h) (Nat.le_of_ble_eq_true rfl) rfl (Nat.le_of_ble_eq_true rfl) (fun r2 h1 => ?_)
  exact kr_zreturn d_X10_isSlot_9 rfl

/-! X10_lay -/
def f_X10_lay_L154 (c1 : Int32) (c3 : Int32) (c5 : Int32) : Nat → Int32 → kv_H → (kv_H → Option (Int32 × kv_H)) → Option (Int32 × kv_H)
  | 0, _, _, _ => none
  | n + 1, v6, h, C => if (24 : Int32) ≤ v6 then (C h)
    else (kv_k ((24 * c3) + v6) 96 (kv_k ((24 * c1) + v6) 120 (kv_hl (kv_up h 122 ((24 * c1) + v6).toNatClampNeg (h 117 ((24 * c3) + v6).toNatClampNeg)) (fun h15 =>
      f_X10_lay_L154 c1 c3 c5 n (v6 + 1) h15 C))))
def f_X10_lay (x1 : Int32) (x2 : Int32) (x3 : Int32) (h : kv_H) : Option (Int32 × kv_H) :=
  kv_jn (fun (y1 : Int32) (h2 : kv_H) =>
  kv_b (f_X10_isSlot x1 h2) (fun r4 h3 =>
    if r4 = 0 then (some ((-1000000001), h3))
    else (if y1 = 0 then (some ((-1000000001), h3))
      else (kv_jn (fun  (h5 : kv_H) =>
        kv_k x1 5 (kv_vl (h5 118 x1.toNatClampNeg) (fun e6 =>
          kv_k x1 5 (kv_hl (kv_up h5 118 x1.toNatClampNeg x2) (fun h7 =>
          kv_jn (fun (y8 : Int32) (h9 : kv_H) =>
          kv_k x1 5 (kv_hl (kv_up h9 119 x1.toNatClampNeg y8) (fun h10 =>
            kv_jn (fun (y11 : Int32) (h12 : kv_H) =>
            kv_k x1 5 (kv_hl (kv_up h12 120 x1.toNatClampNeg y11) (fun h13 =>
              if x2 = (2 : Int32) then (kv_k x3 4 (kv_k x1 5 (kv_hl (kv_up h13 121 x1.toNatClampNeg (h13 116 x3.toNatClampNeg)) (fun h14 =>
                f_X10_lay_L154 x1 x3 e6 kv_fu 0 h14 (fun  h16 =>
                some (e6, h16))))))
              else (some (e6, h13))))) (fun (J133 : Int32 → kv_H → Option (Int32 × kv_H)) =>
            if x2 = (1 : Int32) then (kv_b (f_X10_worth x3 h10) (fun r18 h17 =>
              J133 r18 h17))
            else (J133 0 h10))))) (fun (J113 : Int32 → kv_H → Option (Int32 × kv_H)) =>
          if x2 = (1 : Int32) then (kv_b (f_X10_leafAt x3 h7) (fun r20 h19 =>
            kv_k r20 3098 (J113 (h19 112 r20.toNatClampNeg) h19)))
          else (J113 x3 h7))))))) (fun (J74 : kv_H → Option (Int32 × kv_H)) =>
        if x2 = (2 : Int32) then (kv_k x3 4 (if 0 ≤ (h3 115 x3.toNatClampNeg) then (J74 h3)
          else (some ((-1000000011), h3))))
        else (J74 h3)))))) (fun (J39 : Int32 → kv_H → Option (Int32 × kv_H)) =>
  kv_jn (fun  (h21 : kv_H) =>
  J39 1 h21) (fun (J34 : kv_H → Option (Int32 × kv_H)) =>
  if x2 = 0 then (J34 h)
  else (if x2 = (3 : Int32) then (J34 h)
    else (kv_jn (fun  (h22 : kv_H) =>
      if x2 = (2 : Int32) then (kv_b (f_X10_isSheet x3 h22) (fun r24 h23 =>
          if r24 = 0 then (J39 0 h23)
          else (J34 h23)))
        else (J39 0 h22)) (fun (J22 : kv_H → Option (Int32 × kv_H)) =>
      if x2 = (1 : Int32) then (kv_b (f_X10_isLeaf x3 h) (fun r26 h25 =>
        if r26 = 0 then (J22 h25)
        else (J34 h25)))
      else (J22 h))))))
set_option maxRecDepth 20000 in
theorem s_f_X10_lay_L154 (c1 : Int32) (c3 : Int32) (c5 : Int32) : ∀ (n : Nat) (v6 : Int32) (h : kv_H) (C : kv_H → Option (Int32 × kv_H)), (∀  (h : kv_H), kv_S kv_i kK_X10_lay 191 [none, none, none, none, none, some (.int c5), none] [] h (C h)) → kv_S kv_i kK_X10_lay 154 [some (.ref 111), some (.int c1), none, some (.int c3), none, some (.int c5), some (.int v6)] [] h (f_X10_lay_L154 c1 c3 c5 n v6 h C) := by
  intro n
  induction n with
  | zero => intros; exact kv_none
  | succ n ih =>
    intro v6 h C hC
    unfold f_X10_lay_L154
    refine kr_iload6 d_X10_lay_154 ?_
    refine kr_const (v := 24) d_X10_lay_156 ?_
    refine kr_icmp_ge d_X10_lay_158 ?_ ?_
    · refine kr_kill0 ?_
      refine kr_kill1 ?_
      refine kr_kill3 ?_
      refine kr_kill6 ?_
      exact hC h
    · refine kr_aload0 d_X10_lay_161 ?_
      refine kr_getR (q := 122) d_X10_lay_162 fl_X10_40 sh_111 rfl ?_
      refine kr_const (v := 24) d_X10_lay_165 ?_
      refine kr_iload1 d_X10_lay_167 ?_
      refine kr_imul d_X10_lay_168 ?_
      refine kr_iload6 d_X10_lay_169 ?_
      refine kr_iadd d_X10_lay_171 ?_
      refine kr_aload0 d_X10_lay_172 ?_
      refine kr_getR (q := 117) d_X10_lay_173 fl_X10_25 sh_111 rfl ?_
      refine kr_const (v := 24) d_X10_lay_176 ?_
      refine kr_iload3 d_X10_lay_178 ?_
      refine kr_imul d_X10_lay_179 ?_
      refine kr_iload6 d_X10_lay_180 ?_
      refine kr_iadd d_X10_lay_182 ?_
      refine kr_iaload d_X10_lay_183 sh_117 ?_
      refine kr_iastore d_X10_lay_184 sh_122 ?_
      refine kr_hl (fun h15 => ?_)
      refine kr_iinc6 d_X10_lay_185 (Nat.le_of_ble_eq_true rfl) kv_c1i ?_
      refine kr_goto d_X10_lay_188 ?_
      exact ih (v6 + 1) h15 C hC

set_option maxRecDepth 20000 in
theorem m_X10_lay (x1 : Int32) (x2 : Int32) (x3 : Int32) (h : kv_H) : kv_M kv_i kK_X10_lay [.ref 111, .int x1, .int x2, .int x3] h (f_X10_lay x1 x2 x3 h) := by
  refine kv_met (ls := [some (.ref 111), some (.int x1), some (.int x2), some (.int x3), none, none, none]) (show plainName RX10 = true by decide +kernel) (fun _ => rfl) (fun _ => Nat.le_of_ble_eq_true rfl) ?_
  unfold f_X10_lay
  refine kr_iload2 d_X10_lay_0 ?_
  refine kr_jn (P := fun J39 => ∀ (y1 : Int32), ∀ (h2 : kv_H), kv_S kv_i kK_X10_lay 39 [some (.ref 111), some (.int x1), some (.int x2), some (.int x3), none, none, none] [.int y1] h2 (J39 y1 h2)) (fun y1 h2 => ?_) (fun J39 hJ39 => ?_)
  · refine kr_istore4 d_X10_lay_39 (Nat.le_of_ble_eq_true rfl) kv_c1i ?_
    refine kr_iload1 d_X10_lay_41 ?_
    refine kr_is_i (As := [.int x1]) d_X10_lay_42 cl_X10_348 (m_X10_isSlot x1 h2) (Nat.le_of_ble_eq_true rfl) rfl (Nat.le_of_ble_eq_true rfl) (fun r4 h3 => ?_)
    refine kr_if_eq d_X10_lay_45 ?_ ?_
    · refine kr_const (v := (-1000000001)) d_X10_lay_53 ?_
      exact kr_ireturn d_X10_lay_55 rfl
    · refine kr_iload4 d_X10_lay_48 ?_
      refine kr_if_ne d_X10_lay_50 ?_ ?_
      · refine kr_iload2 d_X10_lay_56 ?_
        refine kr_const (v := 2) d_X10_lay_57 ?_
        refine kr_jn (P := fun J74 =>  ∀ (h5 : kv_H), kv_S kv_i kK_X10_lay 74 [some (.ref 111), some (.int x1), some (.int x2), some (.int x3), none, none, none] [] h5 (J74  h5)) (fun  h5 => ?_) (fun J74 hJ74 => ?_)
        · refine kr_aload0 d_X10_lay_74 ?_
          refine kr_getR (q := 118) d_X10_lay_75 fl_X10_28 sh_111 rfl ?_
          refine kr_iload1 d_X10_lay_78 ?_
          refine kr_iaload d_X10_lay_79 sh_118 ?_
          refine kr_vl (fun e6 => ?_)
          refine kr_istore5 d_X10_lay_80 (Nat.le_of_ble_eq_true rfl) kv_c1n ?_
          refine kr_aload0 d_X10_lay_82 ?_
          refine kr_getR (q := 118) d_X10_lay_83 fl_X10_28 sh_111 rfl ?_
          refine kr_iload1 d_X10_lay_86 ?_
          refine kr_iload2 d_X10_lay_87 ?_
          refine kr_iastore d_X10_lay_88 sh_118 ?_
          refine kr_hl (fun h7 => ?_)
          refine kr_aload0 d_X10_lay_89 ?_
          refine kr_getR (q := 119) d_X10_lay_90 fl_X10_31 sh_111 rfl ?_
          refine kr_iload1 d_X10_lay_93 ?_
          refine kr_iload2 d_X10_lay_94 ?_
          refine kr_const (v := 1) d_X10_lay_95 ?_
          refine kr_jn (P := fun J113 => ∀ (y8 : Int32), ∀ (h9 : kv_H), kv_S kv_i kK_X10_lay 113 [some (.ref 111), some (.int x1), some (.int x2), some (.int x3), none, some (.int e6), none] [.int y8, .int x1, .ref 119] h9 (J113 y8 h9)) (fun y8 h9 => ?_) (fun J113 hJ113 => ?_)
          · refine kr_iastore d_X10_lay_113 sh_119 ?_
            refine kr_hl (fun h10 => ?_)
            refine kr_aload0 d_X10_lay_114 ?_
            refine kr_getR (q := 120) d_X10_lay_115 fl_X10_34 sh_111 rfl ?_
            refine kr_iload1 d_X10_lay_118 ?_
            refine kr_iload2 d_X10_lay_119 ?_
            refine kr_const (v := 1) d_X10_lay_120 ?_
            refine kr_jn (P := fun J133 => ∀ (y11 : Int32), ∀ (h12 : kv_H), kv_S kv_i kK_X10_lay 133 [some (.ref 111), some (.int x1), some (.int x2), some (.int x3), none, some (.int e6), none] [.int y11, .int x1, .ref 120] h12 (J133 y11 h12)) (fun y11 h12 => ?_) (fun J133 hJ133 => ?_)
            · refine kr_iastore d_X10_lay_133 sh_120 ?_
              refine kr_hl (fun h13 => ?_)
              refine kr_iload2 d_X10_lay_134 ?_
              refine kr_const (v := 2) d_X10_lay_135 ?_
              refine kr_icmp_ne d_X10_lay_136 ?_ ?_
              · refine kr_iload5 d_X10_lay_191 ?_
                exact kr_ireturn d_X10_lay_193 rfl
              · refine kr_aload0 d_X10_lay_139 ?_
                refine kr_getR (q := 121) d_X10_lay_140 fl_X10_37 sh_111 rfl ?_
                refine kr_iload1 d_X10_lay_143 ?_
                refine kr_aload0 d_X10_lay_144 ?_
                refine kr_getR (q := 116) d_X10_lay_145 fl_X10_22 sh_111 rfl ?_
                refine kr_iload3 d_X10_lay_148 ?_
                refine kr_iaload d_X10_lay_149 sh_116 ?_
                refine kr_iastore d_X10_lay_150 sh_121 ?_
                refine kr_hl (fun h14 => ?_)
                refine kr_const (v := 0) d_X10_lay_151 ?_
                refine kr_istore6 d_X10_lay_152 (Nat.le_of_ble_eq_true rfl) kv_c1i ?_
                refine kr_kill2 ?_
                refine s_f_X10_lay_L154 x1 x3 e6 kv_fu 0 h14 _ (fun  h16 => ?_)
                refine kr_iload5 d_X10_lay_191 ?_
                exact kr_ireturn d_X10_lay_193 rfl
            refine kr_icmp_ne d_X10_lay_121 ?_ ?_
            · refine kr_const (v := 0) d_X10_lay_132 ?_
              exact hJ133 0 h10
            · refine kr_aload0 d_X10_lay_124 ?_
              refine kr_iload3 d_X10_lay_125 ?_
              refine kr_iv_i (As := [.int x3]) d_X10_lay_126 cl_X10_140 (m_X10_worth x3 h10) sh_111 (Nat.le_of_ble_eq_true rfl) rfl (Nat.le_of_ble_eq_true rfl) (fun r18 h17 => ?_)
              refine kr_goto d_X10_lay_129 ?_
              exact hJ133 r18 h17
          refine kr_icmp_ne d_X10_lay_96 ?_ ?_
          · refine kr_iload3 d_X10_lay_112 ?_
            exact hJ113 x3 h7
          · refine kr_aload0 d_X10_lay_99 ?_
            refine kr_getR (q := 112) d_X10_lay_100 fl_X10_7 sh_111 rfl ?_
            refine kr_aload0 d_X10_lay_103 ?_
            refine kr_iload3 d_X10_lay_104 ?_
            refine kr_iv_i (As := [.int x3]) d_X10_lay_105 cl_X10_92 (m_X10_leafAt x3 h7) sh_111 (Nat.le_of_ble_eq_true rfl) rfl (Nat.le_of_ble_eq_true rfl) (fun r20 h19 => ?_)
            refine kr_iaload d_X10_lay_108 sh_112 ?_
            refine kr_goto d_X10_lay_109 ?_
            exact hJ113 (h19 112 r20.toNatClampNeg) h19
        refine kr_icmp_ne d_X10_lay_58 ?_ ?_
        · refine kr_kill4 ?_
          exact hJ74 h3
        · refine kr_aload0 d_X10_lay_61 ?_
          refine kr_getR (q := 115) d_X10_lay_62 fl_X10_19 sh_111 rfl ?_
          refine kr_iload3 d_X10_lay_65 ?_
          refine kr_iaload d_X10_lay_66 sh_115 ?_
          refine kr_if_ge d_X10_lay_67 ?_ ?_
          · refine kr_kill4 ?_
            exact hJ74 h3
          · refine kr_const (v := (-1000000011)) d_X10_lay_70 ?_
            exact kr_ireturn d_X10_lay_73 rfl
      · refine kr_const (v := (-1000000001)) d_X10_lay_53 ?_
        exact kr_ireturn d_X10_lay_55 rfl
  refine kr_jn (P := fun J34 =>  ∀ (h21 : kv_H), kv_S kv_i kK_X10_lay 34 [some (.ref 111), some (.int x1), some (.int x2), some (.int x3), none, none, none] [] h21 (J34  h21)) (fun  h21 => ?_) (fun J34 hJ34 => ?_)
  · refine kr_const (v := 1) d_X10_lay_34 ?_
    refine kr_goto d_X10_lay_35 ?_
    exact hJ39 1 h21
  refine kr_if_eq d_X10_lay_1 ?_ ?_
  · exact hJ34 h
  · refine kr_iload2 d_X10_lay_4 ?_
    refine kr_const (v := 3) d_X10_lay_5 ?_
    refine kr_icmp_eq d_X10_lay_6 ?_ ?_
    · exact hJ34 h
    · refine kr_iload2 d_X10_lay_9 ?_
      refine kr_const (v := 1) d_X10_lay_10 ?_
      refine kr_jn (P := fun J22 =>  ∀ (h22 : kv_H), kv_S kv_i kK_X10_lay 22 [some (.ref 111), some (.int x1), some (.int x2), some (.int x3), none, none, none] [] h22 (J22  h22)) (fun  h22 => ?_) (fun J22 hJ22 => ?_)
      · refine kr_iload2 d_X10_lay_22 ?_
        refine kr_const (v := 2) d_X10_lay_23 ?_
        refine kr_icmp_ne d_X10_lay_24 ?_ ?_
        · refine kr_const (v := 0) d_X10_lay_38 ?_
          exact hJ39 0 h22
        · refine kr_iload3 d_X10_lay_27 ?_
          refine kr_is_i (As := [.int x3]) d_X10_lay_28 cl_X10_336 (m_X10_isSheet x3 h22) (Nat.le_of_ble_eq_true rfl) rfl (Nat.le_of_ble_eq_true rfl) (fun r24 h23 => ?_)
          refine kr_if_eq d_X10_lay_31 ?_ ?_
          · refine kr_const (v := 0) d_X10_lay_38 ?_
            exact hJ39 0 h23
          · exact hJ34 h23
      refine kr_icmp_ne d_X10_lay_11 ?_ ?_
      · exact hJ22 h
      · refine kr_aload0 d_X10_lay_14 ?_
        refine kr_iload3 d_X10_lay_15 ?_
        refine kr_iv_i (As := [.int x3]) d_X10_lay_16 cl_X10_116 (m_X10_isLeaf x3 h) sh_111 (Nat.le_of_ble_eq_true rfl) rfl (Nat.le_of_ble_eq_true rfl) (fun r26 h25 => ?_)
        refine kr_if_ne d_X10_lay_19 ?_ ?_
        · exact hJ34 h25
        · exact hJ22 h25

/-! X10_ask -/
def f_X10_ask (x1 : Int32) (x2 : Int32) (h : kv_H) : Option (Int32 × kv_H) :=
  kv_b (f_X10_isSlot x1 h) (fun r2 h1 =>
  if r2 = 0 then (some ((-1000000001), h1))
  else (kv_b (f_X10_isIn (x2.toInt64) 0 5 h1) (fun r4 h3 =>
    if r4 = 0 then (some ((-1000000001), h3))
    else (kv_k x1 5 (if (h3 118 x1.toNatClampNeg) = 0 then (some ((-1000000011), h3))
      else (kv_k x1 5 (if (h3 118 x1.toNatClampNeg) = (1 : Int32) then (kv_k x1 5 (kv_b (f_X10_isOf (h3 119 x1.toNatClampNeg) x2 h3) (fun r6 h5 =>
          if r6 = 0 then (some ((-1000000012), h5))
          else (kv_k x1 5 (some ((h5 120 x1.toNatClampNeg), h5))))))
        else (some ((-1000000012), h3)))))))))
set_option maxRecDepth 20000 in
theorem m_X10_ask (x1 : Int32) (x2 : Int32) (h : kv_H) : kv_M kv_i kK_X10_ask [.ref 111, .int x1, .int x2] h (f_X10_ask x1 x2 h) := by
  refine kv_met (ls := [some (.ref 111), some (.int x1), some (.int x2)]) (show plainName RX10 = true by decide +kernel) (fun _ => rfl) (fun _ => Nat.le_of_ble_eq_true rfl) ?_
  unfold f_X10_ask
  refine kr_iload1 d_X10_ask_0 ?_
  refine kr_is_i (As := [.int x1]) d_X10_ask_1 cl_X10_348 (m_X10_isSlot x1 h) (Nat.le_of_ble_eq_true rfl) rfl (Nat.le_of_ble_eq_true rfl) (fun r2 h1 => ?_)
  refine kr_if_eq d_X10_ask_4 ?_ ?_
  · refine kr_const (v := (-1000000001)) d_X10_ask_19 ?_
    exact kr_ireturn d_X10_ask_21 rfl
  · refine kr_iload2 d_X10_ask_7 ?_
    refine kr_i2l d_X10_ask_8 ?_
    refine kr_constL (v := 0) d_X10_ask_9 ?_
    refine kr_constL (v := 5) d_X10_ask_10 ?_
    refine kr_is_i (As := [.long (x2.toInt64), .long 0, .long 5]) d_X10_ask_13 cl_X10_83 (m_X10_isIn (x2.toInt64) 0 5 h1) (Nat.le_of_ble_eq_true rfl) rfl (Nat.le_of_ble_eq_true rfl) (fun r4 h3 => ?_)
    refine kr_if_ne d_X10_ask_16 ?_ ?_
    · refine kr_aload0 d_X10_ask_22 ?_
      refine kr_getR (q := 118) d_X10_ask_23 fl_X10_28 sh_111 rfl ?_
      refine kr_iload1 d_X10_ask_26 ?_
      refine kr_iaload d_X10_ask_27 sh_118 ?_
      refine kr_if_ne d_X10_ask_28 ?_ ?_
      · refine kr_aload0 d_X10_ask_35 ?_
        refine kr_getR (q := 118) d_X10_ask_36 fl_X10_28 sh_111 rfl ?_
        refine kr_iload1 d_X10_ask_39 ?_
        refine kr_iaload d_X10_ask_40 sh_118 ?_
        refine kr_const (v := 1) d_X10_ask_41 ?_
        refine kr_icmp_ne d_X10_ask_42 ?_ ?_
        · refine kr_const (v := (-1000000012)) d_X10_ask_67 ?_
          exact kr_ireturn d_X10_ask_69 rfl
        · refine kr_aload0 d_X10_ask_45 ?_
          refine kr_getR (q := 119) d_X10_ask_46 fl_X10_31 sh_111 rfl ?_
          refine kr_iload1 d_X10_ask_49 ?_
          refine kr_iaload d_X10_ask_50 sh_119 ?_
          refine kr_iload2 d_X10_ask_51 ?_
          refine kr_is_i (As := [.int (h3 119 x1.toNatClampNeg), .int x2]) d_X10_ask_52 cl_X10_143 (m_X10_isOf (h3 119 x1.toNatClampNeg) x2 h3) (Nat.le_of_ble_eq_true rfl) rfl (Nat.le_of_ble_eq_true rfl) (fun r6 h5 => ?_)
          refine kr_if_eq d_X10_ask_55 ?_ ?_
          · refine kr_const (v := (-1000000012)) d_X10_ask_67 ?_
            exact kr_ireturn d_X10_ask_69 rfl
          · refine kr_aload0 d_X10_ask_58 ?_
            refine kr_getR (q := 120) d_X10_ask_59 fl_X10_34 sh_111 rfl ?_
            refine kr_iload1 d_X10_ask_62 ?_
            refine kr_iaload d_X10_ask_63 sh_120 ?_
            refine kr_goto d_X10_ask_64 ?_
            exact kr_ireturn d_X10_ask_69 rfl
      · refine kr_const (v := (-1000000011)) d_X10_ask_31 ?_
        exact kr_ireturn d_X10_ask_34 rfl
    · refine kr_const (v := (-1000000001)) d_X10_ask_19 ?_
      exact kr_ireturn d_X10_ask_21 rfl

/-! X10_item -/
def f_X10_item (x1 : Int32) (x2 : Int32) (h : kv_H) : Option (Int32 × kv_H) :=
  kv_b (f_X10_isSlot x1 h) (fun r2 h1 =>
  if r2 = 0 then (some ((-1000000001), h1))
  else (kv_k x1 5 (if (h1 118 x1.toNatClampNeg) = (2 : Int32) then (kv_k x1 5 (kv_b (f_X10_isIn (x2.toInt64) 0 (((h1 121 x1.toNatClampNeg) - 1).toInt64) h1) (fun r4 h3 =>
      if r4 = 0 then (some ((-1000000013), h3))
      else (kv_k ((24 * x1) + x2) 120 (kv_vl (h3 122 ((24 * x1) + x2).toNatClampNeg) (fun e5 =>
        if e5 = (-1000000005 : Int32) then (some ((-1000000012), h3))
        else (some (e5, h3))))))))
    else (kv_k x1 5 (if (h1 118 x1.toNatClampNeg) = 0 then (some ((-1000000011), h1))
      else (some ((-1000000012), h1)))))))
set_option maxRecDepth 20000 in
theorem m_X10_item (x1 : Int32) (x2 : Int32) (h : kv_H) : kv_M kv_i kK_X10_item [.ref 111, .int x1, .int x2] h (f_X10_item x1 x2 h) := by
  refine kv_met (ls := [some (.ref 111), some (.int x1), some (.int x2), none]) (show plainName RX10 = true by decide +kernel) (fun _ => rfl) (fun _ => Nat.le_of_ble_eq_true rfl) ?_
  unfold f_X10_item
  refine kr_iload1 d_X10_item_0 ?_
  refine kr_is_i (As := [.int x1]) d_X10_item_1 cl_X10_348 (m_X10_isSlot x1 h) (Nat.le_of_ble_eq_true rfl) rfl (Nat.le_of_ble_eq_true rfl) (fun r2 h1 => ?_)
  refine kr_if_ne d_X10_item_4 ?_ ?_
  · refine kr_aload0 d_X10_item_10 ?_
    refine kr_getR (q := 118) d_X10_item_11 fl_X10_28 sh_111 rfl ?_
    refine kr_iload1 d_X10_item_14 ?_
    refine kr_iaload d_X10_item_15 sh_118 ?_
    refine kr_const (v := 2) d_X10_item_16 ?_
    refine kr_icmp_eq d_X10_item_17 ?_ ?_
    · refine kr_iload2 d_X10_item_38 ?_
      refine kr_i2l d_X10_item_39 ?_
      refine kr_constL (v := 0) d_X10_item_40 ?_
      refine kr_aload0 d_X10_item_41 ?_
      refine kr_getR (q := 121) d_X10_item_42 fl_X10_37 sh_111 rfl ?_
      refine kr_iload1 d_X10_item_45 ?_
      refine kr_iaload d_X10_item_46 sh_121 ?_
      refine kr_const (v := 1) d_X10_item_47 ?_
      refine kr_isub d_X10_item_48 ?_
      refine kr_i2l d_X10_item_49 ?_
      refine kr_is_i (As := [.long (x2.toInt64), .long 0, .long (((h1 121 x1.toNatClampNeg) - 1).toInt64)]) d_X10_item_50 cl_X10_83 (m_X10_isIn (x2.toInt64) 0 (((h1 121 x1.toNatClampNeg) - 1).toInt64) h1) (Nat.le_of_ble_eq_true rfl) rfl (Nat.le_of_ble_eq_true rfl) (fun r4 h3 => ?_)
      refine kr_if_ne d_X10_item_53 ?_ ?_
      · refine kr_aload0 d_X10_item_60 ?_
        refine kr_getR (q := 122) d_X10_item_61 fl_X10_40 sh_111 rfl ?_
        refine kr_const (v := 24) d_X10_item_64 ?_
        refine kr_iload1 d_X10_item_66 ?_
        refine kr_imul d_X10_item_67 ?_
        refine kr_iload2 d_X10_item_68 ?_
        refine kr_iadd d_X10_item_69 ?_
        refine kr_iaload d_X10_item_70 sh_122 ?_
        refine kr_vl (fun e5 => ?_)
        refine kr_istore3 d_X10_item_71 (Nat.le_of_ble_eq_true rfl) kv_c1i ?_
        refine kr_iload3 d_X10_item_72 ?_
        refine kr_const (v := (-1000000005)) d_X10_item_73 ?_
        refine kr_icmp_ne d_X10_item_75 ?_ ?_
        · refine kr_iload3 d_X10_item_83 ?_
          exact kr_ireturn d_X10_item_84 rfl
        · refine kr_const (v := (-1000000012)) d_X10_item_78 ?_
          refine kr_goto d_X10_item_80 ?_
          exact kr_ireturn d_X10_item_84 rfl
      · refine kr_const (v := (-1000000013)) d_X10_item_56 ?_
        exact kr_ireturn d_X10_item_59 rfl
    · refine kr_aload0 d_X10_item_20 ?_
      refine kr_getR (q := 118) d_X10_item_21 fl_X10_28 sh_111 rfl ?_
      refine kr_iload1 d_X10_item_24 ?_
      refine kr_iaload d_X10_item_25 sh_118 ?_
      refine kr_if_ne d_X10_item_26 ?_ ?_
      · refine kr_const (v := (-1000000012)) d_X10_item_35 ?_
        exact kr_ireturn d_X10_item_37 rfl
      · refine kr_const (v := (-1000000011)) d_X10_item_29 ?_
        refine kr_goto d_X10_item_32 ?_
        exact kr_ireturn d_X10_item_37 rfl
  · refine kr_const (v := (-1000000001)) d_X10_item_7 ?_
    exact kr_ireturn d_X10_item_9 rfl

/-! X10_rest -/
def f_X10_rest (x1 : Int32) (x2 : Int32) (h : kv_H) : Option (Int32 × kv_H) :=
  kv_b (f_X10_isSlot x1 h) (fun r2 h1 =>
  if r2 = 0 then (some ((-1000000001), h1))
  else (kv_k x1 5 (if (h1 118 x1.toNatClampNeg) = (3 : Int32) then (if x2 = 0 then (some ((-1000000002), h1))
      else (kv_k x1 5 (kv_z x2 (some (((h1 119 x1.toNatClampNeg) - (h1 119 x1.toNatClampNeg) / x2 * x2), h1)))))
    else (kv_k x1 5 (if (h1 118 x1.toNatClampNeg) = 0 then (some ((-1000000011), h1))
      else (some ((-1000000012), h1)))))))
set_option maxRecDepth 20000 in
theorem m_X10_rest (x1 : Int32) (x2 : Int32) (h : kv_H) : kv_M kv_i kK_X10_rest [.ref 111, .int x1, .int x2] h (f_X10_rest x1 x2 h) := by
  refine kv_met (ls := [some (.ref 111), some (.int x1), some (.int x2)]) (show plainName RX10 = true by decide +kernel) (fun _ => rfl) (fun _ => Nat.le_of_ble_eq_true rfl) ?_
  unfold f_X10_rest
  refine kr_iload1 d_X10_rest_0 ?_
  refine kr_is_i (As := [.int x1]) d_X10_rest_1 cl_X10_348 (m_X10_isSlot x1 h) (Nat.le_of_ble_eq_true rfl) rfl (Nat.le_of_ble_eq_true rfl) (fun r2 h1 => ?_)
  refine kr_if_ne d_X10_rest_4 ?_ ?_
  · refine kr_aload0 d_X10_rest_10 ?_
    refine kr_getR (q := 118) d_X10_rest_11 fl_X10_28 sh_111 rfl ?_
    refine kr_iload1 d_X10_rest_14 ?_
    refine kr_iaload d_X10_rest_15 sh_118 ?_
    refine kr_const (v := 3) d_X10_rest_16 ?_
    refine kr_icmp_eq d_X10_rest_17 ?_ ?_
    · refine kr_iload2 d_X10_rest_38 ?_
      refine kr_if_ne d_X10_rest_39 ?_ ?_
      · refine kr_aload0 d_X10_rest_47 ?_
        refine kr_getR (q := 119) d_X10_rest_48 fl_X10_31 sh_111 rfl ?_
        refine kr_iload1 d_X10_rest_51 ?_
        refine kr_iaload d_X10_rest_52 sh_119 ?_
        refine kr_iload2 d_X10_rest_53 ?_
        refine kr_irem d_X10_rest_54 ?_
        exact kr_ireturn d_X10_rest_55 rfl
      · refine kr_const (v := (-1000000002)) d_X10_rest_42 ?_
        refine kr_goto d_X10_rest_44 ?_
        exact kr_ireturn d_X10_rest_55 rfl
    · refine kr_aload0 d_X10_rest_20 ?_
      refine kr_getR (q := 118) d_X10_rest_21 fl_X10_28 sh_111 rfl ?_
      refine kr_iload1 d_X10_rest_24 ?_
      refine kr_iaload d_X10_rest_25 sh_118 ?_
      refine kr_if_ne d_X10_rest_26 ?_ ?_
      · refine kr_const (v := (-1000000012)) d_X10_rest_35 ?_
        exact kr_ireturn d_X10_rest_37 rfl
      · refine kr_const (v := (-1000000011)) d_X10_rest_29 ?_
        refine kr_goto d_X10_rest_32 ?_
        exact kr_ireturn d_X10_rest_37 rfl
  · refine kr_const (v := (-1000000001)) d_X10_rest_7 ?_
    exact kr_ireturn d_X10_rest_9 rfl

/-! X10_tell -/
def f_X10_tell (x1 : Int32) (h : kv_H) : Option (Int32 × kv_H) :=
  if (h 111 36) = (60 : Int32) then (some ((-1000000003), h))
  else (kv_k (h 111 36) 60 (kv_hl (kv_up h 134 (h 111 36).toNatClampNeg x1) (fun h1 =>
    kv_hl (kv_up h1 111 36 ((h1 111 36) + 1)) (fun h2 =>
    some ((h2 111 36), h2)))))
set_option maxRecDepth 20000 in
theorem m_X10_tell (x1 : Int32) (h : kv_H) : kv_M kv_i kK_X10_tell [.ref 111, .int x1] h (f_X10_tell x1 h) := by
  refine kv_met (ls := [some (.ref 111), some (.int x1)]) (show plainName RX10 = true by decide +kernel) (fun _ => rfl) (fun _ => Nat.le_of_ble_eq_true rfl) ?_
  unfold f_X10_tell
  refine kr_aload0 d_X10_tell_0 ?_
  refine kr_getI d_X10_tell_1 fl_X10_351 sh_111 rfl ?_
  refine kr_const (v := 60) d_X10_tell_4 ?_
  refine kr_icmp_ne d_X10_tell_6 ?_ ?_
  · refine kr_aload0 d_X10_tell_12 ?_
    refine kr_getR (q := 134) d_X10_tell_13 fl_X10_76 sh_111 rfl ?_
    refine kr_aload0 d_X10_tell_16 ?_
    refine kr_getI d_X10_tell_17 fl_X10_351 sh_111 rfl ?_
    refine kr_iload1 d_X10_tell_20 ?_
    refine kr_iastore d_X10_tell_21 sh_134 ?_
    refine kr_hl (fun h1 => ?_)
    refine kr_aload0 d_X10_tell_22 ?_
    refine kr_dup d_X10_tell_23 rfl ?_
    refine kr_getI d_X10_tell_24 fl_X10_351 sh_111 rfl ?_
    refine kr_const (v := 1) d_X10_tell_27 ?_
    refine kr_iadd d_X10_tell_28 ?_
    refine kr_putI d_X10_tell_29 fp_X10_351 sh_111 rfl rfl rfl ?_
    refine kr_hl (fun h2 => ?_)
    refine kr_aload0 d_X10_tell_32 ?_
    refine kr_getI d_X10_tell_33 fl_X10_351 sh_111 rfl ?_
    exact kr_ireturn d_X10_tell_36 rfl
  · refine kr_const (v := (-1000000003)) d_X10_tell_9 ?_
    exact kr_ireturn d_X10_tell_11 rfl

/-! X10_setAside -/
def f_X10_setAside_L2 (q1 nq1 : Nat) (q2 nq2 : Nat) : Nat → Int32 → kv_H → (kv_H → Option (Unit × kv_H)) → Option (Unit × kv_H)
  | 0, _, _, _ => none
  | n + 1, v3, h, C => if (2898 : Int32) ≤ v3 then (C h)
    else (kv_k v3 nq1 (kv_k v3 nq2 (kv_hl (kv_up h q2 v3.toNatClampNeg (h q1 v3.toNatClampNeg)) (fun h1 =>
      f_X10_setAside_L2 q1 nq1 q2 nq2 n (v3 + 1) h1 C))))
def f_X10_setAside (k1 nk1 : Nat) (k2 nk2 : Nat) (h : kv_H) : Option (Unit × kv_H) :=
  f_X10_setAside_L2 k1 nk1 k2 nk2 kv_fu 0 h (fun  h2 =>
  some ((), h2))
set_option maxRecDepth 20000 in
theorem s_f_X10_setAside_L2 (q1 nq1 : Nat) (hq1 : kv_Ar q1 nq1) (q2 nq2 : Nat) (hq2 : kv_Ar q2 nq2) : ∀ (n : Nat) (v3 : Int32) (h : kv_H) (C : kv_H → Option (Unit × kv_H)), (∀  (h : kv_H), kv_S kv_u kK_X10_setAside 21 [none, none, none, none] [] h (C h)) → kv_S kv_u kK_X10_setAside 2 [none, some (.ref q1), some (.ref q2), some (.int v3)] [] h (f_X10_setAside_L2 q1 nq1 q2 nq2 n v3 h C) := by
  intro n
  induction n with
  | zero => intros; exact kv_none
  | succ n ih =>
    intro v3 h C hC
    unfold f_X10_setAside_L2
    refine kr_iload3 d_X10_setAside_2 ?_
    refine kr_const (v := 2898) d_X10_setAside_3 ?_
    refine kr_icmp_ge d_X10_setAside_6 ?_ ?_
    · refine kr_kill1 ?_
      refine kr_kill2 ?_
      refine kr_kill3 ?_
      exact hC h
    · refine kr_aload2 d_X10_setAside_9 ?_
      refine kr_iload3 d_X10_setAside_10 ?_
      refine kr_aload1 d_X10_setAside_11 ?_
      refine kr_iload3 d_X10_setAside_12 ?_
      refine kr_iaload d_X10_setAside_13 hq1 ?_
      refine kr_iastore d_X10_setAside_14 hq2 ?_
      refine kr_hl (fun h1 => ?_)
      refine kr_iinc3 d_X10_setAside_15 (Nat.le_of_ble_eq_true rfl) kv_c1a ?_
      refine kr_goto d_X10_setAside_18 ?_
      exact ih (v3 + 1) h1 C hC

set_option maxRecDepth 20000 in
theorem m_X10_setAside (k1 nk1 : Nat) (hk1 : kv_Ar k1 nk1) (k2 nk2 : Nat) (hk2 : kv_Ar k2 nk2) (h : kv_H) : kv_M kv_u kK_X10_setAside [.ref 111, .ref k1, .ref k2] h (f_X10_setAside k1 nk1 k2 nk2 h) := by
  refine kv_met (ls := [some (.ref 111), some (.ref k1), some (.ref k2), none]) (show plainName RX10 = true by decide +kernel) (fun _ => rfl) (fun _ => Nat.le_of_ble_eq_true rfl) ?_
  unfold f_X10_setAside
  refine kr_const (v := 0) d_X10_setAside_0 ?_
  refine kr_istore3 d_X10_setAside_1 (Nat.le_of_ble_eq_true rfl) kv_c1a ?_
  refine kr_kill0 ?_
  refine s_f_X10_setAside_L2 k1 nk1 hk1 k2 nk2 hk2 kv_fu 0 h _ (fun  h2 => ?_)
  exact kr_return d_X10_setAside_21 rfl

/-! X10_check -/
def f_X10_check_L74 (c1 : Int32) (c2 : Int32) : Nat → Int32 → kv_H → (kv_H → Option (Int32 × kv_H)) → Option (Int32 × kv_H)
  | 0, _, _, _ => none
  | n + 1, v3, h, C => if c1 ≤ v3 then (C h)
    else (kv_b (f_X10_drawn h) (fun r9 h8 =>
      kv_z (h8 112 0) (kv_vl (r9 - r9 / (h8 112 0) * (h8 112 0)) (fun e10 =>
      kv_b (f_X10_asks e10 h8) (fun r12 h11 =>
      kv_jn (fun (y13 : Int32) (h14 : kv_H) =>
      kv_k (2 * v3) 60 (kv_hl (kv_up h14 135 (2 * v3).toNatClampNeg ((10 * e10) + y13)) (fun h15 =>
        kv_b (f_X10_vaultBits h15) (fun r17 h16 =>
        kv_k ((2 * v3) + 1) 60 (kv_hl (kv_up h16 135 ((2 * v3) + 1).toNatClampNeg r17) (fun h18 =>
        f_X10_check_L74 c1 c2 n (v3 + 1) h18 C)))))) (fun (J118 : Int32 → kv_H → Option (Int32 × kv_H)) =>
      if r12 = 0 then (J118 0 h11)
      else (J118 1 h11)))))))
def f_X10_check_L154 (c1 : Int32) (c2 : Int32) : Nat → Int32 → kv_H → (Int32 → kv_H → Option (Int32 × kv_H)) → Option (Int32 × kv_H)
  | 0, _, _, _ => none
  | n + 1, v3, h, C => if c2 ≤ v3 then (C v3 h)
    else (if (2 * c1) ≤ v3 then (C v3 h)
      else (kv_k v3 60 (kv_k v3 60 (if (h 134 v3.toNatClampNeg) = (h 135 v3.toNatClampNeg) then (f_X10_check_L154 c1 c2 n (v3 + 1) h C)
        else (C v3 h)))))
def f_X10_check (x1 : Int32) (h : kv_H) : Option (Int32 × kv_H) :=
  kv_vl (h 111 36) (fun e1 =>
  kv_hl (kv_up h 111 36 0) (fun h2 =>
  kv_b (f_X10_isIn (x1.toInt64) 1 30 h2) (fun r4 h3 =>
  if r4 = 0 then (some ((-1000000001), h3))
  else (if (h3 111 3) = 0 then (some ((-1000000002), h3))
    else (if (h3 113 0) = 0 then (some ((-1000000002), h3))
      else (kv_b (f_X10_setAside 112 3098 114 3098 h3) (fun _ h5 =>
        kv_b (f_X10_setAside 113 3098 112 3098 h5) (fun _ h6 =>
        kv_b (f_X10_knows h6) (fun _ h7 =>
        f_X10_check_L74 x1 e1 kv_fu 0 h7 (fun  h19 =>
        kv_b (f_X10_setAside 114 3098 112 3098 h19) (fun _ h20 =>
          f_X10_check_L154 x1 e1 kv_fu 0 h20 (fun z21 h22 =>
          kv_jn (fun  (h23 : kv_H) =>
            some ((1 + z21), h23)) (fun (J203 : kv_H → Option (Int32 × kv_H)) =>
            if z21 = e1 then (if z21 = (2 * x1) then (some (0, h22))
              else (J203 h22))
            else (J203 h22))))))))))))))
set_option maxRecDepth 20000 in
theorem s_f_X10_check_L74 (c1 : Int32) (c2 : Int32) : ∀ (n : Nat) (v3 : Int32) (h : kv_H) (C : kv_H → Option (Int32 × kv_H)), (∀  (h : kv_H), kv_S kv_i kK_X10_check 140 [some (.ref 111), some (.int c1), some (.int c2), none, none] [] h (C h)) → kv_S kv_i kK_X10_check 74 [some (.ref 111), some (.int c1), some (.int c2), some (.int v3), none] [] h (f_X10_check_L74 c1 c2 n v3 h C) := by
  intro n
  induction n with
  | zero => intros; exact kv_none
  | succ n ih =>
    intro v3 h C hC
    unfold f_X10_check_L74
    refine kr_iload3 d_X10_check_74 ?_
    refine kr_iload1 d_X10_check_75 ?_
    refine kr_icmp_ge d_X10_check_76 ?_ ?_
    · refine kr_kill3 ?_
      exact hC h
    · refine kr_aload0 d_X10_check_79 ?_
      refine kr_iv_i (As := []) d_X10_check_80 cl_X10_155 (m_X10_drawn h) sh_111 (Nat.le_of_ble_eq_true rfl) rfl (Nat.le_of_ble_eq_true rfl) (fun r9 h8 => ?_)
      refine kr_aload0 d_X10_check_83 ?_
      refine kr_getR (q := 112) d_X10_check_84 fl_X10_7 sh_111 rfl ?_
      refine kr_const (v := 0) d_X10_check_87 ?_
      refine kr_ialoadC (j := 0) ⟨by decide, by decide, by decide⟩ d_X10_check_88 sh_112 ?_
      refine kr_irem d_X10_check_89 ?_
      refine kr_vl (fun e10 => ?_)
      refine kr_istore4 d_X10_check_90 (Nat.le_of_ble_eq_true rfl) kv_c1i ?_
      refine kr_aload0 d_X10_check_92 ?_
      refine kr_getR (q := 135) d_X10_check_93 fl_X10_79 sh_111 rfl ?_
      refine kr_const (v := 2) d_X10_check_96 ?_
      refine kr_iload3 d_X10_check_97 ?_
      refine kr_imul d_X10_check_98 ?_
      refine kr_const (v := 10) d_X10_check_99 ?_
      refine kr_iload4 d_X10_check_101 ?_
      refine kr_imul d_X10_check_103 ?_
      refine kr_aload0 d_X10_check_104 ?_
      refine kr_iload4 d_X10_check_105 ?_
      refine kr_iv_i (As := [.int e10]) d_X10_check_107 cl_X10_187 (m_X10_asks e10 h8) sh_111 (Nat.le_of_ble_eq_true rfl) rfl (Nat.le_of_ble_eq_true rfl) (fun r12 h11 => ?_)
      refine kr_jn (P := fun J118 => ∀ (y13 : Int32), ∀ (h14 : kv_H), kv_S kv_i kK_X10_check 118 [some (.ref 111), some (.int c1), some (.int c2), some (.int v3), none] [.int y13, .int (10 * e10), .int (2 * v3), .ref 135] h14 (J118 y13 h14)) (fun y13 h14 => ?_) (fun J118 hJ118 => ?_)
      · refine kr_iadd d_X10_check_118 ?_
        refine kr_iastore d_X10_check_119 sh_135 ?_
        refine kr_hl (fun h15 => ?_)
        refine kr_aload0 d_X10_check_120 ?_
        refine kr_getR (q := 135) d_X10_check_121 fl_X10_79 sh_111 rfl ?_
        refine kr_const (v := 2) d_X10_check_124 ?_
        refine kr_iload3 d_X10_check_125 ?_
        refine kr_imul d_X10_check_126 ?_
        refine kr_const (v := 1) d_X10_check_127 ?_
        refine kr_iadd d_X10_check_128 ?_
        refine kr_aload0 d_X10_check_129 ?_
        refine kr_iv_i (As := []) d_X10_check_130 cl_X10_132 (m_X10_vaultBits h15) sh_111 (Nat.le_of_ble_eq_true rfl) rfl (Nat.le_of_ble_eq_true rfl) (fun r17 h16 => ?_)
        refine kr_iastore d_X10_check_133 sh_135 ?_
        refine kr_hl (fun h18 => ?_)
        refine kr_iinc3 d_X10_check_134 (Nat.le_of_ble_eq_true rfl) kv_c1i ?_
        refine kr_goto d_X10_check_137 ?_
        exact ih (v3 + 1) h18 C hC
      refine kr_if_eq d_X10_check_110 ?_ ?_
      · refine kr_const (v := 0) d_X10_check_117 ?_
        refine kr_kill4 ?_
        exact hJ118 0 h11
      · refine kr_const (v := 1) d_X10_check_113 ?_
        refine kr_goto d_X10_check_114 ?_
        refine kr_kill4 ?_
        exact hJ118 1 h11

set_option maxRecDepth 20000 in
theorem s_f_X10_check_L154 (c1 : Int32) (c2 : Int32) : ∀ (n : Nat) (v3 : Int32) (h : kv_H) (C : Int32 → kv_H → Option (Int32 × kv_H)), (∀ (w3 : Int32) (h : kv_H), kv_S kv_i kK_X10_check 187 [none, some (.int c1), some (.int c2), some (.int w3), none] [] h (C w3 h)) → kv_S kv_i kK_X10_check 154 [some (.ref 111), some (.int c1), some (.int c2), some (.int v3), none] [] h (f_X10_check_L154 c1 c2 n v3 h C) := by
  intro n
  induction n with
  | zero => intros; exact kv_none
  | succ n ih =>
    intro v3 h C hC
    unfold f_X10_check_L154
    refine kr_iload3 d_X10_check_154 ?_
    refine kr_iload2 d_X10_check_155 ?_
    refine kr_icmp_ge d_X10_check_156 ?_ ?_
    · refine kr_kill0 ?_
      exact hC v3 h
    · refine kr_iload3 d_X10_check_159 ?_
      refine kr_const (v := 2) d_X10_check_160 ?_
      refine kr_iload1 d_X10_check_161 ?_
      refine kr_imul d_X10_check_162 ?_
      refine kr_icmp_ge d_X10_check_163 ?_ ?_
      · refine kr_kill0 ?_
        exact hC v3 h
      · refine kr_aload0 d_X10_check_166 ?_
        refine kr_getR (q := 134) d_X10_check_167 fl_X10_76 sh_111 rfl ?_
        refine kr_iload3 d_X10_check_170 ?_
        refine kr_iaload d_X10_check_171 sh_134 ?_
        refine kr_aload0 d_X10_check_172 ?_
        refine kr_getR (q := 135) d_X10_check_173 fl_X10_79 sh_111 rfl ?_
        refine kr_iload3 d_X10_check_176 ?_
        refine kr_iaload d_X10_check_177 sh_135 ?_
        refine kr_icmp_ne d_X10_check_178 ?_ ?_
        · refine kr_kill0 ?_
          exact hC v3 h
        · refine kr_iinc3 d_X10_check_181 (Nat.le_of_ble_eq_true rfl) kv_c1i ?_
          refine kr_goto d_X10_check_184 ?_
          exact ih (v3 + 1) h C hC

set_option maxRecDepth 20000 in
theorem m_X10_check (x1 : Int32) (h : kv_H) : kv_M kv_i kK_X10_check [.ref 111, .int x1] h (f_X10_check x1 h) := by
  refine kv_met (ls := [some (.ref 111), some (.int x1), none, none, none]) (show plainName RX10 = true by decide +kernel) (fun _ => rfl) (fun _ => Nat.le_of_ble_eq_true rfl) ?_
  unfold f_X10_check
  refine kr_aload0 d_X10_check_0 ?_
  refine kr_getI d_X10_check_1 fl_X10_351 sh_111 rfl ?_
  refine kr_vl (fun e1 => ?_)
  refine kr_istore2 d_X10_check_4 (Nat.le_of_ble_eq_true rfl) kv_c1i ?_
  refine kr_aload0 d_X10_check_5 ?_
  refine kr_const (v := 0) d_X10_check_6 ?_
  refine kr_putI d_X10_check_7 fp_X10_351 sh_111 rfl rfl rfl ?_
  refine kr_hl (fun h2 => ?_)
  refine kr_iload1 d_X10_check_10 ?_
  refine kr_i2l d_X10_check_11 ?_
  refine kr_constL (v := 1) d_X10_check_12 ?_
  refine kr_constL (v := 30) d_X10_check_13 ?_
  refine kr_is_i (As := [.long (x1.toInt64), .long 1, .long 30]) d_X10_check_16 cl_X10_83 (m_X10_isIn (x1.toInt64) 1 30 h2) (Nat.le_of_ble_eq_true rfl) rfl (Nat.le_of_ble_eq_true rfl) (fun r4 h3 => ?_)
  refine kr_if_ne d_X10_check_19 ?_ ?_
  · refine kr_aload0 d_X10_check_25 ?_
    refine kr_getI d_X10_check_26 fl_X10_356 sh_111 rfl ?_
    refine kr_if_eq d_X10_check_29 ?_ ?_
    · refine kr_const (v := (-1000000002)) d_X10_check_41 ?_
      exact kr_ireturn d_X10_check_43 rfl
    · refine kr_aload0 d_X10_check_32 ?_
      refine kr_getR (q := 113) d_X10_check_33 fl_X10_13 sh_111 rfl ?_
      refine kr_const (v := 0) d_X10_check_36 ?_
      refine kr_ialoadC (j := 0) ⟨by decide, by decide, by decide⟩ d_X10_check_37 sh_113 ?_
      refine kr_if_ne d_X10_check_38 ?_ ?_
      · refine kr_aload0 d_X10_check_44 ?_
        refine kr_aload0 d_X10_check_45 ?_
        refine kr_getR (q := 112) d_X10_check_46 fl_X10_7 sh_111 rfl ?_
        refine kr_aload0 d_X10_check_49 ?_
        refine kr_getR (q := 114) d_X10_check_50 fl_X10_16 sh_111 rfl ?_
        refine kr_iv_u (As := [.ref 112, .ref 114]) d_X10_check_53 cl_X10_360 (m_X10_setAside 112 3098 sh_112 114 3098 sh_114 h3) sh_111 (Nat.le_of_ble_eq_true rfl) rfl (Nat.le_of_ble_eq_true rfl) (fun h5 => ?_)
        refine kr_aload0 d_X10_check_56 ?_
        refine kr_aload0 d_X10_check_57 ?_
        refine kr_getR (q := 113) d_X10_check_58 fl_X10_13 sh_111 rfl ?_
        refine kr_aload0 d_X10_check_61 ?_
        refine kr_getR (q := 112) d_X10_check_62 fl_X10_7 sh_111 rfl ?_
        refine kr_iv_u (As := [.ref 113, .ref 112]) d_X10_check_65 cl_X10_360 (m_X10_setAside 113 3098 sh_113 112 3098 sh_112 h5) sh_111 (Nat.le_of_ble_eq_true rfl) rfl (Nat.le_of_ble_eq_true rfl) (fun h6 => ?_)
        refine kr_aload0 d_X10_check_68 ?_
        refine kr_iv_u (As := []) d_X10_check_69 cl_X10_182 (m_X10_knows h6) sh_111 (Nat.le_of_ble_eq_true rfl) rfl (Nat.le_of_ble_eq_true rfl) (fun h7 => ?_)
        refine kr_const (v := 0) d_X10_check_72 ?_
        refine kr_istore3 d_X10_check_73 (Nat.le_of_ble_eq_true rfl) kv_c1i ?_
        refine s_f_X10_check_L74 x1 e1 kv_fu 0 h7 _ (fun  h19 => ?_)
        refine kr_aload0 d_X10_check_140 ?_
        refine kr_aload0 d_X10_check_141 ?_
        refine kr_getR (q := 114) d_X10_check_142 fl_X10_16 sh_111 rfl ?_
        refine kr_aload0 d_X10_check_145 ?_
        refine kr_getR (q := 112) d_X10_check_146 fl_X10_7 sh_111 rfl ?_
        refine kr_iv_u (As := [.ref 114, .ref 112]) d_X10_check_149 cl_X10_360 (m_X10_setAside 114 3098 sh_114 112 3098 sh_112 h19) sh_111 (Nat.le_of_ble_eq_true rfl) rfl (Nat.le_of_ble_eq_true rfl) (fun h20 => ?_)
        refine kr_const (v := 0) d_X10_check_152 ?_
        refine kr_istore3 d_X10_check_153 (Nat.le_of_ble_eq_true rfl) kv_c1i ?_
        refine s_f_X10_check_L154 x1 e1 kv_fu 0 h20 _ (fun z21 h22 => ?_)
        refine kr_iload3 d_X10_check_187 ?_
        refine kr_iload2 d_X10_check_188 ?_
        refine kr_jn (P := fun J203 =>  ∀ (h23 : kv_H), kv_S kv_i kK_X10_check 203 [none, none, none, some (.int z21), none] [] h23 (J203  h23)) (fun  h23 => ?_) (fun J203 hJ203 => ?_)
        · refine kr_const (v := 1) d_X10_check_203 ?_
          refine kr_iload3 d_X10_check_204 ?_
          refine kr_iadd d_X10_check_205 ?_
          exact kr_ireturn d_X10_check_206 rfl
        refine kr_icmp_ne d_X10_check_189 ?_ ?_
        · refine kr_kill1 ?_
          refine kr_kill2 ?_
          exact hJ203 h22
        · refine kr_iload3 d_X10_check_192 ?_
          refine kr_const (v := 2) d_X10_check_193 ?_
          refine kr_iload1 d_X10_check_194 ?_
          refine kr_imul d_X10_check_195 ?_
          refine kr_icmp_ne d_X10_check_196 ?_ ?_
          · refine kr_kill1 ?_
            refine kr_kill2 ?_
            exact hJ203 h22
          · refine kr_const (v := 0) d_X10_check_199 ?_
            refine kr_goto d_X10_check_200 ?_
            exact kr_ireturn d_X10_check_206 rfl
      · refine kr_const (v := (-1000000002)) d_X10_check_41 ?_
        exact kr_ireturn d_X10_check_43 rfl
  · refine kr_const (v := (-1000000001)) d_X10_check_22 ?_
    exact kr_ireturn d_X10_check_24 rfl

/-! X10_keep -/
def f_X10_keep (h : kv_H) : Option (Int32 × kv_H) :=
  kv_hl (kv_up h 111 3 1) (fun h1 =>
  kv_b (f_X10_setAside 112 3098 113 3098 h1) (fun _ h2 =>
  some ((h2 112 0), h2)))
set_option maxRecDepth 20000 in
theorem m_X10_keep (h : kv_H) : kv_M kv_i kK_X10_keep [.ref 111] h (f_X10_keep h) := by
  refine kv_met (ls := [some (.ref 111)]) (show plainName RX10 = true by decide +kernel) (fun _ => rfl) (fun _ => Nat.le_of_ble_eq_true rfl) ?_
  unfold f_X10_keep
  refine kr_aload0 d_X10_keep_0 ?_
  refine kr_const (v := 1) d_X10_keep_1 ?_
  refine kr_putI d_X10_keep_2 fp_X10_356 sh_111 rfl (by decide) rfl ?_
  refine kr_hl (fun h1 => ?_)
  refine kr_aload0 d_X10_keep_5 ?_
  refine kr_aload0 d_X10_keep_6 ?_
  refine kr_getR (q := 112) d_X10_keep_7 fl_X10_7 sh_111 rfl ?_
  refine kr_aload0 d_X10_keep_10 ?_
  refine kr_getR (q := 113) d_X10_keep_11 fl_X10_13 sh_111 rfl ?_
  refine kr_iv_u (As := [.ref 112, .ref 113]) d_X10_keep_14 cl_X10_360 (m_X10_setAside 112 3098 sh_112 113 3098 sh_113 h1) sh_111 (Nat.le_of_ble_eq_true rfl) rfl (Nat.le_of_ble_eq_true rfl) (fun h2 => ?_)
  refine kr_aload0 d_X10_keep_17 ?_
  refine kr_getR (q := 112) d_X10_keep_18 fl_X10_7 sh_111 rfl ?_
  refine kr_const (v := 0) d_X10_keep_21 ?_
  refine kr_ialoadC (j := 0) ⟨by decide, by decide, by decide⟩ d_X10_keep_22 sh_112 ?_
  exact kr_ireturn d_X10_keep_23 rfl

/-! X10_back -/
def f_X10_back (h : kv_H) : Option (Int32 × kv_H) :=
  if (h 111 3) = 0 then (some ((-1000000002), h))
  else (kv_b (f_X10_setAside 113 3098 112 3098 h) (fun _ h1 =>
    some ((h1 112 0), h1)))
set_option maxRecDepth 20000 in
theorem m_X10_back (h : kv_H) : kv_M kv_i kK_X10_back [.ref 111] h (f_X10_back h) := by
  refine kv_met (ls := [some (.ref 111)]) (show plainName RX10 = true by decide +kernel) (fun _ => rfl) (fun _ => Nat.le_of_ble_eq_true rfl) ?_
  unfold f_X10_back
  refine kr_aload0 d_X10_back_0 ?_
  refine kr_getI d_X10_back_1 fl_X10_356 sh_111 rfl ?_
  refine kr_if_ne d_X10_back_4 ?_ ?_
  · refine kr_aload0 d_X10_back_10 ?_
    refine kr_aload0 d_X10_back_11 ?_
    refine kr_getR (q := 113) d_X10_back_12 fl_X10_13 sh_111 rfl ?_
    refine kr_aload0 d_X10_back_15 ?_
    refine kr_getR (q := 112) d_X10_back_16 fl_X10_7 sh_111 rfl ?_
    refine kr_iv_u (As := [.ref 113, .ref 112]) d_X10_back_19 cl_X10_360 (m_X10_setAside 113 3098 sh_113 112 3098 sh_112 h) sh_111 (Nat.le_of_ble_eq_true rfl) rfl (Nat.le_of_ble_eq_true rfl) (fun h1 => ?_)
    refine kr_aload0 d_X10_back_22 ?_
    refine kr_getR (q := 112) d_X10_back_23 fl_X10_7 sh_111 rfl ?_
    refine kr_const (v := 0) d_X10_back_26 ?_
    refine kr_ialoadC (j := 0) ⟨by decide, by decide, by decide⟩ d_X10_back_27 sh_112 ?_
    exact kr_ireturn d_X10_back_28 rfl
  · refine kr_const (v := (-1000000002)) d_X10_back_7 ?_
    exact kr_ireturn d_X10_back_9 rfl

/-! X10_count -/
def f_X10_count (x1 : Int32) (h : kv_H) : Option (Int32 × kv_H) :=
  kv_sw x1 [0, 1, 2, 3, 4, 5, 6, 7, 8, 9, 10, 11, 12, 13] [(some ((h 112 0), h)),
  (some ((h 112 2), h)),
  (kv_b (f_X10_vaultBits h) (fun r2 h1 =>
    some (r2, h1))),
  (kv_b (f_X10_knows h) (fun _ h3 =>
    kv_b (f_X10_fullness h3) (fun r5 h4 =>
    some (r5, h4)))),
  (some ((h 112 3), h)),
  (some ((h 112 4), h)),
  (some ((h 112 5), h)),
  (some ((h 112 6), h)),
  (some ((h 112 7), h)),
  (some ((h 112 8), h)),
  (some ((h 112 1), h)),
  (some ((h 111 36), h)),
  (some ((h 111 21), h)),
  (some ((h 112 9), h))] (some ((-1000000001), h))
set_option maxRecDepth 20000 in
theorem m_X10_count (x1 : Int32) (h : kv_H) : kv_M kv_i kK_X10_count [.ref 111, .int x1] h (f_X10_count x1 h) := by
  refine kv_met (ls := [some (.ref 111), some (.int x1)]) (show plainName RX10 = true by decide +kernel) (fun _ => rfl) (fun _ => Nat.le_of_ble_eq_true rfl) ?_
  unfold f_X10_count
  refine kr_iload1 d_X10_count_0 ?_
  refine kr_sw d_X10_count_1 ?_ ⟨?_, ?_, ?_, ?_, ?_, ?_, ?_, ?_, ?_, ?_, ?_, ?_, ?_, ?_, trivial⟩
  · refine kr_const (v := (-1000000001)) d_X10_count_170 ?_
    exact kr_ireturn d_X10_count_172 rfl
  · refine kr_aload0 d_X10_count_72 ?_
    refine kr_getR (q := 112) d_X10_count_73 fl_X10_7 sh_111 rfl ?_
    refine kr_const (v := 0) d_X10_count_76 ?_
    refine kr_ialoadC (j := 0) ⟨by decide, by decide, by decide⟩ d_X10_count_77 sh_112 ?_
    exact kr_ireturn d_X10_count_78 rfl
  · refine kr_aload0 d_X10_count_79 ?_
    refine kr_getR (q := 112) d_X10_count_80 fl_X10_7 sh_111 rfl ?_
    refine kr_const (v := 2) d_X10_count_83 ?_
    refine kr_ialoadC (j := 2) ⟨by decide, by decide, by decide⟩ d_X10_count_84 sh_112 ?_
    exact kr_ireturn d_X10_count_85 rfl
  · refine kr_aload0 d_X10_count_86 ?_
    refine kr_iv_i (As := []) d_X10_count_87 cl_X10_132 (m_X10_vaultBits h) sh_111 (Nat.le_of_ble_eq_true rfl) rfl (Nat.le_of_ble_eq_true rfl) (fun r2 h1 => ?_)
    exact kr_ireturn d_X10_count_90 rfl
  · refine kr_aload0 d_X10_count_91 ?_
    refine kr_iv_u (As := []) d_X10_count_92 cl_X10_182 (m_X10_knows h) sh_111 (Nat.le_of_ble_eq_true rfl) rfl (Nat.le_of_ble_eq_true rfl) (fun h3 => ?_)
    refine kr_aload0 d_X10_count_95 ?_
    refine kr_iv_i (As := []) d_X10_count_96 cl_X10_167 (m_X10_fullness h3) sh_111 (Nat.le_of_ble_eq_true rfl) rfl (Nat.le_of_ble_eq_true rfl) (fun r5 h4 => ?_)
    exact kr_ireturn d_X10_count_99 rfl
  · refine kr_aload0 d_X10_count_100 ?_
    refine kr_getR (q := 112) d_X10_count_101 fl_X10_7 sh_111 rfl ?_
    refine kr_const (v := 3) d_X10_count_104 ?_
    refine kr_ialoadC (j := 3) ⟨by decide, by decide, by decide⟩ d_X10_count_105 sh_112 ?_
    exact kr_ireturn d_X10_count_106 rfl
  · refine kr_aload0 d_X10_count_107 ?_
    refine kr_getR (q := 112) d_X10_count_108 fl_X10_7 sh_111 rfl ?_
    refine kr_const (v := 4) d_X10_count_111 ?_
    refine kr_ialoadC (j := 4) ⟨by decide, by decide, by decide⟩ d_X10_count_112 sh_112 ?_
    exact kr_ireturn d_X10_count_113 rfl
  · refine kr_aload0 d_X10_count_114 ?_
    refine kr_getR (q := 112) d_X10_count_115 fl_X10_7 sh_111 rfl ?_
    refine kr_const (v := 5) d_X10_count_118 ?_
    refine kr_ialoadC (j := 5) ⟨by decide, by decide, by decide⟩ d_X10_count_119 sh_112 ?_
    exact kr_ireturn d_X10_count_120 rfl
  · refine kr_aload0 d_X10_count_121 ?_
    refine kr_getR (q := 112) d_X10_count_122 fl_X10_7 sh_111 rfl ?_
    refine kr_const (v := 6) d_X10_count_125 ?_
    refine kr_ialoadC (j := 6) ⟨by decide, by decide, by decide⟩ d_X10_count_127 sh_112 ?_
    exact kr_ireturn d_X10_count_128 rfl
  · refine kr_aload0 d_X10_count_129 ?_
    refine kr_getR (q := 112) d_X10_count_130 fl_X10_7 sh_111 rfl ?_
    refine kr_const (v := 7) d_X10_count_133 ?_
    refine kr_ialoadC (j := 7) ⟨by decide, by decide, by decide⟩ d_X10_count_135 sh_112 ?_
    exact kr_ireturn d_X10_count_136 rfl
  · refine kr_aload0 d_X10_count_137 ?_
    refine kr_getR (q := 112) d_X10_count_138 fl_X10_7 sh_111 rfl ?_
    refine kr_const (v := 8) d_X10_count_141 ?_
    refine kr_ialoadC (j := 8) ⟨by decide, by decide, by decide⟩ d_X10_count_143 sh_112 ?_
    exact kr_ireturn d_X10_count_144 rfl
  · refine kr_aload0 d_X10_count_145 ?_
    refine kr_getR (q := 112) d_X10_count_146 fl_X10_7 sh_111 rfl ?_
    refine kr_const (v := 1) d_X10_count_149 ?_
    refine kr_ialoadC (j := 1) ⟨by decide, by decide, by decide⟩ d_X10_count_150 sh_112 ?_
    exact kr_ireturn d_X10_count_151 rfl
  · refine kr_aload0 d_X10_count_152 ?_
    refine kr_getI d_X10_count_153 fl_X10_351 sh_111 rfl ?_
    exact kr_ireturn d_X10_count_156 rfl
  · refine kr_aload0 d_X10_count_157 ?_
    refine kr_getI d_X10_count_158 fl_X10_235 sh_111 rfl ?_
    exact kr_ireturn d_X10_count_161 rfl
  · refine kr_aload0 d_X10_count_162 ?_
    refine kr_getR (q := 112) d_X10_count_163 fl_X10_7 sh_111 rfl ?_
    refine kr_const (v := 9) d_X10_count_166 ?_
    refine kr_ialoadC (j := 9) ⟨by decide, by decide, by decide⟩ d_X10_count_168 sh_112 ?_
    exact kr_ireturn d_X10_count_169 rfl


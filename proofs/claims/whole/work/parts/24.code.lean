/-! X9_gap -/
def f_X9_gap_L79 (c1 : Int32) (c2 : Int32) (c3 : Int32) (c4 : Int32) : Nat → Int32 → Int32 → Int32 → kv_H → (Int32 → Int32 → kv_H → Option (Int32 × kv_H)) → Option (Int32 × kv_H)
  | 0, _, _, _, _, _ => none
  | n + 1, v5, v6, v7, h, C => if c4 ≤ v7 then (C v5 v6 h)
    else (kv_jn (fun (y5 : Int32) (h6 : kv_H) =>
      kv_hl (kv_up h6 2 0 y5) (fun h7 =>
        kv_z c3 (kv_hl (kv_up h7 2 1 (v7 - v7 / c3 * c3)) (fun h8 =>
        kv_b (f_X0_becomes 6 91 h8) (fun _ h9 =>
        kv_b (f_X2_foresee 79 2 2 c1 h9) (fun _ h10 =>
        kv_b (f_X8_makeAskings 79 6 2 2 c1 h10) (fun r12 h11 =>
        kv_vl (r12 - (h11 44 2)) (fun e13 =>
        kv_jn (fun  (h14 : kv_H) =>
        if c1 = (1 : Int32) then (f_X9_gap_L79 c1 c2 c3 c4 n e13 v7 (v7 + 1) h14 C)
          else (kv_vl ((10 * (h14 2 0)) + (h14 2 1)) (fun e15 =>
            f_X9_gap_L79 c1 c2 c3 c4 n e13 e15 (v7 + 1) h14 C))) (fun (J190 : kv_H → Option (Int32 × kv_H)) =>
        if v6 = (-1000000005 : Int32) then (J190 h11)
        else (if e13 ≤ v5 then (f_X9_gap_L79 c1 c2 c3 c4 n v5 v6 (v7 + 1) h11 C)
          else (J190 h11))))))))))) (fun (J105 : Int32 → kv_H → Option (Int32 × kv_H)) =>
      if c1 = (1 : Int32) then (J105 v7 h)
      else (kv_z c3 (J105 (v7 / c3) h))))
def f_X9_gap (x1 : Int32) (x2 : Int32) (h : kv_H) : Option (Int32 × kv_H) :=
  if x1 < (1 : Int32) then (some ((-1000000001), h))
  else (if (2 : Int32) < x1 then (some ((-1000000001), h))
    else (if x2 < 0 then (some ((-1000000001), h))
      else (if x2 ≤ (1 : Int32) then (kv_vl (h 82 8) (fun e1 =>
          if (1 : Int32) ≤ e1 then (kv_b (f_X2_fillRooms 82 h) (fun _ h2 =>
            kv_jn (fun (y3 : Int32) (h4 : kv_H) =>
            f_X9_gap_L79 x1 x2 e1 y3 kv_fu 0 (-1000000005) 0 h4 (fun z16 z17 h18 =>
              if x2 = 0 then (some (z16, h18))
                else (some (z17, h18)))) (fun (J67 : Int32 → kv_H → Option (Int32 × kv_H)) =>
            if x1 = (1 : Int32) then (J67 e1 h2)
            else (J67 (e1 * e1) h2))))
          else (some ((-1000000005), h))))
        else (some ((-1000000001), h)))))
set_option maxRecDepth 20000 in
theorem s_f_X9_gap_L79 (c1 : Int32) (c2 : Int32) (c3 : Int32) (c4 : Int32) : ∀ (n : Nat) (v5 : Int32) (v6 : Int32) (v7 : Int32) (h : kv_H) (C : Int32 → Int32 → kv_H → Option (Int32 × kv_H)), (∀ (w5 : Int32) (w6 : Int32) (h : kv_H), kv_S kv_i kK_X9_gap 228 [none, none, some (.int c2), none, none, some (.int w5), some (.int w6), none, none] [] h (C w5 w6 h)) → kv_S kv_i kK_X9_gap 79 [some (.ref 0), some (.int c1), some (.int c2), some (.int c3), some (.int c4), some (.int v5), some (.int v6), some (.int v7), none] [] h (f_X9_gap_L79 c1 c2 c3 c4 n v5 v6 v7 h C) := by
  intro n
  induction n with
  | zero => intros; exact kv_none
  | succ n ih =>
    intro v5 v6 v7 h C hC
    unfold f_X9_gap_L79
    refine kr_iload7 d_X9_gap_79 ?_
    refine kr_iload4 d_X9_gap_81 ?_
    refine kr_icmp_ge d_X9_gap_83 ?_ ?_
    · refine kr_kill0 ?_
      refine kr_kill1 ?_
      refine kr_kill3 ?_
      refine kr_kill4 ?_
      refine kr_kill7 ?_
      exact hC v5 v6 h
    · refine kr_aload0 d_X9_gap_86 ?_
      refine kr_getR (q := 2) d_X9_gap_87 fl_X9_48 sh_0 rfl ?_
      refine kr_const (v := 0) d_X9_gap_90 ?_
      refine kr_iload1 d_X9_gap_91 ?_
      refine kr_const (v := 1) d_X9_gap_92 ?_
      refine kr_jn (P := fun J105 => ∀ (y5 : Int32), ∀ (h6 : kv_H), kv_S kv_i kK_X9_gap 105 [some (.ref 0), some (.int c1), some (.int c2), some (.int c3), some (.int c4), some (.int v5), some (.int v6), some (.int v7), none] [.int y5, .int 0, .ref 2] h6 (J105 y5 h6)) (fun y5 h6 => ?_) (fun J105 hJ105 => ?_)
      · refine kr_iastoreC (j := 0) ⟨by decide, by decide, by decide⟩ d_X9_gap_105 sh_2 ?_
        refine kr_hl (fun h7 => ?_)
        refine kr_aload0 d_X9_gap_106 ?_
        refine kr_getR (q := 2) d_X9_gap_107 fl_X9_48 sh_0 rfl ?_
        refine kr_const (v := 1) d_X9_gap_110 ?_
        refine kr_iload7 d_X9_gap_111 ?_
        refine kr_iload3 d_X9_gap_113 ?_
        refine kr_irem d_X9_gap_114 ?_
        refine kr_iastoreC (j := 1) ⟨by decide, by decide, by decide⟩ d_X9_gap_115 sh_2 ?_
        refine kr_hl (fun h8 => ?_)
        refine kr_aload0 d_X9_gap_116 ?_
        refine kr_getR (q := 1) d_X9_gap_117 fl_X9_44 sh_0 rfl ?_
        refine kr_const (v := 0) d_X9_gap_120 ?_
        refine kr_aaloadC (j := 0) (q := 6) ⟨by decide, by decide, by decide⟩ rfl d_X9_gap_121 sh_1 (Or.inl rfl) ?_
        refine kr_aload0 d_X9_gap_122 ?_
        refine kr_getR (q := 79) d_X9_gap_123 fl_X9_21 sh_0 rfl ?_
        refine kr_getR (q := 91) d_X9_gap_126 fl_X9_109 sh_79 rfl ?_
        refine kr_iv_u (As := [.ref 91]) d_X9_gap_129 cl_X9_220 (m_X0_becomes 6 co_6 91 co_91 h8) sh_6 (Nat.le_of_ble_eq_true rfl) rfl (Nat.le_of_ble_eq_true rfl) (fun h9 => ?_)
        refine kr_aload0 d_X9_gap_132 ?_
        refine kr_getR (q := 44) d_X9_gap_133 fl_X9_38 sh_0 rfl ?_
        refine kr_aload0 d_X9_gap_136 ?_
        refine kr_getR (q := 79) d_X9_gap_137 fl_X9_21 sh_0 rfl ?_
        refine kr_aload0 d_X9_gap_140 ?_
        refine kr_getR (q := 2) d_X9_gap_141 fl_X9_48 sh_0 rfl ?_
        refine kr_iload1 d_X9_gap_144 ?_
        refine kr_iv_u (As := [.ref 79, .ref 2, .int c1]) d_X9_gap_145 cl_X9_228 (m_X2_foresee 79 wo_79 2 2 sh_2 c1 h9) sh_44 (Nat.le_of_ble_eq_true rfl) rfl (Nat.le_of_ble_eq_true rfl) (fun h10 => ?_)
        refine kr_aload0 d_X9_gap_148 ?_
        refine kr_getR (q := 79) d_X9_gap_149 fl_X9_21 sh_0 rfl ?_
        refine kr_aload0 d_X9_gap_152 ?_
        refine kr_getR (q := 1) d_X9_gap_153 fl_X9_44 sh_0 rfl ?_
        refine kr_const (v := 0) d_X9_gap_156 ?_
        refine kr_aaloadC (j := 0) (q := 6) ⟨by decide, by decide, by decide⟩ rfl d_X9_gap_157 sh_1 (Or.inl rfl) ?_
        refine kr_aload0 d_X9_gap_158 ?_
        refine kr_getR (q := 2) d_X9_gap_159 fl_X9_48 sh_0 rfl ?_
        refine kr_iload1 d_X9_gap_162 ?_
        refine kr_iv_i (As := [.ref 6, .ref 2, .int c1]) d_X9_gap_163 cl_X9_216 (m_X8_makeAskings 79 wo_79 6 co_6 2 2 sh_2 c1 h10) sh_79 (Nat.le_of_ble_eq_true rfl) rfl (Nat.le_of_ble_eq_true rfl) (fun r12 h11 => ?_)
        refine kr_aload0 d_X9_gap_166 ?_
        refine kr_getR (q := 44) d_X9_gap_167 fl_X9_38 sh_0 rfl ?_
        refine kr_getI d_X9_gap_170 fl_X9_232 sh_44 rfl ?_
        refine kr_isub d_X9_gap_173 ?_
        refine kr_vl (fun e13 => ?_)
        refine kr_istore8 d_X9_gap_174 (Nat.le_of_ble_eq_true rfl) kv_c1i ?_
        refine kr_iload6 d_X9_gap_176 ?_
        refine kr_const (v := (-1000000005)) d_X9_gap_178 ?_
        refine kr_jn (P := fun J190 =>  ∀ (h14 : kv_H), kv_S kv_i kK_X9_gap 190 [some (.ref 0), some (.int c1), some (.int c2), some (.int c3), some (.int c4), none, none, some (.int v7), some (.int e13)] [] h14 (J190  h14)) (fun  h14 => ?_) (fun J190 hJ190 => ?_)
        · refine kr_iload8 d_X9_gap_190 ?_
          refine kr_istore5 d_X9_gap_192 (Nat.le_of_ble_eq_true rfl) kv_c1i ?_
          refine kr_iload1 d_X9_gap_194 ?_
          refine kr_const (v := 1) d_X9_gap_195 ?_
          refine kr_icmp_ne d_X9_gap_196 ?_ ?_
          · refine kr_const (v := 10) d_X9_gap_204 ?_
            refine kr_aload0 d_X9_gap_206 ?_
            refine kr_getR (q := 2) d_X9_gap_207 fl_X9_48 sh_0 rfl ?_
            refine kr_const (v := 0) d_X9_gap_210 ?_
            refine kr_ialoadC (j := 0) ⟨by decide, by decide, by decide⟩ d_X9_gap_211 sh_2 ?_
            refine kr_imul d_X9_gap_212 ?_
            refine kr_aload0 d_X9_gap_213 ?_
            refine kr_getR (q := 2) d_X9_gap_214 fl_X9_48 sh_0 rfl ?_
            refine kr_const (v := 1) d_X9_gap_217 ?_
            refine kr_ialoadC (j := 1) ⟨by decide, by decide, by decide⟩ d_X9_gap_218 sh_2 ?_
            refine kr_iadd d_X9_gap_219 ?_
            refine kr_vl (fun e15 => ?_)
            refine kr_istore6 d_X9_gap_220 (Nat.le_of_ble_eq_true rfl) kv_c1i ?_
            refine kr_iinc7 d_X9_gap_222 (Nat.le_of_ble_eq_true rfl) kv_c1i ?_
            refine kr_goto d_X9_gap_225 ?_
            refine kr_kill8 ?_
            exact ih e13 e15 (v7 + 1) h14 C hC
          · refine kr_iload7 d_X9_gap_199 ?_
            refine kr_goto d_X9_gap_201 ?_
            refine kr_istore6 d_X9_gap_220 (Nat.le_of_ble_eq_true rfl) kv_c1i ?_
            refine kr_iinc7 d_X9_gap_222 (Nat.le_of_ble_eq_true rfl) kv_c1i ?_
            refine kr_goto d_X9_gap_225 ?_
            refine kr_kill8 ?_
            exact ih e13 v7 (v7 + 1) h14 C hC
        refine kr_icmp_eq d_X9_gap_180 ?_ ?_
        · refine kr_kill5 ?_
          refine kr_kill6 ?_
          exact hJ190 h11
        · refine kr_iload8 d_X9_gap_183 ?_
          refine kr_iload5 d_X9_gap_185 ?_
          refine kr_icmp_le d_X9_gap_187 ?_ ?_
          · refine kr_iinc7 d_X9_gap_222 (Nat.le_of_ble_eq_true rfl) kv_c1i ?_
            refine kr_goto d_X9_gap_225 ?_
            refine kr_kill8 ?_
            exact ih v5 v6 (v7 + 1) h11 C hC
          · refine kr_kill5 ?_
            refine kr_kill6 ?_
            exact hJ190 h11
      refine kr_icmp_ne d_X9_gap_93 ?_ ?_
      · refine kr_iload7 d_X9_gap_101 ?_
        refine kr_iload3 d_X9_gap_103 ?_
        refine kr_idiv d_X9_gap_104 ?_
        exact hJ105 (v7 / c3) h
      · refine kr_iload7 d_X9_gap_96 ?_
        refine kr_goto d_X9_gap_98 ?_
        exact hJ105 v7 h

set_option maxRecDepth 20000 in
theorem m_X9_gap (x1 : Int32) (x2 : Int32) (h : kv_H) : kv_M kv_i kK_X9_gap [.ref 0, .int x1, .int x2] h (f_X9_gap x1 x2 h) := by
  refine kv_met (ls := [some (.ref 0), some (.int x1), some (.int x2), none, none, none, none, none, none]) (show plainName RX9 = true by decide +kernel) (fun _ => rfl) (fun _ => Nat.le_of_ble_eq_true rfl) ?_
  unfold f_X9_gap
  refine kr_iload1 d_X9_gap_0 ?_
  refine kr_const (v := 1) d_X9_gap_1 ?_
  refine kr_icmp_lt d_X9_gap_2 ?_ ?_
  · refine kr_const (v := (-1000000001)) d_X9_gap_19 ?_
    exact kr_ireturn d_X9_gap_21 rfl
  · refine kr_iload1 d_X9_gap_5 ?_
    refine kr_const (v := 2) d_X9_gap_6 ?_
    refine kr_icmp_gt d_X9_gap_7 ?_ ?_
    · refine kr_const (v := (-1000000001)) d_X9_gap_19 ?_
      exact kr_ireturn d_X9_gap_21 rfl
    · refine kr_iload2 d_X9_gap_10 ?_
      refine kr_if_lt d_X9_gap_11 ?_ ?_
      · refine kr_const (v := (-1000000001)) d_X9_gap_19 ?_
        exact kr_ireturn d_X9_gap_21 rfl
      · refine kr_iload2 d_X9_gap_14 ?_
        refine kr_const (v := 1) d_X9_gap_15 ?_
        refine kr_icmp_le d_X9_gap_16 ?_ ?_
        · refine kr_aload0 d_X9_gap_22 ?_
          refine kr_getR (q := 79) d_X9_gap_23 fl_X9_21 sh_0 rfl ?_
          refine kr_getR (q := 82) d_X9_gap_26 fl_X9_80 sh_79 rfl ?_
          refine kr_getI d_X9_gap_29 fl_X9_84 sh_82 rfl ?_
          refine kr_vl (fun e1 => ?_)
          refine kr_istore3 d_X9_gap_32 (Nat.le_of_ble_eq_true rfl) kv_c1i ?_
          refine kr_iload3 d_X9_gap_33 ?_
          refine kr_const (v := 1) d_X9_gap_34 ?_
          refine kr_icmp_ge d_X9_gap_35 ?_ ?_
          · refine kr_aload0 d_X9_gap_41 ?_
            refine kr_getR (q := 44) d_X9_gap_42 fl_X9_38 sh_0 rfl ?_
            refine kr_aload0 d_X9_gap_45 ?_
            refine kr_getR (q := 79) d_X9_gap_46 fl_X9_21 sh_0 rfl ?_
            refine kr_getR (q := 82) d_X9_gap_49 fl_X9_80 sh_79 rfl ?_
            refine kr_iv_u (As := [.ref 82]) d_X9_gap_52 cl_X9_224 (m_X2_fillRooms 82 le_82 h) sh_44 (Nat.le_of_ble_eq_true rfl) rfl (Nat.le_of_ble_eq_true rfl) (fun h2 => ?_)
            refine kr_iload1 d_X9_gap_55 ?_
            refine kr_const (v := 1) d_X9_gap_56 ?_
            refine kr_jn (P := fun J67 => ∀ (y3 : Int32), ∀ (h4 : kv_H), kv_S kv_i kK_X9_gap 67 [some (.ref 0), some (.int x1), some (.int x2), some (.int e1), none, none, none, none, none] [.int y3] h4 (J67 y3 h4)) (fun y3 h4 => ?_) (fun J67 hJ67 => ?_)
            · refine kr_istore4 d_X9_gap_67 (Nat.le_of_ble_eq_true rfl) kv_c1i ?_
              refine kr_const (v := 0) d_X9_gap_69 ?_
              refine kr_istore5 d_X9_gap_70 (Nat.le_of_ble_eq_true rfl) kv_c1i ?_
              refine kr_const (v := (-1000000005)) d_X9_gap_72 ?_
              refine kr_istore6 d_X9_gap_74 (Nat.le_of_ble_eq_true rfl) kv_c1i ?_
              refine kr_const (v := 0) d_X9_gap_76 ?_
              refine kr_istore7 d_X9_gap_77 (Nat.le_of_ble_eq_true rfl) kv_c1i ?_
              refine s_f_X9_gap_L79 x1 x2 e1 y3 kv_fu 0 (-1000000005) 0 h4 _ (fun z16 z17 h18 => ?_)
              refine kr_iload2 d_X9_gap_228 ?_
              refine kr_if_ne d_X9_gap_229 ?_ ?_
              · refine kr_iload6 d_X9_gap_237 ?_
                exact kr_ireturn d_X9_gap_239 rfl
              · refine kr_iload5 d_X9_gap_232 ?_
                refine kr_goto d_X9_gap_234 ?_
                exact kr_ireturn d_X9_gap_239 rfl
            refine kr_icmp_ne d_X9_gap_57 ?_ ?_
            · refine kr_iload3 d_X9_gap_64 ?_
              refine kr_iload3 d_X9_gap_65 ?_
              refine kr_imul d_X9_gap_66 ?_
              exact hJ67 (e1 * e1) h2
            · refine kr_iload3 d_X9_gap_60 ?_
              refine kr_goto d_X9_gap_61 ?_
              exact hJ67 e1 h2
          · refine kr_const (v := (-1000000005)) d_X9_gap_38 ?_
            exact kr_ireturn d_X9_gap_40 rfl
        · refine kr_const (v := (-1000000001)) d_X9_gap_19 ?_
          exact kr_ireturn d_X9_gap_21 rfl

/-! X9_feed -/
def f_X9_feed (x1 : Int32) (x2 : Int32) (x3 : Int32) (h : kv_H) : Option (Int32 × kv_H) :=
  if ((h 41 1) + 12) ≤ (96 : Int32) then (kv_b (f_X5_addBytes x1 h) (fun _ h1 =>
    kv_b (f_X5_addBytes x2 h1) (fun _ h2 =>
    kv_b (f_X5_addBytes x3 h2) (fun _ h3 =>
    some ((h3 41 1), h3)))))
  else (some ((-1000000003), h))
set_option maxRecDepth 20000 in
theorem m_X9_feed (x1 : Int32) (x2 : Int32) (x3 : Int32) (h : kv_H) : kv_M kv_i kK_X9_feed [.ref 0, .int x1, .int x2, .int x3] h (f_X9_feed x1 x2 x3 h) := by
  refine kv_met (ls := [some (.ref 0), some (.int x1), some (.int x2), some (.int x3)]) (show plainName RX9 = true by decide +kernel) (fun _ => rfl) (fun _ => Nat.le_of_ble_eq_true rfl) ?_
  unfold f_X9_feed
  refine kr_aload0 d_X9_feed_0 ?_
  refine kr_getR (q := 41) d_X9_feed_1 fl_X9_31 sh_0 rfl ?_
  refine kr_getI d_X9_feed_4 fl_X9_255 sh_41 rfl ?_
  refine kr_const (v := 12) d_X9_feed_7 ?_
  refine kr_iadd d_X9_feed_9 ?_
  refine kr_const (v := 96) d_X9_feed_10 ?_
  refine kr_icmp_le d_X9_feed_12 ?_ ?_
  · refine kr_aload0 d_X9_feed_18 ?_
    refine kr_getR (q := 41) d_X9_feed_19 fl_X9_31 sh_0 rfl ?_
    refine kr_iload1 d_X9_feed_22 ?_
    refine kr_iv_u (As := [.int x1]) d_X9_feed_23 cl_X9_258 (m_X5_addBytes x1 h) sh_41 (Nat.le_of_ble_eq_true rfl) rfl (Nat.le_of_ble_eq_true rfl) (fun h1 => ?_)
    refine kr_aload0 d_X9_feed_26 ?_
    refine kr_getR (q := 41) d_X9_feed_27 fl_X9_31 sh_0 rfl ?_
    refine kr_iload2 d_X9_feed_30 ?_
    refine kr_iv_u (As := [.int x2]) d_X9_feed_31 cl_X9_258 (m_X5_addBytes x2 h1) sh_41 (Nat.le_of_ble_eq_true rfl) rfl (Nat.le_of_ble_eq_true rfl) (fun h2 => ?_)
    refine kr_aload0 d_X9_feed_34 ?_
    refine kr_getR (q := 41) d_X9_feed_35 fl_X9_31 sh_0 rfl ?_
    refine kr_iload3 d_X9_feed_38 ?_
    refine kr_iv_u (As := [.int x3]) d_X9_feed_39 cl_X9_258 (m_X5_addBytes x3 h2) sh_41 (Nat.le_of_ble_eq_true rfl) rfl (Nat.le_of_ble_eq_true rfl) (fun h3 => ?_)
    refine kr_aload0 d_X9_feed_42 ?_
    refine kr_getR (q := 41) d_X9_feed_43 fl_X9_31 sh_0 rfl ?_
    refine kr_getI d_X9_feed_46 fl_X9_255 sh_41 rfl ?_
    exact kr_ireturn d_X9_feed_49 rfl
  · refine kr_const (v := (-1000000003)) d_X9_feed_15 ?_
    exact kr_ireturn d_X9_feed_17 rfl

/-! X9_trim -/
def f_X9_trim (x1 : Int32) (h : kv_H) : Option (Int32 × kv_H) :=
  if x1 < 0 then (some ((-1000000001), h))
  else (if x1 ≤ (h 41 1) then (kv_hl (kv_up h 41 1 x1) (fun h1 =>
      some (x1, h1)))
    else (some ((-1000000001), h)))
set_option maxRecDepth 20000 in
theorem m_X9_trim (x1 : Int32) (h : kv_H) : kv_M kv_i kK_X9_trim [.ref 0, .int x1] h (f_X9_trim x1 h) := by
  refine kv_met (ls := [some (.ref 0), some (.int x1)]) (show plainName RX9 = true by decide +kernel) (fun _ => rfl) (fun _ => Nat.le_of_ble_eq_true rfl) ?_
  unfold f_X9_trim
  refine kr_iload1 d_X9_trim_0 ?_
  refine kr_if_lt d_X9_trim_1 ?_ ?_
  · refine kr_const (v := (-1000000001)) d_X9_trim_15 ?_
    exact kr_ireturn d_X9_trim_17 rfl
  · refine kr_iload1 d_X9_trim_4 ?_
    refine kr_aload0 d_X9_trim_5 ?_
    refine kr_getR (q := 41) d_X9_trim_6 fl_X9_31 sh_0 rfl ?_
    refine kr_getI d_X9_trim_9 fl_X9_255 sh_41 rfl ?_
    refine kr_icmp_le d_X9_trim_12 ?_ ?_
    · refine kr_aload0 d_X9_trim_18 ?_
      refine kr_getR (q := 41) d_X9_trim_19 fl_X9_31 sh_0 rfl ?_
      refine kr_iload1 d_X9_trim_22 ?_
      refine kr_putI d_X9_trim_23 fp_X9_255 sh_41 rfl rfl rfl ?_
      refine kr_hl (fun h1 => ?_)
      refine kr_iload1 d_X9_trim_26 ?_
      exact kr_ireturn d_X9_trim_27 rfl
    · refine kr_const (v := (-1000000001)) d_X9_trim_15 ?_
      exact kr_ireturn d_X9_trim_17 rfl

/-! X9_text -/
def f_X9_text (h : kv_H) : Option (Int32 × kv_H) :=
  kv_b (f_X5_parse h) (fun r2 h1 =>
  kv_hl (kv_up h1 41 1 0) (fun h3 =>
  if r2 < 0 then (if (h3 79 6) < (14 : Int32) then (kv_vl (h3 79 6) (fun e4 =>
      kv_k e4 14 (kv_b (f_X6_becomes (51 + 2 * e4.toNatClampNeg) h3) (fun _ h6 =>
      kv_k (h6 41 4) 3 (kv_hl (kv_up h6 81 (h6 41 4).toNatClampNeg e4) (fun h7 =>
      kv_hl (kv_up h7 79 6 (e4 + 1)) (fun h8 =>
      kv_b (f_X8_weighAll 79 h8) (fun _ h9 =>
      some (e4, h9)))))))))
    else (some ((-1000000003), h3)))
  else (some (((-100) - r2), h3))))
set_option maxRecDepth 20000 in
theorem m_X9_text (h : kv_H) : kv_M kv_i kK_X9_text [.ref 0] h (f_X9_text h) := by
  refine kv_met (ls := [some (.ref 0), none, none]) (show plainName RX9 = true by decide +kernel) (fun _ => rfl) (fun _ => Nat.le_of_ble_eq_true rfl) ?_
  unfold f_X9_text
  refine kr_aload0 d_X9_text_0 ?_
  refine kr_getR (q := 41) d_X9_text_1 fl_X9_31 sh_0 rfl ?_
  refine kr_iv_i (As := []) d_X9_text_4 cl_X9_262 (m_X5_parse h) sh_41 (Nat.le_of_ble_eq_true rfl) rfl (Nat.le_of_ble_eq_true rfl) (fun r2 h1 => ?_)
  refine kr_istore1 d_X9_text_7 (Nat.le_of_ble_eq_true rfl) kv_c1a ?_
  refine kr_aload0 d_X9_text_8 ?_
  refine kr_getR (q := 41) d_X9_text_9 fl_X9_31 sh_0 rfl ?_
  refine kr_const (v := 0) d_X9_text_12 ?_
  refine kr_putI d_X9_text_13 fp_X9_255 sh_41 rfl rfl rfl ?_
  refine kr_hl (fun h3 => ?_)
  refine kr_iload1 d_X9_text_16 ?_
  refine kr_if_lt d_X9_text_17 ?_ ?_
  · refine kr_aload0 d_X9_text_25 ?_
    refine kr_getR (q := 79) d_X9_text_26 fl_X9_21 sh_0 rfl ?_
    refine kr_getI d_X9_text_29 fl_X9_265 sh_79 rfl ?_
    refine kr_const (v := 14) d_X9_text_32 ?_
    refine kr_icmp_lt d_X9_text_34 ?_ ?_
    · refine kr_aload0 d_X9_text_40 ?_
      refine kr_getR (q := 79) d_X9_text_41 fl_X9_21 sh_0 rfl ?_
      refine kr_getI d_X9_text_44 fl_X9_265 sh_79 rfl ?_
      refine kr_vl (fun e4 => ?_)
      refine kr_istore2 d_X9_text_47 (Nat.le_of_ble_eq_true rfl) kv_c1i ?_
      refine kr_aload0 d_X9_text_48 ?_
      refine kr_getR (q := 47) d_X9_text_49 fl_X9_12 sh_0 rfl ?_
      refine kr_getR (q := 48) d_X9_text_52 fl_X9_268 sh_47 rfl ?_
      refine kr_iload2 d_X9_text_55 ?_
      refine kr_aaload d_X9_text_56 sh_48 (Or.inr (Or.inr (Or.inr rfl))) (fun hi5 => ?_)
      refine kr_aload0 d_X9_text_57 ?_
      refine kr_getR (q := 41) d_X9_text_58 fl_X9_31 sh_0 rfl ?_
      refine kr_iv_u (As := [.ref 41]) d_X9_text_61 cl_X9_272 (m_X6_becomes (51 + 2 * e4.toNatClampNeg) (kv_Te_at hi5) h3) (kv_Te_at hi5).1 (Nat.le_of_ble_eq_true rfl) rfl (Nat.le_of_ble_eq_true rfl) (fun h6 => ?_)
      refine kr_aload0 d_X9_text_64 ?_
      refine kr_getR (q := 79) d_X9_text_65 fl_X9_21 sh_0 rfl ?_
      refine kr_getR (q := 81) d_X9_text_68 fl_X9_277 sh_79 rfl ?_
      refine kr_aload0 d_X9_text_71 ?_
      refine kr_getR (q := 41) d_X9_text_72 fl_X9_31 sh_0 rfl ?_
      refine kr_getI d_X9_text_75 fl_X9_280 sh_41 rfl ?_
      refine kr_iload2 d_X9_text_78 ?_
      refine kr_iastore d_X9_text_79 sh_81 ?_
      refine kr_hl (fun h7 => ?_)
      refine kr_aload0 d_X9_text_80 ?_
      refine kr_getR (q := 79) d_X9_text_81 fl_X9_21 sh_0 rfl ?_
      refine kr_iload2 d_X9_text_84 ?_
      refine kr_const (v := 1) d_X9_text_85 ?_
      refine kr_iadd d_X9_text_86 ?_
      refine kr_putI d_X9_text_87 fp_X9_265 sh_79 rfl rfl rfl ?_
      refine kr_hl (fun h8 => ?_)
      refine kr_aload0 d_X9_text_90 ?_
      refine kr_getR (q := 79) d_X9_text_91 fl_X9_21 sh_0 rfl ?_
      refine kr_iv_u (As := []) d_X9_text_94 cl_X9_103 (m_X8_weighAll 79 wo_79 h8) sh_79 (Nat.le_of_ble_eq_true rfl) rfl (Nat.le_of_ble_eq_true rfl) (fun h9 => ?_)
      refine kr_iload2 d_X9_text_97 ?_
      exact kr_ireturn d_X9_text_98 rfl
    · refine kr_const (v := (-1000000003)) d_X9_text_37 ?_
      exact kr_ireturn d_X9_text_39 rfl
  · refine kr_const (v := (-100)) d_X9_text_20 ?_
    refine kr_iload1 d_X9_text_22 ?_
    refine kr_isub d_X9_text_23 ?_
    exact kr_ireturn d_X9_text_24 rfl

/-! X9_textTold -/
def f_X9_textTold (x1 : Int32) (x2 : Int32) (h : kv_H) : Option (Int32 × kv_H) :=
  if x1 < 0 then (some ((-1000000001), h))
  else (if (h 79 6) ≤ x1 then (some ((-1000000001), h))
    else (if x2 < 0 then (some ((-1000000001), h))
      else (if x2 ≤ (1 : Int32) then (if x2 = 0 then (kv_k x1 14 (some ((h (51 + 2 * x1.toNatClampNeg) 2), h)))
          else (kv_k x1 14 (some ((h (51 + 2 * x1.toNatClampNeg) 3), h))))
        else (some ((-1000000001), h)))))
set_option maxRecDepth 20000 in
theorem m_X9_textTold (x1 : Int32) (x2 : Int32) (h : kv_H) : kv_M kv_i kK_X9_textTold [.ref 0, .int x1, .int x2] h (f_X9_textTold x1 x2 h) := by
  refine kv_met (ls := [some (.ref 0), some (.int x1), some (.int x2)]) (show plainName RX9 = true by decide +kernel) (fun _ => rfl) (fun _ => Nat.le_of_ble_eq_true rfl) ?_
  unfold f_X9_textTold
  refine kr_iload1 d_X9_textTold_0 ?_
  refine kr_if_lt d_X9_textTold_1 ?_ ?_
  · refine kr_const (v := (-1000000001)) d_X9_textTold_24 ?_
    exact kr_ireturn d_X9_textTold_26 rfl
  · refine kr_iload1 d_X9_textTold_4 ?_
    refine kr_aload0 d_X9_textTold_5 ?_
    refine kr_getR (q := 79) d_X9_textTold_6 fl_X9_21 sh_0 rfl ?_
    refine kr_getI d_X9_textTold_9 fl_X9_265 sh_79 rfl ?_
    refine kr_icmp_ge d_X9_textTold_12 ?_ ?_
    · refine kr_const (v := (-1000000001)) d_X9_textTold_24 ?_
      exact kr_ireturn d_X9_textTold_26 rfl
    · refine kr_iload2 d_X9_textTold_15 ?_
      refine kr_if_lt d_X9_textTold_16 ?_ ?_
      · refine kr_const (v := (-1000000001)) d_X9_textTold_24 ?_
        exact kr_ireturn d_X9_textTold_26 rfl
      · refine kr_iload2 d_X9_textTold_19 ?_
        refine kr_const (v := 1) d_X9_textTold_20 ?_
        refine kr_icmp_le d_X9_textTold_21 ?_ ?_
        · refine kr_iload2 d_X9_textTold_27 ?_
          refine kr_if_ne d_X9_textTold_28 ?_ ?_
          · refine kr_aload0 d_X9_textTold_46 ?_
            refine kr_getR (q := 47) d_X9_textTold_47 fl_X9_12 sh_0 rfl ?_
            refine kr_getR (q := 48) d_X9_textTold_50 fl_X9_268 sh_47 rfl ?_
            refine kr_iload1 d_X9_textTold_53 ?_
            refine kr_aaload d_X9_textTold_54 sh_48 (Or.inr (Or.inr (Or.inr rfl))) (fun hi1 => ?_)
            refine kr_getI d_X9_textTold_55 fl_X9_284 (kv_Te_at hi1).1 rfl ?_
            exact kr_ireturn d_X9_textTold_58 rfl
          · refine kr_aload0 d_X9_textTold_31 ?_
            refine kr_getR (q := 47) d_X9_textTold_32 fl_X9_12 sh_0 rfl ?_
            refine kr_getR (q := 48) d_X9_textTold_35 fl_X9_268 sh_47 rfl ?_
            refine kr_iload1 d_X9_textTold_38 ?_
            refine kr_aaload d_X9_textTold_39 sh_48 (Or.inr (Or.inr (Or.inr rfl))) (fun hi2 => ?_)
            refine kr_getI d_X9_textTold_40 fl_X9_283 (kv_Te_at hi2).1 rfl ?_
            refine kr_goto d_X9_textTold_43 ?_
            exact kr_ireturn d_X9_textTold_58 rfl
        · refine kr_const (v := (-1000000001)) d_X9_textTold_24 ?_
          exact kr_ireturn d_X9_textTold_26 rfl

/-! X9_why -/
def f_X9_why (x1 : Int32) (h : kv_H) : Option (Int32 × kv_H) :=
  if x1 < 0 then (some ((-1000000001), h))
  else (if x1 < (3 : Int32) then (kv_k x1 3 (some ((h 81 x1.toNatClampNeg), h)))
    else (some ((-1000000001), h)))
set_option maxRecDepth 20000 in
theorem m_X9_why (x1 : Int32) (h : kv_H) : kv_M kv_i kK_X9_why [.ref 0, .int x1] h (f_X9_why x1 h) := by
  refine kv_met (ls := [some (.ref 0), some (.int x1)]) (show plainName RX9 = true by decide +kernel) (fun _ => rfl) (fun _ => Nat.le_of_ble_eq_true rfl) ?_
  unfold f_X9_why
  refine kr_iload1 d_X9_why_0 ?_
  refine kr_if_lt d_X9_why_1 ?_ ?_
  · refine kr_const (v := (-1000000001)) d_X9_why_9 ?_
    refine kr_goto d_X9_why_11 ?_
    exact kr_ireturn d_X9_why_23 rfl
  · refine kr_iload1 d_X9_why_4 ?_
    refine kr_const (v := 3) d_X9_why_5 ?_
    refine kr_icmp_lt d_X9_why_6 ?_ ?_
    · refine kr_aload0 d_X9_why_14 ?_
      refine kr_getR (q := 79) d_X9_why_15 fl_X9_21 sh_0 rfl ?_
      refine kr_getR (q := 81) d_X9_why_18 fl_X9_277 sh_79 rfl ?_
      refine kr_iload1 d_X9_why_21 ?_
      refine kr_iaload d_X9_why_22 sh_81 ?_
      exact kr_ireturn d_X9_why_23 rfl
    · refine kr_const (v := (-1000000001)) d_X9_why_9 ?_
      refine kr_goto d_X9_why_11 ?_
      exact kr_ireturn d_X9_why_23 rfl

/-! X9_isSheet -/
def f_X9_isSheet (x1 : Int32) (h : kv_H) : Option (Int32 × kv_H) :=
  if x1 < 0 then (some (0, h))
  else (if (4 : Int32) ≤ x1 then (some (0, h))
    else (some (1, h)))
set_option maxRecDepth 20000 in
theorem m_X9_isSheet (x1 : Int32) (h : kv_H) : kv_M kv_i kK_X9_isSheet [.int x1] h (f_X9_isSheet x1 h) := by
  refine kv_met (ls := [some (.int x1)]) (show plainName RX9 = true by decide +kernel) (fun _ => rfl) (fun _ => Nat.le_of_ble_eq_true rfl) ?_
  unfold f_X9_isSheet
  refine kr_iload0 d_X9_isSheet_0 ?_
  refine kr_if_lt d_X9_isSheet_1 ?_ ?_
  · refine kr_const (v := 0) d_X9_isSheet_13 ?_
    exact kr_zreturnK (by decide) d_X9_isSheet_14 rfl
  · refine kr_iload0 d_X9_isSheet_4 ?_
    refine kr_const (v := 4) d_X9_isSheet_5 ?_
    refine kr_icmp_ge d_X9_isSheet_6 ?_ ?_
    · refine kr_const (v := 0) d_X9_isSheet_13 ?_
      exact kr_zreturnK (by decide) d_X9_isSheet_14 rfl
    · refine kr_const (v := 1) d_X9_isSheet_9 ?_
      refine kr_goto d_X9_isSheet_10 ?_
      exact kr_zreturnK (by decide) d_X9_isSheet_14 rfl

/-! X9_sheet -/
def f_X9_sheet (x1 : Int32) (x2 : Int32) (x3 : Int32) (h : kv_H) : Option (Int32 × kv_H) :=
  kv_b (f_X9_isSheet x1 h) (fun r2 h1 =>
  if r2 = 0 then (some ((-1000000001), h1))
  else (if x2 < (-1 : Int32) then (some ((-1000000001), h1))
    else (if x2 ≤ (1 : Int32) then (if x2 = (-1 : Int32) then (kv_k x1 4 (kv_hl (kv_up h1 (18 + 2 * x1.toNatClampNeg) 1 (-1)) (fun h6 =>
          some (0, h6))))
        else (if x3 ≤ (24 : Int32) then (if 0 ≤ x3 then (kv_k x1 4 (kv_b (f_X3_beginAnew (18 + 2 * x1.toNatClampNeg) x2 x3 h1) (fun _ h4 =>
              some (x3, h4))))
            else (some ((-1000000014), h1)))
          else (some ((-1000000001), h1))))
      else (some ((-1000000001), h1)))))
set_option maxRecDepth 20000 in
theorem m_X9_sheet (x1 : Int32) (x2 : Int32) (x3 : Int32) (h : kv_H) : kv_M kv_i kK_X9_sheet [.ref 0, .int x1, .int x2, .int x3] h (f_X9_sheet x1 x2 x3 h) := by
  refine kv_met (ls := [some (.ref 0), some (.int x1), some (.int x2), some (.int x3)]) (show plainName RX9 = true by decide +kernel) (fun _ => rfl) (fun _ => Nat.le_of_ble_eq_true rfl) ?_
  unfold f_X9_sheet
  refine kr_iload1 d_X9_sheet_0 ?_
  refine kr_is_i (As := [.int x1]) d_X9_sheet_1 cl_X9_287 (m_X9_isSheet x1 h) (Nat.le_of_ble_eq_true rfl) rfl (Nat.le_of_ble_eq_true rfl) (fun r2 h1 => ?_)
  refine kr_if_eq d_X9_sheet_4 ?_ ?_
  · refine kr_const (v := (-1000000001)) d_X9_sheet_17 ?_
    exact kr_ireturn d_X9_sheet_19 rfl
  · refine kr_iload2 d_X9_sheet_7 ?_
    refine kr_const (v := (-1)) d_X9_sheet_8 ?_
    refine kr_icmp_lt d_X9_sheet_9 ?_ ?_
    · refine kr_const (v := (-1000000001)) d_X9_sheet_17 ?_
      exact kr_ireturn d_X9_sheet_19 rfl
    · refine kr_iload2 d_X9_sheet_12 ?_
      refine kr_const (v := 1) d_X9_sheet_13 ?_
      refine kr_icmp_le d_X9_sheet_14 ?_ ?_
      · refine kr_iload2 d_X9_sheet_20 ?_
        refine kr_const (v := (-1)) d_X9_sheet_21 ?_
        refine kr_icmp_ne d_X9_sheet_22 ?_ ?_
        · refine kr_iload3 d_X9_sheet_37 ?_
          refine kr_const (v := 24) d_X9_sheet_38 ?_
          refine kr_icmp_le d_X9_sheet_40 ?_ ?_
          · refine kr_iload3 d_X9_sheet_46 ?_
            refine kr_if_ge d_X9_sheet_47 ?_ ?_
            · refine kr_aload0 d_X9_sheet_54 ?_
              refine kr_getR (q := 3) d_X9_sheet_55 fl_X9_54 sh_0 rfl ?_
              refine kr_iload1 d_X9_sheet_58 ?_
              refine kr_aaload d_X9_sheet_59 sh_3 (Or.inr (Or.inl rfl)) (fun hi3 => ?_)
              refine kr_iload2 d_X9_sheet_60 ?_
              refine kr_iload3 d_X9_sheet_61 ?_
              refine kr_iv_u (As := [.int x2, .int x3]) d_X9_sheet_62 cl_X9_294 (m_X3_beginAnew (18 + 2 * x1.toNatClampNeg) (kv_Sh_at hi3) x2 x3 h1) (kv_Sh_at hi3).1 (Nat.le_of_ble_eq_true rfl) rfl (Nat.le_of_ble_eq_true rfl) (fun h4 => ?_)
              refine kr_iload3 d_X9_sheet_65 ?_
              exact kr_ireturn d_X9_sheet_66 rfl
            · refine kr_const (v := (-1000000014)) d_X9_sheet_50 ?_
              exact kr_ireturn d_X9_sheet_53 rfl
          · refine kr_const (v := (-1000000001)) d_X9_sheet_43 ?_
            exact kr_ireturn d_X9_sheet_45 rfl
        · refine kr_aload0 d_X9_sheet_25 ?_
          refine kr_getR (q := 3) d_X9_sheet_26 fl_X9_54 sh_0 rfl ?_
          refine kr_iload1 d_X9_sheet_29 ?_
          refine kr_aaload d_X9_sheet_30 sh_3 (Or.inr (Or.inl rfl)) (fun hi5 => ?_)
          refine kr_const (v := (-1)) d_X9_sheet_31 ?_
          refine kr_putI d_X9_sheet_32 fp_X9_290 (kv_Sh_at hi5).1 rfl rfl rfl ?_
          refine kr_hl (fun h6 => ?_)
          refine kr_const (v := 0) d_X9_sheet_35 ?_
          exact kr_ireturn d_X9_sheet_36 rfl
      · refine kr_const (v := (-1000000001)) d_X9_sheet_17 ?_
        exact kr_ireturn d_X9_sheet_19 rfl

/-! X9_mark -/
def f_X9_mark (x1 : Int32) (x2 : Int32) (x3 : Int32) (h : kv_H) : Option (Int32 × kv_H) :=
  kv_b (f_X9_isSheet x1 h) (fun r2 h1 =>
  if r2 = 0 then (some ((-1000000001), h1))
  else (kv_k x1 4 (if (h1 (18 + 2 * x1.toNatClampNeg) 1) = (-1 : Int32) then (some ((-1000000011), h1))
    else (kv_b (f_X3_has (18 + 2 * x1.toNatClampNeg) x2 h1) (fun r5 h4 =>
      if r5 = 0 then (some ((-1000000013), h4))
      else (if (h4 (18 + 2 * x1.toNatClampNeg) 1) = 0 then (if x3 = (-1000000005 : Int32) then (some ((-1000000012), h4))
          else (kv_k x2 24 (kv_hl (kv_up h4 ((18 + 2 * x1.toNatClampNeg) + 1) x2.toNatClampNeg (x3.toInt16.toInt32)) (fun h8 =>
            some (1, h8)))))
        else (kv_jn (fun  (h6 : kv_H) =>
          kv_k x2 24 (kv_hl (kv_up h6 ((18 + 2 * x1.toNatClampNeg) + 1) x2.toNatClampNeg x3) (fun h7 =>
            some (1, h7)))) (fun (J95 : kv_H → Option (Int32 × kv_H)) =>
          if x3 = (-1000000005 : Int32) then (J95 h4)
          else (if x3 < (-99999 : Int32) then (some ((-1000000001), h4))
            else (if x3 ≤ (99999 : Int32) then (J95 h4)
              else (some ((-1000000001), h4))))))))))))
set_option maxRecDepth 20000 in
theorem m_X9_mark (x1 : Int32) (x2 : Int32) (x3 : Int32) (h : kv_H) : kv_M kv_i kK_X9_mark [.ref 0, .int x1, .int x2, .int x3] h (f_X9_mark x1 x2 x3 h) := by
  refine kv_met (ls := [some (.ref 0), some (.int x1), some (.int x2), some (.int x3), none]) (show plainName RX9 = true by decide +kernel) (fun _ => rfl) (fun _ => Nat.le_of_ble_eq_true rfl) ?_
  unfold f_X9_mark
  refine kr_iload1 d_X9_mark_0 ?_
  refine kr_is_i (As := [.int x1]) d_X9_mark_1 cl_X9_287 (m_X9_isSheet x1 h) (Nat.le_of_ble_eq_true rfl) rfl (Nat.le_of_ble_eq_true rfl) (fun r2 h1 => ?_)
  refine kr_if_ne d_X9_mark_4 ?_ ?_
  · refine kr_aload0 d_X9_mark_10 ?_
    refine kr_getR (q := 3) d_X9_mark_11 fl_X9_54 sh_0 rfl ?_
    refine kr_iload1 d_X9_mark_14 ?_
    refine kr_aaload d_X9_mark_15 sh_3 (Or.inr (Or.inl rfl)) (fun hi3 => ?_)
    refine kr_astore4 d_X9_mark_16 (Nat.le_of_ble_eq_true rfl) kv_c1i ?_
    refine kr_aload4 d_X9_mark_18 ?_
    refine kr_getI d_X9_mark_20 fl_X9_290 (kv_Sh_at hi3).1 rfl ?_
    refine kr_const (v := (-1)) d_X9_mark_23 ?_
    refine kr_icmp_ne d_X9_mark_24 ?_ ?_
    · refine kr_aload4 d_X9_mark_31 ?_
      refine kr_iload2 d_X9_mark_33 ?_
      refine kr_iv_i (As := [.int x2]) d_X9_mark_34 cl_X9_299 (m_X3_has (18 + 2 * x1.toNatClampNeg) (kv_Sh_at hi3) x2 h1) (kv_Sh_at hi3).1 (Nat.le_of_ble_eq_true rfl) rfl (Nat.le_of_ble_eq_true rfl) (fun r5 h4 => ?_)
      refine kr_if_ne d_X9_mark_37 ?_ ?_
      · refine kr_aload4 d_X9_mark_44 ?_
        refine kr_getI d_X9_mark_46 fl_X9_290 (kv_Sh_at hi3).1 rfl ?_
        refine kr_if_ne d_X9_mark_49 ?_ ?_
        · refine kr_iload3 d_X9_mark_72 ?_
          refine kr_const (v := (-1000000005)) d_X9_mark_73 ?_
          refine kr_jn (P := fun J95 =>  ∀ (h6 : kv_H), kv_S kv_i kK_X9_mark 95 [none, none, some (.int x2), some (.int x3), some (.ref (18 + 2 * x1.toNatClampNeg))] [] h6 (J95  h6)) (fun  h6 => ?_) (fun J95 hJ95 => ?_)
          · refine kr_aload4 d_X9_mark_95 ?_
            refine kr_getR (q := ((18 + 2 * x1.toNatClampNeg) + 1)) d_X9_mark_97 fl_X9_303 (kv_Sh_at hi3).1 rfl ?_
            refine kr_iload2 d_X9_mark_100 ?_
            refine kr_iload3 d_X9_mark_101 ?_
            refine kr_iastore d_X9_mark_102 (kv_Sh_at hi3).2 ?_
            refine kr_hl (fun h7 => ?_)
            refine kr_const (v := 1) d_X9_mark_103 ?_
            exact kr_ireturn d_X9_mark_104 rfl
          refine kr_icmp_eq d_X9_mark_75 ?_ ?_
          · refine kr_kill0 ?_
            refine kr_kill1 ?_
            exact hJ95 h4
          · refine kr_iload3 d_X9_mark_78 ?_
            refine kr_const (v := (-99999)) d_X9_mark_79 ?_
            refine kr_icmp_lt d_X9_mark_82 ?_ ?_
            · refine kr_const (v := (-1000000001)) d_X9_mark_92 ?_
              exact kr_ireturn d_X9_mark_94 rfl
            · refine kr_iload3 d_X9_mark_85 ?_
              refine kr_const (v := 99999) d_X9_mark_86 ?_
              refine kr_icmp_le d_X9_mark_89 ?_ ?_
              · refine kr_kill0 ?_
                refine kr_kill1 ?_
                exact hJ95 h4
              · refine kr_const (v := (-1000000001)) d_X9_mark_92 ?_
                exact kr_ireturn d_X9_mark_94 rfl
        · refine kr_iload3 d_X9_mark_52 ?_
          refine kr_const (v := (-1000000005)) d_X9_mark_53 ?_
          refine kr_icmp_ne d_X9_mark_55 ?_ ?_
          · refine kr_aload4 d_X9_mark_61 ?_
            refine kr_getR (q := ((18 + 2 * x1.toNatClampNeg) + 1)) d_X9_mark_63 fl_X9_303 (kv_Sh_at hi3).1 rfl ?_
            refine kr_iload2 d_X9_mark_66 ?_
            refine kr_iload3 d_X9_mark_67 ?_
            refine kr_i2s d_X9_mark_68 ?_
            refine kr_iastore d_X9_mark_69 (kv_Sh_at hi3).2 ?_
            refine kr_hl (fun h8 => ?_)
            refine kr_const (v := 1) d_X9_mark_70 ?_
            exact kr_ireturn d_X9_mark_71 rfl
          · refine kr_const (v := (-1000000012)) d_X9_mark_58 ?_
            exact kr_ireturn d_X9_mark_60 rfl
      · refine kr_const (v := (-1000000013)) d_X9_mark_40 ?_
        exact kr_ireturn d_X9_mark_43 rfl
    · refine kr_const (v := (-1000000011)) d_X9_mark_27 ?_
      exact kr_ireturn d_X9_mark_30 rfl
  · refine kr_const (v := (-1000000001)) d_X9_mark_7 ?_
    exact kr_ireturn d_X9_mark_9 rfl

/-! X9_pour -/
def f_X9_pour_L34 (q2 : Nat) : Nat → Int32 → Int32 → kv_H → (Int32 → kv_H → Option (Int32 × kv_H)) → Option (Int32 × kv_H)
  | 0, _, _, _, _ => none
  | n + 1, v3, v4, h, C => if (h q2 2) ≤ v4 then (C v3 h)
    else (kv_k v4 24 (kv_b (f_X9_isLeaf (h (q2 + 1) v4.toNatClampNeg) h) (fun r5 h4 =>
      if r5 = 0 then (C v3 h4)
      else (kv_k v4 24 (kv_b (f_X8_addAsking 79 (h4 (q2 + 1) v4.toNatClampNeg) h4) (fun r7 h6 =>
        if r7 = 0 then (C v3 h6)
        else (f_X9_pour_L34 q2 n (v3 + 1) (v4 + 1) h6 C)))))))
def f_X9_pour (x1 : Int32) (h : kv_H) : Option (Int32 × kv_H) :=
  kv_b (f_X9_isSheet x1 h) (fun r2 h1 =>
  if r2 = 0 then (some ((-1000000001), h1))
  else (kv_k x1 4 (if (h1 (18 + 2 * x1.toNatClampNeg) 1) = (-1 : Int32) then (some ((-1000000011), h1))
    else (f_X9_pour_L34 (18 + 2 * x1.toNatClampNeg) kv_fu 0 0 h1 (fun z8 h9 =>
      some (z8, h9))))))
set_option maxRecDepth 20000 in
theorem s_f_X9_pour_L34 (q2 : Nat) (hq2 : kv_Sh q2) : ∀ (n : Nat) (v3 : Int32) (v4 : Int32) (h : kv_H) (C : Int32 → kv_H → Option (Int32 × kv_H)), (∀ (w3 : Int32) (h : kv_H), kv_S kv_i kK_X9_pour 86 [none, none, none, some (.int w3), none] [] h (C w3 h)) → kv_S kv_i kK_X9_pour 34 [some (.ref 0), none, some (.ref q2), some (.int v3), some (.int v4)] [] h (f_X9_pour_L34 q2 n v3 v4 h C) := by
  intro n
  induction n with
  | zero => intros; exact kv_none
  | succ n ih =>
    intro v3 v4 h C hC
    unfold f_X9_pour_L34
    refine kr_iload4 d_X9_pour_34 ?_
    refine kr_aload2 d_X9_pour_36 ?_
    refine kr_getI d_X9_pour_37 fl_X9_308 hq2.1 rfl ?_
    refine kr_icmp_ge d_X9_pour_40 ?_ ?_
    · refine kr_kill0 ?_
      refine kr_kill2 ?_
      refine kr_kill4 ?_
      exact hC v3 h
    · refine kr_aload0 d_X9_pour_43 ?_
      refine kr_aload2 d_X9_pour_44 ?_
      refine kr_getR (q := (q2 + 1)) d_X9_pour_45 fl_X9_303 hq2.1 rfl ?_
      refine kr_iload4 d_X9_pour_48 ?_
      refine kr_iaload d_X9_pour_50 hq2.2 ?_
      refine kr_iv_i (As := [.int (h (q2 + 1) v4.toNatClampNeg)]) d_X9_pour_51 cl_X9_106 (m_X9_isLeaf (h (q2 + 1) v4.toNatClampNeg) h) sh_0 (Nat.le_of_ble_eq_true rfl) rfl (Nat.le_of_ble_eq_true rfl) (fun r5 h4 => ?_)
      refine kr_if_eq d_X9_pour_54 ?_ ?_
      · refine kr_kill0 ?_
        refine kr_kill2 ?_
        refine kr_kill4 ?_
        exact hC v3 h4
      · refine kr_aload0 d_X9_pour_57 ?_
        refine kr_getR (q := 79) d_X9_pour_58 fl_X9_21 sh_0 rfl ?_
        refine kr_aload2 d_X9_pour_61 ?_
        refine kr_getR (q := (q2 + 1)) d_X9_pour_62 fl_X9_303 hq2.1 rfl ?_
        refine kr_iload4 d_X9_pour_65 ?_
        refine kr_iaload d_X9_pour_67 hq2.2 ?_
        refine kr_iv_i (As := [.int (h4 (q2 + 1) v4.toNatClampNeg)]) d_X9_pour_68 cl_X9_205 (m_X8_addAsking 79 wo_79 (h4 (q2 + 1) v4.toNatClampNeg) h4) sh_79 (Nat.le_of_ble_eq_true rfl) rfl (Nat.le_of_ble_eq_true rfl) (fun r7 h6 => ?_)
        refine kr_if_ne d_X9_pour_71 ?_ ?_
        · refine kr_iinc3 d_X9_pour_77 (Nat.le_of_ble_eq_true rfl) kv_c1a ?_
          refine kr_iinc4 d_X9_pour_80 (Nat.le_of_ble_eq_true rfl) kv_c1i ?_
          refine kr_goto d_X9_pour_83 ?_
          exact ih (v3 + 1) (v4 + 1) h6 C hC
        · refine kr_goto d_X9_pour_74 ?_
          refine kr_kill0 ?_
          refine kr_kill2 ?_
          refine kr_kill4 ?_
          exact hC v3 h6

set_option maxRecDepth 20000 in
theorem m_X9_pour (x1 : Int32) (h : kv_H) : kv_M kv_i kK_X9_pour [.ref 0, .int x1] h (f_X9_pour x1 h) := by
  refine kv_met (ls := [some (.ref 0), some (.int x1), none, none, none]) (show plainName RX9 = true by decide +kernel) (fun _ => rfl) (fun _ => Nat.le_of_ble_eq_true rfl) ?_
  unfold f_X9_pour
  refine kr_iload1 d_X9_pour_0 ?_
  refine kr_is_i (As := [.int x1]) d_X9_pour_1 cl_X9_287 (m_X9_isSheet x1 h) (Nat.le_of_ble_eq_true rfl) rfl (Nat.le_of_ble_eq_true rfl) (fun r2 h1 => ?_)
  refine kr_if_ne d_X9_pour_4 ?_ ?_
  · refine kr_aload0 d_X9_pour_10 ?_
    refine kr_getR (q := 3) d_X9_pour_11 fl_X9_54 sh_0 rfl ?_
    refine kr_iload1 d_X9_pour_14 ?_
    refine kr_aaload d_X9_pour_15 sh_3 (Or.inr (Or.inl rfl)) (fun hi3 => ?_)
    refine kr_astore2 d_X9_pour_16 (Nat.le_of_ble_eq_true rfl) kv_c1i ?_
    refine kr_aload2 d_X9_pour_17 ?_
    refine kr_getI d_X9_pour_18 fl_X9_290 (kv_Sh_at hi3).1 rfl ?_
    refine kr_const (v := (-1)) d_X9_pour_21 ?_
    refine kr_icmp_ne d_X9_pour_22 ?_ ?_
    · refine kr_const (v := 0) d_X9_pour_29 ?_
      refine kr_istore3 d_X9_pour_30 (Nat.le_of_ble_eq_true rfl) kv_c1a ?_
      refine kr_const (v := 0) d_X9_pour_31 ?_
      refine kr_istore4 d_X9_pour_32 (Nat.le_of_ble_eq_true rfl) kv_c1i ?_
      refine kr_kill1 ?_
      refine s_f_X9_pour_L34 (18 + 2 * x1.toNatClampNeg) (kv_Sh_at hi3) kv_fu 0 0 h1 _ (fun z8 h9 => ?_)
      refine kr_iload3 d_X9_pour_86 ?_
      exact kr_ireturn d_X9_pour_87 rfl
    · refine kr_const (v := (-1000000011)) d_X9_pour_25 ?_
      exact kr_ireturn d_X9_pour_28 rfl
  · refine kr_const (v := (-1000000001)) d_X9_pour_7 ?_
    exact kr_ireturn d_X9_pour_9 rfl

/-! X9_reads -/
def f_X9_reads_L31 (q2 : Nat) : Nat → Int32 → kv_H → (kv_H → Option (Int32 × kv_H)) → Option (Int32 × kv_H)
  | 0, _, _, _ => none
  | n + 1, v3, h, C => if (h q2 2) ≤ v3 then (C h)
    else (kv_k v3 24 (if (h (q2 + 1) v3.toNatClampNeg) = (-1000000005 : Int32) then (f_X9_reads_L31 q2 n (v3 + 1) h C)
      else (kv_b (f_X9_isLeaf v3 h) (fun r5 h4 =>
        if r5 = 0 then (some (v3, h4))
        else (kv_k v3 8 (kv_k v3 24 (if (h4 94 v3.toNatClampNeg) = (h4 (q2 + 1) v3.toNatClampNeg) then (f_X9_reads_L31 q2 n (v3 + 1) h4 C)
          else (some (v3, h4)))))))))
def f_X9_reads (x1 : Int32) (h : kv_H) : Option (Int32 × kv_H) :=
  kv_b (f_X9_isSheet x1 h) (fun r2 h1 =>
  if r2 = 0 then (some ((-1000000001), h1))
  else (kv_k x1 4 (if (h1 (18 + 2 * x1.toNatClampNeg) 1) = (-1 : Int32) then (some ((-1000000011), h1))
    else (f_X9_reads_L31 (18 + 2 * x1.toNatClampNeg) kv_fu 0 h1 (fun  h6 =>
      some ((-1000000005), h6))))))
set_option maxRecDepth 20000 in
theorem s_f_X9_reads_L31 (q2 : Nat) (hq2 : kv_Sh q2) : ∀ (n : Nat) (v3 : Int32) (h : kv_H) (C : kv_H → Option (Int32 × kv_H)), (∀  (h : kv_H), kv_S kv_i kK_X9_reads 87 [none, none, none, none] [] h (C h)) → kv_S kv_i kK_X9_reads 31 [some (.ref 0), none, some (.ref q2), some (.int v3)] [] h (f_X9_reads_L31 q2 n v3 h C) := by
  intro n
  induction n with
  | zero => intros; exact kv_none
  | succ n ih =>
    intro v3 h C hC
    unfold f_X9_reads_L31
    refine kr_iload3 d_X9_reads_31 ?_
    refine kr_aload2 d_X9_reads_32 ?_
    refine kr_getI d_X9_reads_33 fl_X9_308 hq2.1 rfl ?_
    refine kr_icmp_ge d_X9_reads_36 ?_ ?_
    · refine kr_kill0 ?_
      refine kr_kill2 ?_
      refine kr_kill3 ?_
      exact hC h
    · refine kr_aload2 d_X9_reads_39 ?_
      refine kr_getR (q := (q2 + 1)) d_X9_reads_40 fl_X9_303 hq2.1 rfl ?_
      refine kr_iload3 d_X9_reads_43 ?_
      refine kr_iaload d_X9_reads_44 hq2.2 ?_
      refine kr_const (v := (-1000000005)) d_X9_reads_45 ?_
      refine kr_icmp_eq d_X9_reads_47 ?_ ?_
      · refine kr_iinc3 d_X9_reads_81 (Nat.le_of_ble_eq_true rfl) kv_c1a ?_
        refine kr_goto d_X9_reads_84 ?_
        exact ih (v3 + 1) h C hC
      · refine kr_aload0 d_X9_reads_50 ?_
        refine kr_iload3 d_X9_reads_51 ?_
        refine kr_iv_i (As := [.int v3]) d_X9_reads_52 cl_X9_106 (m_X9_isLeaf v3 h) sh_0 (Nat.le_of_ble_eq_true rfl) rfl (Nat.le_of_ble_eq_true rfl) (fun r5 h4 => ?_)
        refine kr_if_eq d_X9_reads_55 ?_ ?_
        · refine kr_iload3 d_X9_reads_79 ?_
          exact kr_ireturn d_X9_reads_80 rfl
        · refine kr_aload0 d_X9_reads_58 ?_
          refine kr_getR (q := 79) d_X9_reads_59 fl_X9_21 sh_0 rfl ?_
          refine kr_getR (q := 91) d_X9_reads_62 fl_X9_109 sh_79 rfl ?_
          refine kr_getR (q := 94) d_X9_reads_65 fl_X9_140 sh_91 rfl ?_
          refine kr_iload3 d_X9_reads_68 ?_
          refine kr_iaload d_X9_reads_69 sh_94 ?_
          refine kr_aload2 d_X9_reads_70 ?_
          refine kr_getR (q := (q2 + 1)) d_X9_reads_71 fl_X9_303 hq2.1 rfl ?_
          refine kr_iload3 d_X9_reads_74 ?_
          refine kr_iaload d_X9_reads_75 hq2.2 ?_
          refine kr_icmp_eq d_X9_reads_76 ?_ ?_
          · refine kr_iinc3 d_X9_reads_81 (Nat.le_of_ble_eq_true rfl) kv_c1a ?_
            refine kr_goto d_X9_reads_84 ?_
            exact ih (v3 + 1) h4 C hC
          · refine kr_iload3 d_X9_reads_79 ?_
            exact kr_ireturn d_X9_reads_80 rfl

set_option maxRecDepth 20000 in
theorem m_X9_reads (x1 : Int32) (h : kv_H) : kv_M kv_i kK_X9_reads [.ref 0, .int x1] h (f_X9_reads x1 h) := by
  refine kv_met (ls := [some (.ref 0), some (.int x1), none, none]) (show plainName RX9 = true by decide +kernel) (fun _ => rfl) (fun _ => Nat.le_of_ble_eq_true rfl) ?_
  unfold f_X9_reads
  refine kr_iload1 d_X9_reads_0 ?_
  refine kr_is_i (As := [.int x1]) d_X9_reads_1 cl_X9_287 (m_X9_isSheet x1 h) (Nat.le_of_ble_eq_true rfl) rfl (Nat.le_of_ble_eq_true rfl) (fun r2 h1 => ?_)
  refine kr_if_ne d_X9_reads_4 ?_ ?_
  · refine kr_aload0 d_X9_reads_10 ?_
    refine kr_getR (q := 3) d_X9_reads_11 fl_X9_54 sh_0 rfl ?_
    refine kr_iload1 d_X9_reads_14 ?_
    refine kr_aaload d_X9_reads_15 sh_3 (Or.inr (Or.inl rfl)) (fun hi3 => ?_)
    refine kr_astore2 d_X9_reads_16 (Nat.le_of_ble_eq_true rfl) kv_c1i ?_
    refine kr_aload2 d_X9_reads_17 ?_
    refine kr_getI d_X9_reads_18 fl_X9_290 (kv_Sh_at hi3).1 rfl ?_
    refine kr_const (v := (-1)) d_X9_reads_21 ?_
    refine kr_icmp_ne d_X9_reads_22 ?_ ?_
    · refine kr_const (v := 0) d_X9_reads_29 ?_
      refine kr_istore3 d_X9_reads_30 (Nat.le_of_ble_eq_true rfl) kv_c1a ?_
      refine kr_kill1 ?_
      refine s_f_X9_reads_L31 (18 + 2 * x1.toNatClampNeg) (kv_Sh_at hi3) kv_fu 0 h1 _ (fun  h6 => ?_)
      refine kr_const (v := (-1000000005)) d_X9_reads_87 ?_
      exact kr_ireturn d_X9_reads_89 rfl
    · refine kr_const (v := (-1000000011)) d_X9_reads_25 ?_
      exact kr_ireturn d_X9_reads_28 rfl
  · refine kr_const (v := (-1000000001)) d_X9_reads_7 ?_
    exact kr_ireturn d_X9_reads_9 rfl

/-! X9_copy -/
def f_X9_copy (x1 : Int32) (x2 : Int32) (x3 : Int32) (x4 : Int32) (x5 : Int32) (h : kv_H) : Option (Int32 × kv_H) :=
  kv_b (f_X9_isSheet x1 h) (fun r2 h1 =>
  if r2 = 0 then (some ((-1000000001), h1))
  else (kv_b (f_X9_isSheet x3 h1) (fun r4 h3 =>
    if r4 = 0 then (some ((-1000000001), h3))
    else (kv_k x1 4 (kv_k x3 4 (if (h3 (18 + 2 * x1.toNatClampNeg) 1) = (-1 : Int32) then (some ((-1000000011), h3))
      else (if (h3 (18 + 2 * x3.toNatClampNeg) 1) = (-1 : Int32) then (some ((-1000000011), h3))
        else (if (h3 (18 + 2 * x1.toNatClampNeg) 1) = (h3 (18 + 2 * x3.toNatClampNeg) 1) then (kv_b (f_X3_hasStretch (18 + 2 * x1.toNatClampNeg) x2 x5 h3) (fun r8 h7 =>
            if r8 = 0 then (some ((-1000000013), h7))
            else (kv_b (f_X3_hasStretch (18 + 2 * x3.toNatClampNeg) x4 x5 h7) (fun r10 h9 =>
              if r10 = 0 then (some ((-1000000013), h9))
              else (kv_y x2 x4 x5 24 24 (kv_hl (kv_row h9 ((18 + 2 * x3.toNatClampNeg) + 1) (va_cpy (h9 ((18 + 2 * x1.toNatClampNeg) + 1)) (h9 ((18 + 2 * x3.toNatClampNeg) + 1)) x2.toNatClampNeg x4.toNatClampNeg x5.toNatClampNeg)) (fun h11 =>
                some (x5, h11))))))))
          else (some ((-1000000012), h3))))))))))
set_option maxRecDepth 20000 in
theorem m_X9_copy (x1 : Int32) (x2 : Int32) (x3 : Int32) (x4 : Int32) (x5 : Int32) (h : kv_H) : kv_M kv_i kK_X9_copy [.ref 0, .int x1, .int x2, .int x3, .int x4, .int x5] h (f_X9_copy x1 x2 x3 x4 x5 h) := by
  refine kv_met (ls := [some (.ref 0), some (.int x1), some (.int x2), some (.int x3), some (.int x4), some (.int x5), none, none]) (show plainName RX9 = true by decide +kernel) (fun _ => rfl) (fun _ => Nat.le_of_ble_eq_true rfl) ?_
  unfold f_X9_copy
  refine kr_iload1 d_X9_copy_0 ?_
  refine kr_is_i (As := [.int x1]) d_X9_copy_1 cl_X9_287 (m_X9_isSheet x1 h) (Nat.le_of_ble_eq_true rfl) rfl (Nat.le_of_ble_eq_true rfl) (fun r2 h1 => ?_)
  refine kr_if_eq d_X9_copy_4 ?_ ?_
  · refine kr_const (v := (-1000000001)) d_X9_copy_14 ?_
    exact kr_ireturn d_X9_copy_16 rfl
  · refine kr_iload3 d_X9_copy_7 ?_
    refine kr_is_i (As := [.int x3]) d_X9_copy_8 cl_X9_287 (m_X9_isSheet x3 h1) (Nat.le_of_ble_eq_true rfl) rfl (Nat.le_of_ble_eq_true rfl) (fun r4 h3 => ?_)
    refine kr_if_ne d_X9_copy_11 ?_ ?_
    · refine kr_aload0 d_X9_copy_17 ?_
      refine kr_getR (q := 3) d_X9_copy_18 fl_X9_54 sh_0 rfl ?_
      refine kr_iload1 d_X9_copy_21 ?_
      refine kr_aaload d_X9_copy_22 sh_3 (Or.inr (Or.inl rfl)) (fun hi5 => ?_)
      refine kr_astore6 d_X9_copy_23 (Nat.le_of_ble_eq_true rfl) kv_c1i ?_
      refine kr_aload0 d_X9_copy_25 ?_
      refine kr_getR (q := 3) d_X9_copy_26 fl_X9_54 sh_0 rfl ?_
      refine kr_iload3 d_X9_copy_29 ?_
      refine kr_aaload d_X9_copy_30 sh_3 (Or.inr (Or.inl rfl)) (fun hi6 => ?_)
      refine kr_astore7 d_X9_copy_31 (Nat.le_of_ble_eq_true rfl) kv_c1a ?_
      refine kr_aload6 d_X9_copy_33 ?_
      refine kr_getI d_X9_copy_35 fl_X9_290 (kv_Sh_at hi5).1 rfl ?_
      refine kr_const (v := (-1)) d_X9_copy_38 ?_
      refine kr_icmp_eq d_X9_copy_39 ?_ ?_
      · refine kr_const (v := (-1000000011)) d_X9_copy_51 ?_
        exact kr_ireturn d_X9_copy_54 rfl
      · refine kr_aload7 d_X9_copy_42 ?_
        refine kr_getI d_X9_copy_44 fl_X9_290 (kv_Sh_at hi6).1 rfl ?_
        refine kr_const (v := (-1)) d_X9_copy_47 ?_
        refine kr_icmp_ne d_X9_copy_48 ?_ ?_
        · refine kr_aload6 d_X9_copy_55 ?_
          refine kr_getI d_X9_copy_57 fl_X9_290 (kv_Sh_at hi5).1 rfl ?_
          refine kr_aload7 d_X9_copy_60 ?_
          refine kr_getI d_X9_copy_62 fl_X9_290 (kv_Sh_at hi6).1 rfl ?_
          refine kr_icmp_eq d_X9_copy_65 ?_ ?_
          · refine kr_aload6 d_X9_copy_71 ?_
            refine kr_iload2 d_X9_copy_73 ?_
            refine kr_iload5 d_X9_copy_74 ?_
            refine kr_iv_i (As := [.int x2, .int x5]) d_X9_copy_76 cl_X9_309 (m_X3_hasStretch (18 + 2 * x1.toNatClampNeg) (kv_Sh_at hi5) x2 x5 h3) (kv_Sh_at hi5).1 (Nat.le_of_ble_eq_true rfl) rfl (Nat.le_of_ble_eq_true rfl) (fun r8 h7 => ?_)
            refine kr_if_eq d_X9_copy_79 ?_ ?_
            · refine kr_const (v := (-1000000013)) d_X9_copy_94 ?_
              exact kr_ireturn d_X9_copy_97 rfl
            · refine kr_aload7 d_X9_copy_82 ?_
              refine kr_iload4 d_X9_copy_84 ?_
              refine kr_iload5 d_X9_copy_86 ?_
              refine kr_iv_i (As := [.int x4, .int x5]) d_X9_copy_88 cl_X9_309 (m_X3_hasStretch (18 + 2 * x3.toNatClampNeg) (kv_Sh_at hi6) x4 x5 h7) (kv_Sh_at hi6).1 (Nat.le_of_ble_eq_true rfl) rfl (Nat.le_of_ble_eq_true rfl) (fun r10 h9 => ?_)
              refine kr_if_ne d_X9_copy_91 ?_ ?_
              · refine kr_aload6 d_X9_copy_98 ?_
                refine kr_getR (q := ((18 + 2 * x1.toNatClampNeg) + 1)) d_X9_copy_100 fl_X9_303 (kv_Sh_at hi5).1 rfl ?_
                refine kr_iload2 d_X9_copy_103 ?_
                refine kr_aload7 d_X9_copy_104 ?_
                refine kr_getR (q := ((18 + 2 * x3.toNatClampNeg) + 1)) d_X9_copy_106 fl_X9_303 (kv_Sh_at hi6).1 rfl ?_
                refine kr_iload4 d_X9_copy_109 ?_
                refine kr_iload5 d_X9_copy_111 ?_
                refine kr_copy d_X9_copy_113 wa_X9_312 (kv_Sh_at hi5).2 (kv_Sh_at hi6).2 (Nat.le_of_ble_eq_true rfl) (Nat.le_of_ble_eq_true rfl) ?_
                refine kr_hl (fun h11 => ?_)
                refine kr_iload5 d_X9_copy_116 ?_
                exact kr_ireturn d_X9_copy_118 rfl
              · refine kr_const (v := (-1000000013)) d_X9_copy_94 ?_
                exact kr_ireturn d_X9_copy_97 rfl
          · refine kr_const (v := (-1000000012)) d_X9_copy_68 ?_
            exact kr_ireturn d_X9_copy_70 rfl
        · refine kr_const (v := (-1000000011)) d_X9_copy_51 ?_
          exact kr_ireturn d_X9_copy_54 rfl
    · refine kr_const (v := (-1000000001)) d_X9_copy_14 ?_
      exact kr_ireturn d_X9_copy_16 rfl

/-! X9_isSlot -/
def f_X9_isSlot (x1 : Int32) (h : kv_H) : Option (Int32 × kv_H) :=
  if x1 < 0 then (some (0, h))
  else (if (5 : Int32) ≤ x1 then (some (0, h))
    else (some (1, h)))
set_option maxRecDepth 20000 in
theorem m_X9_isSlot (x1 : Int32) (h : kv_H) : kv_M kv_i kK_X9_isSlot [.int x1] h (f_X9_isSlot x1 h) := by
  refine kv_met (ls := [some (.int x1)]) (show plainName RX9 = true by decide +kernel) (fun _ => rfl) (fun _ => Nat.le_of_ble_eq_true rfl) ?_
  unfold f_X9_isSlot
  refine kr_iload0 d_X9_isSlot_0 ?_
  refine kr_if_lt d_X9_isSlot_1 ?_ ?_
  · refine kr_const (v := 0) d_X9_isSlot_13 ?_
    exact kr_zreturnK (by decide) d_X9_isSlot_14 rfl
  · refine kr_iload0 d_X9_isSlot_4 ?_
    refine kr_const (v := 5) d_X9_isSlot_5 ?_
    refine kr_icmp_ge d_X9_isSlot_6 ?_ ?_
    · refine kr_const (v := 0) d_X9_isSlot_13 ?_
      exact kr_zreturnK (by decide) d_X9_isSlot_14 rfl
    · refine kr_const (v := 1) d_X9_isSlot_9 ?_
      refine kr_goto d_X9_isSlot_10 ?_
      exact kr_zreturnK (by decide) d_X9_isSlot_14 rfl

/-! X9_lay -/
def f_X9_lay (x1 : Int32) (x2 : Int32) (x3 : Int32) (h : kv_H) : Option (Int32 × kv_H) :=
  kv_b (f_X9_isSlot x1 h) (fun r2 h1 =>
  if r2 = 0 then (some ((-1000000001), h1))
  else (if x2 < 0 then (some ((-1000000001), h1))
    else (if x2 ≤ (3 : Int32) then (kv_k x1 5 (kv_vl (h1 (26 + 3 * x1.toNatClampNeg) 1) (fun e4 =>
        kv_jn (fun  (h5 : kv_H) =>
        kv_hl (kv_up h5 (26 + 3 * x1.toNatClampNeg) 1 x2) (fun h6 =>
          some (e4, h6))) (fun (J126 : kv_H → Option (Int32 × kv_H)) =>
        if x2 = (1 : Int32) then (kv_b (f_X9_isLeaf x3 h1) (fun r14 h13 =>
          if r14 = 0 then (some ((-1000000001), h13))
          else (kv_b (f_X4_takeLeaf (26 + 3 * x1.toNatClampNeg) 82 x3 h13) (fun _ h15 =>
            J126 h15))))
        else (if x2 = (2 : Int32) then (kv_b (f_X9_isSheet x3 h1) (fun r9 h8 =>
            if r9 = 0 then (some ((-1000000001), h8))
            else (kv_k x3 4 (if (h8 (18 + 2 * x3.toNatClampNeg) 1) = (-1 : Int32) then (some ((-1000000011), h8))
              else (kv_k x3 4 (kv_b (f_X3_becomes ((26 + 3 * x1.toNatClampNeg) + 1) (18 + 2 * x3.toNatClampNeg) h8) (fun _ h12 =>
                J126 h12)))))))
          else (if x2 = (3 : Int32) then (kv_hl (kv_up h1 (26 + 3 * x1.toNatClampNeg) 2 x3) (fun h7 =>
              J126 h7))
            else (J126 h1)))))))
      else (some ((-1000000001), h1)))))
set_option maxRecDepth 20000 in
theorem m_X9_lay (x1 : Int32) (x2 : Int32) (x3 : Int32) (h : kv_H) : kv_M kv_i kK_X9_lay [.ref 0, .int x1, .int x2, .int x3] h (f_X9_lay x1 x2 x3 h) := by
  refine kv_met (ls := [some (.ref 0), some (.int x1), some (.int x2), some (.int x3), none, none]) (show plainName RX9 = true by decide +kernel) (fun _ => rfl) (fun _ => Nat.le_of_ble_eq_true rfl) ?_
  unfold f_X9_lay
  refine kr_iload1 d_X9_lay_0 ?_
  refine kr_is_i (As := [.int x1]) d_X9_lay_1 cl_X9_318 (m_X9_isSlot x1 h) (Nat.le_of_ble_eq_true rfl) rfl (Nat.le_of_ble_eq_true rfl) (fun r2 h1 => ?_)
  refine kr_if_eq d_X9_lay_4 ?_ ?_
  · refine kr_const (v := (-1000000001)) d_X9_lay_16 ?_
    exact kr_ireturn d_X9_lay_18 rfl
  · refine kr_iload2 d_X9_lay_7 ?_
    refine kr_if_lt d_X9_lay_8 ?_ ?_
    · refine kr_const (v := (-1000000001)) d_X9_lay_16 ?_
      exact kr_ireturn d_X9_lay_18 rfl
    · refine kr_iload2 d_X9_lay_11 ?_
      refine kr_const (v := 3) d_X9_lay_12 ?_
      refine kr_icmp_le d_X9_lay_13 ?_ ?_
      · refine kr_aload0 d_X9_lay_19 ?_
        refine kr_getR (q := 4) d_X9_lay_20 fl_X9_60 sh_0 rfl ?_
        refine kr_iload1 d_X9_lay_23 ?_
        refine kr_aaload d_X9_lay_24 sh_4 (Or.inr (Or.inr (Or.inl rfl))) (fun hi3 => ?_)
        refine kr_astore4 d_X9_lay_25 (Nat.le_of_ble_eq_true rfl) kv_c1i ?_
        refine kr_aload4 d_X9_lay_27 ?_
        refine kr_getI d_X9_lay_29 fl_X9_321 (kv_Sl_at hi3).1 rfl ?_
        refine kr_vl (fun e4 => ?_)
        refine kr_istore5 d_X9_lay_32 (Nat.le_of_ble_eq_true rfl) kv_c1a ?_
        refine kr_iload2 d_X9_lay_34 ?_
        refine kr_const (v := 1) d_X9_lay_35 ?_
        refine kr_jn (P := fun J126 =>  ∀ (h5 : kv_H), kv_S kv_i kK_X9_lay 126 [none, none, some (.int x2), none, some (.ref (26 + 3 * x1.toNatClampNeg)), some (.int e4)] [] h5 (J126  h5)) (fun  h5 => ?_) (fun J126 hJ126 => ?_)
        · refine kr_aload4 d_X9_lay_126 ?_
          refine kr_iload2 d_X9_lay_128 ?_
          refine kr_putI d_X9_lay_129 fp_X9_321 (kv_Sl_at hi3).1 rfl rfl rfl ?_
          refine kr_hl (fun h6 => ?_)
          refine kr_iload5 d_X9_lay_132 ?_
          exact kr_ireturn d_X9_lay_134 rfl
        refine kr_icmp_ne d_X9_lay_36 ?_ ?_
        · refine kr_iload2 d_X9_lay_66 ?_
          refine kr_const (v := 2) d_X9_lay_67 ?_
          refine kr_icmp_ne d_X9_lay_68 ?_ ?_
          · refine kr_iload2 d_X9_lay_115 ?_
            refine kr_const (v := 3) d_X9_lay_116 ?_
            refine kr_icmp_ne d_X9_lay_117 ?_ ?_
            · refine kr_kill0 ?_
              refine kr_kill1 ?_
              refine kr_kill3 ?_
              exact hJ126 h1
            · refine kr_aload4 d_X9_lay_120 ?_
              refine kr_iload3 d_X9_lay_122 ?_
              refine kr_putI d_X9_lay_123 fp_X9_335 (kv_Sl_at hi3).1 rfl rfl rfl ?_
              refine kr_hl (fun h7 => ?_)
              refine kr_kill0 ?_
              refine kr_kill1 ?_
              refine kr_kill3 ?_
              exact hJ126 h7
          · refine kr_iload3 d_X9_lay_71 ?_
            refine kr_is_i (As := [.int x3]) d_X9_lay_72 cl_X9_287 (m_X9_isSheet x3 h1) (Nat.le_of_ble_eq_true rfl) rfl (Nat.le_of_ble_eq_true rfl) (fun r9 h8 => ?_)
            refine kr_if_ne d_X9_lay_75 ?_ ?_
            · refine kr_aload0 d_X9_lay_81 ?_
              refine kr_getR (q := 3) d_X9_lay_82 fl_X9_54 sh_0 rfl ?_
              refine kr_iload3 d_X9_lay_85 ?_
              refine kr_aaload d_X9_lay_86 sh_3 (Or.inr (Or.inl rfl)) (fun hi10 => ?_)
              refine kr_getI d_X9_lay_87 fl_X9_290 (kv_Sh_at hi10).1 rfl ?_
              refine kr_const (v := (-1)) d_X9_lay_90 ?_
              refine kr_icmp_ne d_X9_lay_91 ?_ ?_
              · refine kr_aload4 d_X9_lay_98 ?_
                refine kr_getR (q := ((26 + 3 * x1.toNatClampNeg) + 1)) d_X9_lay_100 fl_X9_328 (kv_Sl_at hi3).1 rfl ?_
                refine kr_aload0 d_X9_lay_103 ?_
                refine kr_getR (q := 3) d_X9_lay_104 fl_X9_54 sh_0 rfl ?_
                refine kr_iload3 d_X9_lay_107 ?_
                refine kr_aaload d_X9_lay_108 sh_3 (Or.inr (Or.inl rfl)) (fun hi11 => ?_)
                refine kr_iv_u (As := [.ref (18 + 2 * x3.toNatClampNeg)]) d_X9_lay_109 cl_X9_332 (m_X3_becomes ((26 + 3 * x1.toNatClampNeg) + 1) (kv_Sl_at hi3).2 (18 + 2 * x3.toNatClampNeg) (kv_Sh_at hi11) h8) (kv_Sl_at hi3).2.1 (Nat.le_of_ble_eq_true rfl) rfl (Nat.le_of_ble_eq_true rfl) (fun h12 => ?_)
                refine kr_goto d_X9_lay_112 ?_
                refine kr_kill0 ?_
                refine kr_kill1 ?_
                refine kr_kill3 ?_
                exact hJ126 h12
              · refine kr_const (v := (-1000000011)) d_X9_lay_94 ?_
                exact kr_ireturn d_X9_lay_97 rfl
            · refine kr_const (v := (-1000000001)) d_X9_lay_78 ?_
              exact kr_ireturn d_X9_lay_80 rfl
        · refine kr_aload0 d_X9_lay_39 ?_
          refine kr_iload3 d_X9_lay_40 ?_
          refine kr_iv_i (As := [.int x3]) d_X9_lay_41 cl_X9_106 (m_X9_isLeaf x3 h1) sh_0 (Nat.le_of_ble_eq_true rfl) rfl (Nat.le_of_ble_eq_true rfl) (fun r14 h13 => ?_)
          refine kr_if_ne d_X9_lay_44 ?_ ?_
          · refine kr_aload4 d_X9_lay_50 ?_
            refine kr_aload0 d_X9_lay_52 ?_
            refine kr_getR (q := 79) d_X9_lay_53 fl_X9_21 sh_0 rfl ?_
            refine kr_getR (q := 82) d_X9_lay_56 fl_X9_80 sh_79 rfl ?_
            refine kr_iload3 d_X9_lay_59 ?_
            refine kr_iv_u (As := [.ref 82, .int x3]) d_X9_lay_60 cl_X9_324 (m_X4_takeLeaf (26 + 3 * x1.toNatClampNeg) (kv_Sl_at hi3) 82 le_82 x3 h13) (kv_Sl_at hi3).1 (Nat.le_of_ble_eq_true rfl) rfl (Nat.le_of_ble_eq_true rfl) (fun h15 => ?_)
            refine kr_goto d_X9_lay_63 ?_
            refine kr_kill0 ?_
            refine kr_kill1 ?_
            refine kr_kill3 ?_
            exact hJ126 h15
          · refine kr_const (v := (-1000000001)) d_X9_lay_47 ?_
            exact kr_ireturn d_X9_lay_49 rfl
      · refine kr_const (v := (-1000000001)) d_X9_lay_16 ?_
        exact kr_ireturn d_X9_lay_18 rfl

/-! X9_ask -/
def f_X9_ask (x1 : Int32) (x2 : Int32) (h : kv_H) : Option (Int32 × kv_H) :=
  kv_b (f_X9_isSlot x1 h) (fun r2 h1 =>
  if r2 = 0 then (some ((-1000000001), h1))
  else (kv_b (f_X9_isKind x2 h1) (fun r4 h3 =>
    if r4 = 0 then (some ((-1000000001), h3))
    else (kv_k x1 5 (if (h3 (26 + 3 * x1.toNatClampNeg) 1) = 0 then (some ((-1000000011), h3))
      else (if (h3 (26 + 3 * x1.toNatClampNeg) 1) = (1 : Int32) then (kv_b (f_X9_isUnder (h3 (26 + 3 * x1.toNatClampNeg) 3) x2 h3) (fun r7 h6 =>
          if r7 = 0 then (some ((-1000000012), h6))
          else (kv_b (f_X9_worthAs 3 (h6 (26 + 3 * x1.toNatClampNeg) 3) (h6 (26 + 3 * x1.toNatClampNeg) 4) (h6 (26 + 3 * x1.toNatClampNeg) 5) (h6 (26 + 3 * x1.toNatClampNeg) 6) h6) (fun r9 h8 =>
            some (r9, h8)))))
        else (some ((-1000000012), h3))))))))
set_option maxRecDepth 20000 in
theorem m_X9_ask (x1 : Int32) (x2 : Int32) (h : kv_H) : kv_M kv_i kK_X9_ask [.ref 0, .int x1, .int x2] h (f_X9_ask x1 x2 h) := by
  refine kv_met (ls := [some (.ref 0), some (.int x1), some (.int x2), none]) (show plainName RX9 = true by decide +kernel) (fun _ => rfl) (fun _ => Nat.le_of_ble_eq_true rfl) ?_
  unfold f_X9_ask
  refine kr_iload1 d_X9_ask_0 ?_
  refine kr_is_i (As := [.int x1]) d_X9_ask_1 cl_X9_318 (m_X9_isSlot x1 h) (Nat.le_of_ble_eq_true rfl) rfl (Nat.le_of_ble_eq_true rfl) (fun r2 h1 => ?_)
  refine kr_if_eq d_X9_ask_4 ?_ ?_
  · refine kr_const (v := (-1000000001)) d_X9_ask_14 ?_
    exact kr_ireturn d_X9_ask_16 rfl
  · refine kr_iload2 d_X9_ask_7 ?_
    refine kr_is_i (As := [.int x2]) d_X9_ask_8 cl_X9_70 (m_X9_isKind x2 h1) (Nat.le_of_ble_eq_true rfl) rfl (Nat.le_of_ble_eq_true rfl) (fun r4 h3 => ?_)
    refine kr_if_ne d_X9_ask_11 ?_ ?_
    · refine kr_aload0 d_X9_ask_17 ?_
      refine kr_getR (q := 4) d_X9_ask_18 fl_X9_60 sh_0 rfl ?_
      refine kr_iload1 d_X9_ask_21 ?_
      refine kr_aaload d_X9_ask_22 sh_4 (Or.inr (Or.inr (Or.inl rfl))) (fun hi5 => ?_)
      refine kr_astore3 d_X9_ask_23 (Nat.le_of_ble_eq_true rfl) kv_c1i ?_
      refine kr_aload3 d_X9_ask_24 ?_
      refine kr_getI d_X9_ask_25 fl_X9_321 (kv_Sl_at hi5).1 rfl ?_
      refine kr_if_ne d_X9_ask_28 ?_ ?_
      · refine kr_aload3 d_X9_ask_35 ?_
        refine kr_getI d_X9_ask_36 fl_X9_321 (kv_Sl_at hi5).1 rfl ?_
        refine kr_const (v := 1) d_X9_ask_39 ?_
        refine kr_icmp_ne d_X9_ask_40 ?_ ?_
        · refine kr_const (v := (-1000000012)) d_X9_ask_54 ?_
          exact kr_ireturn d_X9_ask_56 rfl
        · refine kr_aload3 d_X9_ask_43 ?_
          refine kr_getI d_X9_ask_44 fl_X9_336 (kv_Sl_at hi5).1 rfl ?_
          refine kr_iload2 d_X9_ask_47 ?_
          refine kr_is_i (As := [.int (h3 (26 + 3 * x1.toNatClampNeg) 3), .int x2]) d_X9_ask_48 cl_X9_155 (m_X9_isUnder (h3 (26 + 3 * x1.toNatClampNeg) 3) x2 h3) (Nat.le_of_ble_eq_true rfl) rfl (Nat.le_of_ble_eq_true rfl) (fun r7 h6 => ?_)
          refine kr_if_ne d_X9_ask_51 ?_ ?_
          · refine kr_aload3 d_X9_ask_57 ?_
            refine kr_getI d_X9_ask_58 fl_X9_336 (kv_Sl_at hi5).1 rfl ?_
            refine kr_aload3 d_X9_ask_61 ?_
            refine kr_getI d_X9_ask_62 fl_X9_338 (kv_Sl_at hi5).1 rfl ?_
            refine kr_aload3 d_X9_ask_65 ?_
            refine kr_getI d_X9_ask_66 fl_X9_340 (kv_Sl_at hi5).1 rfl ?_
            refine kr_aload3 d_X9_ask_69 ?_
            refine kr_getI d_X9_ask_70 fl_X9_342 (kv_Sl_at hi5).1 rfl ?_
            refine kr_is_i (As := [.int (h6 (26 + 3 * x1.toNatClampNeg) 3), .int (h6 (26 + 3 * x1.toNatClampNeg) 4), .int (h6 (26 + 3 * x1.toNatClampNeg) 5), .int (h6 (26 + 3 * x1.toNatClampNeg) 6)]) d_X9_ask_73 (cl_X9_152 _) (m_X9_worthAs 3 (h6 (26 + 3 * x1.toNatClampNeg) 3) (h6 (26 + 3 * x1.toNatClampNeg) 4) (h6 (26 + 3 * x1.toNatClampNeg) 5) (h6 (26 + 3 * x1.toNatClampNeg) 6) h6) (Nat.le_of_ble_eq_true rfl) rfl (Nat.le_of_ble_eq_true rfl) (fun r9 h8 => ?_)
            exact kr_ireturn d_X9_ask_76 rfl
          · refine kr_const (v := (-1000000012)) d_X9_ask_54 ?_
            exact kr_ireturn d_X9_ask_56 rfl
      · refine kr_const (v := (-1000000011)) d_X9_ask_31 ?_
        exact kr_ireturn d_X9_ask_34 rfl
    · refine kr_const (v := (-1000000001)) d_X9_ask_14 ?_
      exact kr_ireturn d_X9_ask_16 rfl

/-! X9_item -/
def f_X9_item (x1 : Int32) (x2 : Int32) (h : kv_H) : Option (Int32 × kv_H) :=
  kv_b (f_X9_isSlot x1 h) (fun r2 h1 =>
  if r2 = 0 then (some ((-1000000001), h1))
  else (kv_k x1 5 (if (h1 (26 + 3 * x1.toNatClampNeg) 1) = 0 then (some ((-1000000011), h1))
    else (if (h1 (26 + 3 * x1.toNatClampNeg) 1) = (2 : Int32) then (kv_b (f_X3_has ((26 + 3 * x1.toNatClampNeg) + 1) x2 h1) (fun r5 h4 =>
        if r5 = 0 then (some ((-1000000013), h4))
        else (kv_k x2 24 (kv_vl (h4 (((26 + 3 * x1.toNatClampNeg) + 1) + 1) x2.toNatClampNeg) (fun e6 =>
          if e6 = (-1000000005 : Int32) then (some ((-1000000012), h4))
          else (some (e6, h4)))))))
      else (some ((-1000000012), h1))))))
set_option maxRecDepth 20000 in
theorem m_X9_item (x1 : Int32) (x2 : Int32) (h : kv_H) : kv_M kv_i kK_X9_item [.ref 0, .int x1, .int x2] h (f_X9_item x1 x2 h) := by
  refine kv_met (ls := [some (.ref 0), some (.int x1), some (.int x2), none, none]) (show plainName RX9 = true by decide +kernel) (fun _ => rfl) (fun _ => Nat.le_of_ble_eq_true rfl) ?_
  unfold f_X9_item
  refine kr_iload1 d_X9_item_0 ?_
  refine kr_is_i (As := [.int x1]) d_X9_item_1 cl_X9_318 (m_X9_isSlot x1 h) (Nat.le_of_ble_eq_true rfl) rfl (Nat.le_of_ble_eq_true rfl) (fun r2 h1 => ?_)
  refine kr_if_ne d_X9_item_4 ?_ ?_
  · refine kr_aload0 d_X9_item_10 ?_
    refine kr_getR (q := 4) d_X9_item_11 fl_X9_60 sh_0 rfl ?_
    refine kr_iload1 d_X9_item_14 ?_
    refine kr_aaload d_X9_item_15 sh_4 (Or.inr (Or.inr (Or.inl rfl))) (fun hi3 => ?_)
    refine kr_astore3 d_X9_item_16 (Nat.le_of_ble_eq_true rfl) kv_c1i ?_
    refine kr_aload3 d_X9_item_17 ?_
    refine kr_getI d_X9_item_18 fl_X9_321 (kv_Sl_at hi3).1 rfl ?_
    refine kr_if_ne d_X9_item_21 ?_ ?_
    · refine kr_aload3 d_X9_item_28 ?_
      refine kr_getI d_X9_item_29 fl_X9_321 (kv_Sl_at hi3).1 rfl ?_
      refine kr_const (v := 2) d_X9_item_32 ?_
      refine kr_icmp_eq d_X9_item_33 ?_ ?_
      · refine kr_aload3 d_X9_item_39 ?_
        refine kr_getR (q := ((26 + 3 * x1.toNatClampNeg) + 1)) d_X9_item_40 fl_X9_328 (kv_Sl_at hi3).1 rfl ?_
        refine kr_iload2 d_X9_item_43 ?_
        refine kr_iv_i (As := [.int x2]) d_X9_item_44 cl_X9_299 (m_X3_has ((26 + 3 * x1.toNatClampNeg) + 1) (kv_Sl_at hi3).2 x2 h1) (kv_Sl_at hi3).2.1 (Nat.le_of_ble_eq_true rfl) rfl (Nat.le_of_ble_eq_true rfl) (fun r5 h4 => ?_)
        refine kr_if_ne d_X9_item_47 ?_ ?_
        · refine kr_aload3 d_X9_item_54 ?_
          refine kr_getR (q := ((26 + 3 * x1.toNatClampNeg) + 1)) d_X9_item_55 fl_X9_328 (kv_Sl_at hi3).1 rfl ?_
          refine kr_getR (q := (((26 + 3 * x1.toNatClampNeg) + 1) + 1)) d_X9_item_58 fl_X9_303 (kv_Sl_at hi3).2.1 rfl ?_
          refine kr_iload2 d_X9_item_61 ?_
          refine kr_iaload d_X9_item_62 (kv_Sl_at hi3).2.2 ?_
          refine kr_vl (fun e6 => ?_)
          refine kr_istore4 d_X9_item_63 (Nat.le_of_ble_eq_true rfl) kv_c1a ?_
          refine kr_iload4 d_X9_item_65 ?_
          refine kr_const (v := (-1000000005)) d_X9_item_67 ?_
          refine kr_icmp_ne d_X9_item_69 ?_ ?_
          · refine kr_iload4 d_X9_item_77 ?_
            exact kr_ireturn d_X9_item_79 rfl
          · refine kr_const (v := (-1000000012)) d_X9_item_72 ?_
            refine kr_goto d_X9_item_74 ?_
            exact kr_ireturn d_X9_item_79 rfl
        · refine kr_const (v := (-1000000013)) d_X9_item_50 ?_
          exact kr_ireturn d_X9_item_53 rfl
      · refine kr_const (v := (-1000000012)) d_X9_item_36 ?_
        exact kr_ireturn d_X9_item_38 rfl
    · refine kr_const (v := (-1000000011)) d_X9_item_24 ?_
      exact kr_ireturn d_X9_item_27 rfl
  · refine kr_const (v := (-1000000001)) d_X9_item_7 ?_
    exact kr_ireturn d_X9_item_9 rfl

/-! X9_rest -/
def f_X9_rest (x1 : Int32) (x2 : Int32) (h : kv_H) : Option (Int32 × kv_H) :=
  kv_b (f_X9_isSlot x1 h) (fun r2 h1 =>
  if r2 = 0 then (some ((-1000000001), h1))
  else (kv_k x1 5 (if (h1 (26 + 3 * x1.toNatClampNeg) 1) = 0 then (some ((-1000000011), h1))
    else (if (h1 (26 + 3 * x1.toNatClampNeg) 1) = (3 : Int32) then (if x2 = 0 then (some ((-1000000002), h1))
        else (kv_z x2 (some (((h1 (26 + 3 * x1.toNatClampNeg) 2) - (h1 (26 + 3 * x1.toNatClampNeg) 2) / x2 * x2), h1))))
      else (some ((-1000000012), h1))))))
set_option maxRecDepth 20000 in
theorem m_X9_rest (x1 : Int32) (x2 : Int32) (h : kv_H) : kv_M kv_i kK_X9_rest [.ref 0, .int x1, .int x2] h (f_X9_rest x1 x2 h) := by
  refine kv_met (ls := [some (.ref 0), some (.int x1), some (.int x2), none]) (show plainName RX9 = true by decide +kernel) (fun _ => rfl) (fun _ => Nat.le_of_ble_eq_true rfl) ?_
  unfold f_X9_rest
  refine kr_iload1 d_X9_rest_0 ?_
  refine kr_is_i (As := [.int x1]) d_X9_rest_1 cl_X9_318 (m_X9_isSlot x1 h) (Nat.le_of_ble_eq_true rfl) rfl (Nat.le_of_ble_eq_true rfl) (fun r2 h1 => ?_)
  refine kr_if_ne d_X9_rest_4 ?_ ?_
  · refine kr_aload0 d_X9_rest_10 ?_
    refine kr_getR (q := 4) d_X9_rest_11 fl_X9_60 sh_0 rfl ?_
    refine kr_iload1 d_X9_rest_14 ?_
    refine kr_aaload d_X9_rest_15 sh_4 (Or.inr (Or.inr (Or.inl rfl))) (fun hi3 => ?_)
    refine kr_astore3 d_X9_rest_16 (Nat.le_of_ble_eq_true rfl) kv_c1i ?_
    refine kr_aload3 d_X9_rest_17 ?_
    refine kr_getI d_X9_rest_18 fl_X9_321 (kv_Sl_at hi3).1 rfl ?_
    refine kr_if_ne d_X9_rest_21 ?_ ?_
    · refine kr_aload3 d_X9_rest_28 ?_
      refine kr_getI d_X9_rest_29 fl_X9_321 (kv_Sl_at hi3).1 rfl ?_
      refine kr_const (v := 3) d_X9_rest_32 ?_
      refine kr_icmp_eq d_X9_rest_33 ?_ ?_
      · refine kr_iload2 d_X9_rest_39 ?_
        refine kr_if_ne d_X9_rest_40 ?_ ?_
        · refine kr_aload3 d_X9_rest_48 ?_
          refine kr_getI d_X9_rest_49 fl_X9_335 (kv_Sl_at hi3).1 rfl ?_
          refine kr_iload2 d_X9_rest_52 ?_
          refine kr_irem d_X9_rest_53 ?_
          exact kr_ireturn d_X9_rest_54 rfl
        · refine kr_const (v := (-1000000002)) d_X9_rest_43 ?_
          refine kr_goto d_X9_rest_45 ?_
          exact kr_ireturn d_X9_rest_54 rfl
      · refine kr_const (v := (-1000000012)) d_X9_rest_36 ?_
        exact kr_ireturn d_X9_rest_38 rfl
    · refine kr_const (v := (-1000000011)) d_X9_rest_24 ?_
      exact kr_ireturn d_X9_rest_27 rfl
  · refine kr_const (v := (-1000000001)) d_X9_rest_7 ?_
    exact kr_ireturn d_X9_rest_9 rfl

/-! X9_tell -/
def f_X9_tell (x1 : Int32) (h : kv_H) : Option (Int32 × kv_H) :=
  if (h 0 10) < (60 : Int32) then (kv_k (h 0 10) 60 (kv_hl (kv_up h 5 (h 0 10).toNatClampNeg x1) (fun h1 =>
    kv_hl (kv_up h1 0 10 ((h1 0 10) + 1)) (fun h2 =>
    some ((h2 0 10), h2)))))
  else (some ((-1000000003), h))
set_option maxRecDepth 20000 in
theorem m_X9_tell (x1 : Int32) (h : kv_H) : kv_M kv_i kK_X9_tell [.ref 0, .int x1] h (f_X9_tell x1 h) := by
  refine kv_met (ls := [some (.ref 0), some (.int x1)]) (show plainName RX9 = true by decide +kernel) (fun _ => rfl) (fun _ => Nat.le_of_ble_eq_true rfl) ?_
  unfold f_X9_tell
  refine kr_aload0 d_X9_tell_0 ?_
  refine kr_getI d_X9_tell_1 fl_X9_344 sh_0 rfl ?_
  refine kr_const (v := 60) d_X9_tell_4 ?_
  refine kr_icmp_lt d_X9_tell_6 ?_ ?_
  · refine kr_aload0 d_X9_tell_12 ?_
    refine kr_getR (q := 5) d_X9_tell_13 fl_X9_64 sh_0 rfl ?_
    refine kr_aload0 d_X9_tell_16 ?_
    refine kr_getI d_X9_tell_17 fl_X9_344 sh_0 rfl ?_
    refine kr_iload1 d_X9_tell_20 ?_
    refine kr_iastore d_X9_tell_21 sh_5 ?_
    refine kr_hl (fun h1 => ?_)
    refine kr_aload0 d_X9_tell_22 ?_
    refine kr_dup d_X9_tell_23 rfl ?_
    refine kr_getI d_X9_tell_24 fl_X9_344 sh_0 rfl ?_
    refine kr_const (v := 1) d_X9_tell_27 ?_
    refine kr_iadd d_X9_tell_28 ?_
    refine kr_putI d_X9_tell_29 fp_X9_344 sh_0 rfl rfl rfl ?_
    refine kr_hl (fun h2 => ?_)
    refine kr_aload0 d_X9_tell_32 ?_
    refine kr_getI d_X9_tell_33 fl_X9_344 sh_0 rfl ?_
    exact kr_ireturn d_X9_tell_36 rfl
  · refine kr_const (v := (-1000000003)) d_X9_tell_9 ?_
    exact kr_ireturn d_X9_tell_11 rfl

/-! X9_isWaiting -/
def f_X9_isWaiting (x1 : Int32) (x2 : Int32) (x3 : Int32) (h : kv_H) : Option (Int32 × kv_H) :=
  if x2 ≤ x1 then (some (0, h))
  else (if (60 : Int32) ≤ x1 then (some (0, h))
    else (kv_k x1 60 (if (h 5 x1.toNatClampNeg) = x3 then (some (1, h))
      else (some (0, h)))))
set_option maxRecDepth 20000 in
theorem m_X9_isWaiting (x1 : Int32) (x2 : Int32) (x3 : Int32) (h : kv_H) : kv_M kv_i kK_X9_isWaiting [.ref 0, .int x1, .int x2, .int x3] h (f_X9_isWaiting x1 x2 x3 h) := by
  refine kv_met (ls := [some (.ref 0), some (.int x1), some (.int x2), some (.int x3)]) (show plainName RX9 = true by decide +kernel) (fun _ => rfl) (fun _ => Nat.le_of_ble_eq_true rfl) ?_
  unfold f_X9_isWaiting
  refine kr_iload1 d_X9_isWaiting_0 ?_
  refine kr_iload2 d_X9_isWaiting_1 ?_
  refine kr_icmp_ge d_X9_isWaiting_2 ?_ ?_
  · refine kr_const (v := 0) d_X9_isWaiting_25 ?_
    exact kr_zreturnK (by decide) d_X9_isWaiting_26 rfl
  · refine kr_iload1 d_X9_isWaiting_5 ?_
    refine kr_const (v := 60) d_X9_isWaiting_6 ?_
    refine kr_icmp_ge d_X9_isWaiting_8 ?_ ?_
    · refine kr_const (v := 0) d_X9_isWaiting_25 ?_
      exact kr_zreturnK (by decide) d_X9_isWaiting_26 rfl
    · refine kr_aload0 d_X9_isWaiting_11 ?_
      refine kr_getR (q := 5) d_X9_isWaiting_12 fl_X9_64 sh_0 rfl ?_
      refine kr_iload1 d_X9_isWaiting_15 ?_
      refine kr_iaload d_X9_isWaiting_16 sh_5 ?_
      refine kr_iload3 d_X9_isWaiting_17 ?_
      refine kr_icmp_ne d_X9_isWaiting_18 ?_ ?_
      · refine kr_const (v := 0) d_X9_isWaiting_25 ?_
        exact kr_zreturnK (by decide) d_X9_isWaiting_26 rfl
      · refine kr_const (v := 1) d_X9_isWaiting_21 ?_
        refine kr_goto d_X9_isWaiting_22 ?_
        exact kr_zreturnK (by decide) d_X9_isWaiting_26 rfl

/-! X9_check -/
def f_X9_check_L73 (c1 : Int32) (c2 : Int32) (c3 : Int32) : Nat → Int32 → kv_H → (kv_H → Option (Int32 × kv_H)) → Option (Int32 × kv_H)
  | 0, _, _, _ => none
  | n + 1, v5, h, C => if c1 ≤ v5 then (C h)
    else (kv_b (f_X0_draw 6 h) (fun r6 h5 =>
      kv_z c3 (kv_vl (r6 - r6 / c3 * c3) (fun e7 =>
      kv_b (f_X8_asking 95 6 e7 h5) (fun r9 h8 =>
      kv_b (f_X9_isWaiting (2 * v5) c2 ((10 * e7) + r9) h8) (fun r11 h10 =>
      if r11 = 0 then (some ((1 + (2 * v5)), h10))
      else (kv_b (f_X9_isWaiting ((2 * v5) + 1) c2 (h10 6 4) h10) (fun r13 h12 =>
        if r13 = 0 then (some ((2 + (2 * v5)), h12))
        else (f_X9_check_L73 c1 c2 c3 n (v5 + 1) h12 C)))))))))
def f_X9_check (x1 : Int32) (h : kv_H) : Option (Int32 × kv_H) :=
  kv_vl (h 0 10) (fun e1 =>
  kv_hl (kv_up h 0 10 0) (fun h2 =>
  if x1 < (1 : Int32) then (some ((-1000000001), h2))
  else (if x1 ≤ (30 : Int32) then (kv_vl (h2 98 8) (fun e3 =>
      if (h2 0 11) = 0 then (some ((-1000000002), h2))
      else (if (1 : Int32) ≤ e3 then (kv_b (f_X0_becomes 6 107 h2) (fun _ h4 =>
          f_X9_check_L73 x1 e1 e3 kv_fu 0 h4 (fun  h14 =>
          if e1 ≤ (2 * x1) then (some (0, h14))
            else (some ((1 + (2 * x1)), h14)))))
        else (some ((-1000000002), h2)))))
    else (some ((-1000000001), h2)))))
set_option maxRecDepth 20000 in
theorem s_f_X9_check_L73 (c1 : Int32) (c2 : Int32) (c3 : Int32) : ∀ (n : Nat) (v5 : Int32) (h : kv_H) (C : kv_H → Option (Int32 × kv_H)), (∀  (h : kv_H), kv_S kv_i kK_X9_check 160 [none, some (.int c1), some (.int c2), none, none, none, none, none] [] h (C h)) → kv_S kv_i kK_X9_check 73 [some (.ref 0), some (.int c1), some (.int c2), some (.int c3), some (.ref 6), some (.int v5), none, none] [] h (f_X9_check_L73 c1 c2 c3 n v5 h C) := by
  intro n
  induction n with
  | zero => intros; exact kv_none
  | succ n ih =>
    intro v5 h C hC
    unfold f_X9_check_L73
    refine kr_iload5 d_X9_check_73 ?_
    refine kr_iload1 d_X9_check_75 ?_
    refine kr_icmp_ge d_X9_check_76 ?_ ?_
    · refine kr_kill0 ?_
      refine kr_kill3 ?_
      refine kr_kill4 ?_
      refine kr_kill5 ?_
      exact hC h
    · refine kr_aload4 d_X9_check_79 ?_
      refine kr_iv_i (As := []) d_X9_check_81 cl_X9_201 (m_X0_draw 6 co_6 h) sh_6 (Nat.le_of_ble_eq_true rfl) rfl (Nat.le_of_ble_eq_true rfl) (fun r6 h5 => ?_)
      refine kr_iload3 d_X9_check_84 ?_
      refine kr_irem d_X9_check_85 ?_
      refine kr_vl (fun e7 => ?_)
      refine kr_istore6 d_X9_check_86 (Nat.le_of_ble_eq_true rfl) kv_c1i ?_
      refine kr_aload0 d_X9_check_88 ?_
      refine kr_getR (q := 95) d_X9_check_89 fl_X9_25 sh_0 rfl ?_
      refine kr_aload4 d_X9_check_92 ?_
      refine kr_iload6 d_X9_check_94 ?_
      refine kr_iv_i (As := [.ref 6, .int e7]) d_X9_check_96 cl_X9_185 (m_X8_asking 95 wo_95 6 co_6 e7 h5) sh_95 (Nat.le_of_ble_eq_true rfl) rfl (Nat.le_of_ble_eq_true rfl) (fun r9 h8 => ?_)
      refine kr_istore7 d_X9_check_99 (Nat.le_of_ble_eq_true rfl) kv_c1i ?_
      refine kr_aload0 d_X9_check_101 ?_
      refine kr_const (v := 2) d_X9_check_102 ?_
      refine kr_iload5 d_X9_check_103 ?_
      refine kr_imul d_X9_check_105 ?_
      refine kr_iload2 d_X9_check_106 ?_
      refine kr_const (v := 10) d_X9_check_107 ?_
      refine kr_iload6 d_X9_check_109 ?_
      refine kr_imul d_X9_check_111 ?_
      refine kr_iload7 d_X9_check_112 ?_
      refine kr_iadd d_X9_check_114 ?_
      refine kr_iv_i (As := [.int (2 * v5), .int c2, .int ((10 * e7) + r9)]) d_X9_check_115 cl_X9_351 (m_X9_isWaiting (2 * v5) c2 ((10 * e7) + r9) h8) sh_0 (Nat.le_of_ble_eq_true rfl) rfl (Nat.le_of_ble_eq_true rfl) (fun r11 h10 => ?_)
      refine kr_if_ne d_X9_check_118 ?_ ?_
      · refine kr_aload0 d_X9_check_128 ?_
        refine kr_const (v := 2) d_X9_check_129 ?_
        refine kr_iload5 d_X9_check_130 ?_
        refine kr_imul d_X9_check_132 ?_
        refine kr_const (v := 1) d_X9_check_133 ?_
        refine kr_iadd d_X9_check_134 ?_
        refine kr_iload2 d_X9_check_135 ?_
        refine kr_aload4 d_X9_check_136 ?_
        refine kr_getI d_X9_check_138 fl_X9_146 sh_6 rfl ?_
        refine kr_iv_i (As := [.int ((2 * v5) + 1), .int c2, .int (h10 6 4)]) d_X9_check_141 cl_X9_351 (m_X9_isWaiting ((2 * v5) + 1) c2 (h10 6 4) h10) sh_0 (Nat.le_of_ble_eq_true rfl) rfl (Nat.le_of_ble_eq_true rfl) (fun r13 h12 => ?_)
        refine kr_if_ne d_X9_check_144 ?_ ?_
        · refine kr_iinc5 d_X9_check_154 (Nat.le_of_ble_eq_true rfl) kv_c1a ?_
          refine kr_goto d_X9_check_157 ?_
          refine kr_kill6 ?_
          refine kr_kill7 ?_
          exact ih (v5 + 1) h12 C hC
        · refine kr_const (v := 2) d_X9_check_147 ?_
          refine kr_const (v := 2) d_X9_check_148 ?_
          refine kr_iload5 d_X9_check_149 ?_
          refine kr_imul d_X9_check_151 ?_
          refine kr_iadd d_X9_check_152 ?_
          exact kr_ireturn d_X9_check_153 rfl
      · refine kr_const (v := 1) d_X9_check_121 ?_
        refine kr_const (v := 2) d_X9_check_122 ?_
        refine kr_iload5 d_X9_check_123 ?_
        refine kr_imul d_X9_check_125 ?_
        refine kr_iadd d_X9_check_126 ?_
        exact kr_ireturn d_X9_check_127 rfl

set_option maxRecDepth 20000 in
theorem m_X9_check (x1 : Int32) (h : kv_H) : kv_M kv_i kK_X9_check [.ref 0, .int x1] h (f_X9_check x1 h) := by
  refine kv_met (ls := [some (.ref 0), some (.int x1), none, none, none, none, none, none]) (show plainName RX9 = true by decide +kernel) (fun _ => rfl) (fun _ => Nat.le_of_ble_eq_true rfl) ?_
  unfold f_X9_check
  refine kr_aload0 d_X9_check_0 ?_
  refine kr_getI d_X9_check_1 fl_X9_344 sh_0 rfl ?_
  refine kr_vl (fun e1 => ?_)
  refine kr_istore2 d_X9_check_4 (Nat.le_of_ble_eq_true rfl) kv_c1i ?_
  refine kr_aload0 d_X9_check_5 ?_
  refine kr_const (v := 0) d_X9_check_6 ?_
  refine kr_putI d_X9_check_7 fp_X9_344 sh_0 rfl rfl rfl ?_
  refine kr_hl (fun h2 => ?_)
  refine kr_iload1 d_X9_check_10 ?_
  refine kr_const (v := 1) d_X9_check_11 ?_
  refine kr_icmp_lt d_X9_check_12 ?_ ?_
  · refine kr_const (v := (-1000000001)) d_X9_check_21 ?_
    exact kr_ireturn d_X9_check_23 rfl
  · refine kr_iload1 d_X9_check_15 ?_
    refine kr_const (v := 30) d_X9_check_16 ?_
    refine kr_icmp_le d_X9_check_18 ?_ ?_
    · refine kr_aload0 d_X9_check_24 ?_
      refine kr_getR (q := 95) d_X9_check_25 fl_X9_25 sh_0 rfl ?_
      refine kr_getR (q := 98) d_X9_check_28 fl_X9_80 sh_95 rfl ?_
      refine kr_getI d_X9_check_31 fl_X9_84 sh_98 rfl ?_
      refine kr_vl (fun e3 => ?_)
      refine kr_istore3 d_X9_check_34 (Nat.le_of_ble_eq_true rfl) kv_c1i ?_
      refine kr_aload0 d_X9_check_35 ?_
      refine kr_getI d_X9_check_36 fl_X9_347 sh_0 rfl ?_
      refine kr_if_eq d_X9_check_39 ?_ ?_
      · refine kr_const (v := (-1000000002)) d_X9_check_47 ?_
        exact kr_ireturn d_X9_check_49 rfl
      · refine kr_iload3 d_X9_check_42 ?_
        refine kr_const (v := 1) d_X9_check_43 ?_
        refine kr_icmp_ge d_X9_check_44 ?_ ?_
        · refine kr_aload0 d_X9_check_50 ?_
          refine kr_getR (q := 1) d_X9_check_51 fl_X9_44 sh_0 rfl ?_
          refine kr_const (v := 0) d_X9_check_54 ?_
          refine kr_aaloadC (j := 0) (q := 6) ⟨by decide, by decide, by decide⟩ rfl d_X9_check_55 sh_1 (Or.inl rfl) ?_
          refine kr_astore4 d_X9_check_56 (Nat.le_of_ble_eq_true rfl) kv_c1i ?_
          refine kr_aload4 d_X9_check_58 ?_
          refine kr_aload0 d_X9_check_60 ?_
          refine kr_getR (q := 95) d_X9_check_61 fl_X9_25 sh_0 rfl ?_
          refine kr_getR (q := 107) d_X9_check_64 fl_X9_109 sh_95 rfl ?_
          refine kr_iv_u (As := [.ref 107]) d_X9_check_67 cl_X9_220 (m_X0_becomes 6 co_6 107 co_107 h2) sh_6 (Nat.le_of_ble_eq_true rfl) rfl (Nat.le_of_ble_eq_true rfl) (fun h4 => ?_)
          refine kr_const (v := 0) d_X9_check_70 ?_
          refine kr_istore5 d_X9_check_71 (Nat.le_of_ble_eq_true rfl) kv_c1a ?_
          refine s_f_X9_check_L73 x1 e1 e3 kv_fu 0 h4 _ (fun  h14 => ?_)
          refine kr_iload2 d_X9_check_160 ?_
          refine kr_const (v := 2) d_X9_check_161 ?_
          refine kr_iload1 d_X9_check_162 ?_
          refine kr_imul d_X9_check_163 ?_
          refine kr_icmp_le d_X9_check_164 ?_ ?_
          · refine kr_const (v := 0) d_X9_check_175 ?_
            exact kr_ireturn d_X9_check_176 rfl
          · refine kr_const (v := 1) d_X9_check_167 ?_
            refine kr_const (v := 2) d_X9_check_168 ?_
            refine kr_iload1 d_X9_check_169 ?_
            refine kr_imul d_X9_check_170 ?_
            refine kr_iadd d_X9_check_171 ?_
            refine kr_goto d_X9_check_172 ?_
            exact kr_ireturn d_X9_check_176 rfl
        · refine kr_const (v := (-1000000002)) d_X9_check_47 ?_
          exact kr_ireturn d_X9_check_49 rfl
    · refine kr_const (v := (-1000000001)) d_X9_check_21 ?_
      exact kr_ireturn d_X9_check_23 rfl

/-! X9_keep -/
def f_X9_keep (h : kv_H) : Option (Int32 × kv_H) :=
  kv_b (f_X8_becomes 95 79 h) (fun _ h1 =>
  kv_hl (kv_up h1 0 11 1) (fun h2 =>
  some ((h2 98 8), h2)))
set_option maxRecDepth 20000 in
theorem m_X9_keep (h : kv_H) : kv_M kv_i kK_X9_keep [.ref 0] h (f_X9_keep h) := by
  refine kv_met (ls := [some (.ref 0)]) (show plainName RX9 = true by decide +kernel) (fun _ => rfl) (fun _ => Nat.le_of_ble_eq_true rfl) ?_
  unfold f_X9_keep
  refine kr_aload0 d_X9_keep_0 ?_
  refine kr_getR (q := 95) d_X9_keep_1 fl_X9_25 sh_0 rfl ?_
  refine kr_aload0 d_X9_keep_4 ?_
  refine kr_getR (q := 79) d_X9_keep_5 fl_X9_21 sh_0 rfl ?_
  refine kr_iv_u (As := [.ref 79]) d_X9_keep_8 cl_X9_355 (m_X8_becomes 95 wo_95 79 wo_79 h) sh_95 (Nat.le_of_ble_eq_true rfl) rfl (Nat.le_of_ble_eq_true rfl) (fun h1 => ?_)
  refine kr_aload0 d_X9_keep_11 ?_
  refine kr_const (v := 1) d_X9_keep_12 ?_
  refine kr_putI d_X9_keep_13 fp_X9_347 sh_0 rfl (by decide) rfl ?_
  refine kr_hl (fun h2 => ?_)
  refine kr_aload0 d_X9_keep_16 ?_
  refine kr_getR (q := 95) d_X9_keep_17 fl_X9_25 sh_0 rfl ?_
  refine kr_getR (q := 98) d_X9_keep_20 fl_X9_80 sh_95 rfl ?_
  refine kr_getI d_X9_keep_23 fl_X9_84 sh_98 rfl ?_
  exact kr_ireturn d_X9_keep_26 rfl

/-! X9_back -/
def f_X9_back (h : kv_H) : Option (Int32 × kv_H) :=
  if (h 0 11) = 0 then (some ((-1000000002), h))
  else (kv_b (f_X8_becomes 79 95 h) (fun _ h1 =>
    some ((h1 82 8), h1)))
set_option maxRecDepth 20000 in
theorem m_X9_back (h : kv_H) : kv_M kv_i kK_X9_back [.ref 0] h (f_X9_back h) := by
  refine kv_met (ls := [some (.ref 0)]) (show plainName RX9 = true by decide +kernel) (fun _ => rfl) (fun _ => Nat.le_of_ble_eq_true rfl) ?_
  unfold f_X9_back
  refine kr_aload0 d_X9_back_0 ?_
  refine kr_getI d_X9_back_1 fl_X9_347 sh_0 rfl ?_
  refine kr_if_ne d_X9_back_4 ?_ ?_
  · refine kr_aload0 d_X9_back_10 ?_
    refine kr_getR (q := 79) d_X9_back_11 fl_X9_21 sh_0 rfl ?_
    refine kr_aload0 d_X9_back_14 ?_
    refine kr_getR (q := 95) d_X9_back_15 fl_X9_25 sh_0 rfl ?_
    refine kr_iv_u (As := [.ref 95]) d_X9_back_18 cl_X9_355 (m_X8_becomes 79 wo_79 95 wo_95 h) sh_79 (Nat.le_of_ble_eq_true rfl) rfl (Nat.le_of_ble_eq_true rfl) (fun h1 => ?_)
    refine kr_aload0 d_X9_back_21 ?_
    refine kr_getR (q := 79) d_X9_back_22 fl_X9_21 sh_0 rfl ?_
    refine kr_getR (q := 82) d_X9_back_25 fl_X9_80 sh_79 rfl ?_
    refine kr_getI d_X9_back_28 fl_X9_84 sh_82 rfl ?_
    exact kr_ireturn d_X9_back_31 rfl
  · refine kr_const (v := (-1000000002)) d_X9_back_7 ?_
    exact kr_ireturn d_X9_back_9 rfl

/-! X9_count -/
def f_X9_count (x1 : Int32) (h : kv_H) : Option (Int32 × kv_H) :=
  kv_sw x1 [0, 1, 2, 3, 4, 5, 6, 7, 8, 9, 10, 11, 12, 13] [(some ((h 82 8), h)),
  (some ((h 91 3), h)),
  (some ((h 91 4), h)),
  (kv_b (f_X1_roomsOf 82 (h 91 4) h) (fun r2 h1 =>
    some (r2, h1))),
  (some ((h 79 7), h)),
  (some ((h 79 8), h)),
  (some ((h 79 9), h)),
  (some ((h 91 5), h)),
  (some ((h 91 6), h)),
  (some ((h 79 5), h)),
  (some ((h 79 6), h)),
  (some ((h 0 10), h)),
  (some ((h 41 1), h)),
  (some ((h 91 7), h))] (some ((-1000000001), h))
set_option maxRecDepth 20000 in
theorem m_X9_count (x1 : Int32) (h : kv_H) : kv_M kv_i kK_X9_count [.ref 0, .int x1] h (f_X9_count x1 h) := by
  refine kv_met (ls := [some (.ref 0), some (.int x1)]) (show plainName RX9 = true by decide +kernel) (fun _ => rfl) (fun _ => Nat.le_of_ble_eq_true rfl) ?_
  unfold f_X9_count
  refine kr_iload1 d_X9_count_0 ?_
  refine kr_sw d_X9_count_1 ?_ ⟨?_, ?_, ?_, ?_, ?_, ?_, ?_, ?_, ?_, ?_, ?_, ?_, ?_, ?_, trivial⟩
  · refine kr_const (v := (-1000000001)) d_X9_count_212 ?_
    exact kr_ireturn d_X9_count_214 rfl
  · refine kr_aload0 d_X9_count_72 ?_
    refine kr_getR (q := 79) d_X9_count_73 fl_X9_21 sh_0 rfl ?_
    refine kr_getR (q := 82) d_X9_count_76 fl_X9_80 sh_79 rfl ?_
    refine kr_getI d_X9_count_79 fl_X9_84 sh_82 rfl ?_
    exact kr_ireturn d_X9_count_82 rfl
  · refine kr_aload0 d_X9_count_83 ?_
    refine kr_getR (q := 79) d_X9_count_84 fl_X9_21 sh_0 rfl ?_
    refine kr_getR (q := 91) d_X9_count_87 fl_X9_109 sh_79 rfl ?_
    refine kr_getI d_X9_count_90 fl_X9_358 sh_91 rfl ?_
    exact kr_ireturn d_X9_count_93 rfl
  · refine kr_aload0 d_X9_count_94 ?_
    refine kr_getR (q := 79) d_X9_count_95 fl_X9_21 sh_0 rfl ?_
    refine kr_getR (q := 91) d_X9_count_98 fl_X9_109 sh_79 rfl ?_
    refine kr_getI d_X9_count_101 fl_X9_146 sh_91 rfl ?_
    exact kr_ireturn d_X9_count_104 rfl
  · refine kr_aload0 d_X9_count_105 ?_
    refine kr_getR (q := 79) d_X9_count_106 fl_X9_21 sh_0 rfl ?_
    refine kr_getR (q := 82) d_X9_count_109 fl_X9_80 sh_79 rfl ?_
    refine kr_aload0 d_X9_count_112 ?_
    refine kr_getR (q := 79) d_X9_count_113 fl_X9_21 sh_0 rfl ?_
    refine kr_getR (q := 91) d_X9_count_116 fl_X9_109 sh_79 rfl ?_
    refine kr_getI d_X9_count_119 fl_X9_146 sh_91 rfl ?_
    refine kr_iv_i (As := [.int (h 91 4)]) d_X9_count_122 cl_X9_238 (m_X1_roomsOf 82 le_82 (h 91 4) h) sh_82 (Nat.le_of_ble_eq_true rfl) rfl (Nat.le_of_ble_eq_true rfl) (fun r2 h1 => ?_)
    exact kr_ireturn d_X9_count_125 rfl
  · refine kr_aload0 d_X9_count_126 ?_
    refine kr_getR (q := 79) d_X9_count_127 fl_X9_21 sh_0 rfl ?_
    refine kr_getI d_X9_count_130 fl_X9_172 sh_79 rfl ?_
    exact kr_ireturn d_X9_count_133 rfl
  · refine kr_aload0 d_X9_count_134 ?_
    refine kr_getR (q := 79) d_X9_count_135 fl_X9_21 sh_0 rfl ?_
    refine kr_getI d_X9_count_138 fl_X9_179 sh_79 rfl ?_
    exact kr_ireturn d_X9_count_141 rfl
  · refine kr_aload0 d_X9_count_142 ?_
    refine kr_getR (q := 79) d_X9_count_143 fl_X9_21 sh_0 rfl ?_
    refine kr_getI d_X9_count_146 fl_X9_182 sh_79 rfl ?_
    exact kr_ireturn d_X9_count_149 rfl
  · refine kr_aload0 d_X9_count_150 ?_
    refine kr_getR (q := 79) d_X9_count_151 fl_X9_21 sh_0 rfl ?_
    refine kr_getR (q := 91) d_X9_count_154 fl_X9_109 sh_79 rfl ?_
    refine kr_getI d_X9_count_157 fl_X9_361 sh_91 rfl ?_
    exact kr_ireturn d_X9_count_160 rfl
  · refine kr_aload0 d_X9_count_161 ?_
    refine kr_getR (q := 79) d_X9_count_162 fl_X9_21 sh_0 rfl ?_
    refine kr_getR (q := 91) d_X9_count_165 fl_X9_109 sh_79 rfl ?_
    refine kr_getI d_X9_count_168 fl_X9_364 sh_91 rfl ?_
    exact kr_ireturn d_X9_count_171 rfl
  · refine kr_aload0 d_X9_count_172 ?_
    refine kr_getR (q := 79) d_X9_count_173 fl_X9_21 sh_0 rfl ?_
    refine kr_getI d_X9_count_176 fl_X9_208 sh_79 rfl ?_
    exact kr_ireturn d_X9_count_179 rfl
  · refine kr_aload0 d_X9_count_180 ?_
    refine kr_getR (q := 79) d_X9_count_181 fl_X9_21 sh_0 rfl ?_
    refine kr_getI d_X9_count_184 fl_X9_265 sh_79 rfl ?_
    exact kr_ireturn d_X9_count_187 rfl
  · refine kr_aload0 d_X9_count_188 ?_
    refine kr_getI d_X9_count_189 fl_X9_344 sh_0 rfl ?_
    exact kr_ireturn d_X9_count_192 rfl
  · refine kr_aload0 d_X9_count_193 ?_
    refine kr_getR (q := 41) d_X9_count_194 fl_X9_31 sh_0 rfl ?_
    refine kr_getI d_X9_count_197 fl_X9_255 sh_41 rfl ?_
    exact kr_ireturn d_X9_count_200 rfl
  · refine kr_aload0 d_X9_count_201 ?_
    refine kr_getR (q := 79) d_X9_count_202 fl_X9_21 sh_0 rfl ?_
    refine kr_getR (q := 91) d_X9_count_205 fl_X9_109 sh_79 rfl ?_
    refine kr_getI d_X9_count_208 fl_X9_188 sh_91 rfl ?_
    exact kr_ireturn d_X9_count_211 rfl


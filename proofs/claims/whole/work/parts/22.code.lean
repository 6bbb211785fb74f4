/-! X7_valueOf -/
def f_X7_valueOf_L56 (q6 : Nat) : Nat → Int32 → Int32 → kv_H → (kv_H → Option (Int32 × kv_H)) → Option (Int32 × kv_H)
  | 0, _, _, _, _ => none
  | n + 1, v7, v8, h, C => if (h q6 1) ≤ v8 then (C h)
    else (kv_k v8 96 (kv_vl ((h (q6 + 1) v8.toNatClampNeg) &&& 15) (fun e6 =>
      kv_k v8 96 (kv_vl ((h (q6 + 1) v8.toNatClampNeg) >>> (4 &&& 31)) (fun e7 =>
      if e6 = (10 : Int32) then (kv_k (v7 + 1) 96 (kv_hl (kv_up h 49 (v7 + 1).toNatClampNeg e7) (fun h16 =>
        f_X7_valueOf_L56 q6 n (v7 + 1) (v8 + 1) h16 C)))
      else (kv_jn (fun  (h8 : kv_H) =>
        kv_jn (fun  (h9 : kv_H) =>
          if v7 < (1 : Int32) then (f_X7_valueOf_L56 q6 n v7 (v8 + 1) h9 C)
            else (kv_k (v7 + (-1)) 96 (kv_k ((v7 + (-1)) + 1) 96 (kv_b (f_X7_join e6 (h9 49 (v7 + (-1)).toNatClampNeg) (h9 49 ((v7 + (-1)) + 1).toNatClampNeg) h9) (fun r11 h10 =>
              kv_k (v7 + (-1)) 96 (kv_hl (kv_up h10 49 (v7 + (-1)).toNatClampNeg r11) (fun h12 =>
              f_X7_valueOf_L56 q6 n (v7 + (-1)) (v8 + 1) h12 C))))))) (fun (J183 : kv_H → Option (Int32 × kv_H)) =>
          if e6 = (9 : Int32) then (if v7 < 0 then (J183 h8)
            else (kv_k v7 96 (if (h8 49 v7.toNatClampNeg) = 0 then (kv_k v7 96 (kv_hl (kv_up h8 49 v7.toNatClampNeg 1) (fun h14 =>
                f_X7_valueOf_L56 q6 n v7 (v8 + 1) h14 C)))
              else (kv_k v7 96 (kv_hl (kv_up h8 49 v7.toNatClampNeg 0) (fun h13 =>
                f_X7_valueOf_L56 q6 n v7 (v8 + 1) h13 C))))))
          else (J183 h8))) (fun (J146 : kv_H → Option (Int32 × kv_H)) =>
        if e6 = (11 : Int32) then (if (4 : Int32) ≤ e7 then (J146 h)
          else (kv_k e7 4 (kv_k (v7 + 1) 96 (kv_hl (kv_up h 49 (v7 + 1).toNatClampNeg (h 50 e7.toNatClampNeg)) (fun h15 =>
            f_X7_valueOf_L56 q6 n (v7 + 1) (v8 + 1) h15 C)))))
        else (J146 h))))))))
def f_X7_valueOf (x1 : Int32) (x2 : Int32) (x3 : Int32) (x4 : Int32) (x5 : Int32) (h : kv_H) : Option (Int32 × kv_H) :=
  if x1 < 0 then (some (0, h))
  else (if x1 < (14 : Int32) then (kv_hl (kv_up h 50 0 x2) (fun h1 =>
      kv_hl (kv_up h1 50 1 x3) (fun h2 =>
      kv_hl (kv_up h2 50 2 x4) (fun h3 =>
      kv_hl (kv_up h3 50 3 x5) (fun h4 =>
      kv_k x1 14 (f_X7_valueOf_L56 (51 + 2 * x1.toNatClampNeg) kv_fu (-1) 0 h4 (fun  h17 =>
      some ((h17 49 0), h17))))))))
    else (some (0, h)))
set_option maxRecDepth 20000 in
theorem s_f_X7_valueOf_L56 (q6 : Nat) (hq6 : kv_Te q6) : ∀ (n : Nat) (v7 : Int32) (v8 : Int32) (h : kv_H) (C : kv_H → Option (Int32 × kv_H)), (∀  (h : kv_H), kv_S kv_i kK_X7_valueOf 226 [some (.ref 47), none, none, none, none, none, none, none, none, none, none] [] h (C h)) → kv_S kv_i kK_X7_valueOf 56 [some (.ref 47), none, none, none, none, none, some (.ref q6), some (.int v7), some (.int v8), none, none] [] h (f_X7_valueOf_L56 q6 n v7 v8 h C) := by
  intro n
  induction n with
  | zero => intros; exact kv_none
  | succ n ih =>
    intro v7 v8 h C hC
    unfold f_X7_valueOf_L56
    refine kr_iload8 d_X7_valueOf_56 ?_
    refine kr_aload6 d_X7_valueOf_58 ?_
    refine kr_getI d_X7_valueOf_60 fl_X7_25 hq6.1 rfl ?_
    refine kr_icmp_ge d_X7_valueOf_63 ?_ ?_
    · refine kr_kill6 ?_
      refine kr_kill7 ?_
      refine kr_kill8 ?_
      exact hC h
    · refine kr_aload6 d_X7_valueOf_66 ?_
      refine kr_getR (q := (q6 + 1)) d_X7_valueOf_68 fl_X7_29 hq6.1 rfl ?_
      refine kr_iload8 d_X7_valueOf_71 ?_
      refine kr_iaload d_X7_valueOf_73 hq6.2 ?_
      refine kr_const (v := 15) d_X7_valueOf_74 ?_
      refine kr_iand d_X7_valueOf_76 ?_
      refine kr_vl (fun e6 => ?_)
      refine kr_istore9 d_X7_valueOf_77 (Nat.le_of_ble_eq_true rfl) kv_c1i ?_
      refine kr_aload6 d_X7_valueOf_79 ?_
      refine kr_getR (q := (q6 + 1)) d_X7_valueOf_81 fl_X7_29 hq6.1 rfl ?_
      refine kr_iload8 d_X7_valueOf_84 ?_
      refine kr_iaload d_X7_valueOf_86 hq6.2 ?_
      refine kr_const (v := 4) d_X7_valueOf_87 ?_
      refine kr_ishr d_X7_valueOf_88 ?_
      refine kr_vl (fun e7 => ?_)
      refine kr_istore10 d_X7_valueOf_89 (Nat.le_of_ble_eq_true rfl) kv_c1i ?_
      refine kr_iload9 d_X7_valueOf_91 ?_
      refine kr_const (v := 10) d_X7_valueOf_93 ?_
      refine kr_icmp_ne d_X7_valueOf_95 ?_ ?_
      · refine kr_iload9 d_X7_valueOf_113 ?_
        refine kr_const (v := 11) d_X7_valueOf_115 ?_
        refine kr_jn (P := fun J146 =>  ∀ (h8 : kv_H), kv_S kv_i kK_X7_valueOf 146 [some (.ref 47), none, none, none, none, none, some (.ref q6), some (.int v7), some (.int v8), some (.int e6), none] [] h8 (J146  h8)) (fun  h8 => ?_) (fun J146 hJ146 => ?_)
        · refine kr_iload9 d_X7_valueOf_146 ?_
          refine kr_const (v := 9) d_X7_valueOf_148 ?_
          refine kr_jn (P := fun J183 =>  ∀ (h9 : kv_H), kv_S kv_i kK_X7_valueOf 183 [some (.ref 47), none, none, none, none, none, some (.ref q6), some (.int v7), some (.int v8), some (.int e6), none] [] h9 (J183  h9)) (fun  h9 => ?_) (fun J183 hJ183 => ?_)
          · refine kr_iload7 d_X7_valueOf_183 ?_
            refine kr_const (v := 1) d_X7_valueOf_185 ?_
            refine kr_icmp_lt d_X7_valueOf_186 ?_ ?_
            · refine kr_iinc8 d_X7_valueOf_220 (Nat.le_of_ble_eq_true rfl) kv_c1i ?_
              refine kr_goto d_X7_valueOf_223 ?_
              refine kr_kill9 ?_
              exact ih v7 (v8 + 1) h9 C hC
            · refine kr_iinc7 d_X7_valueOf_189 (Nat.le_of_ble_eq_true rfl) kv_c1a ?_
              refine kr_aload0 d_X7_valueOf_192 ?_
              refine kr_getR (q := 49) d_X7_valueOf_193 fl_X7_17 sh_47 rfl ?_
              refine kr_iload7 d_X7_valueOf_196 ?_
              refine kr_iload9 d_X7_valueOf_198 ?_
              refine kr_aload0 d_X7_valueOf_200 ?_
              refine kr_getR (q := 49) d_X7_valueOf_201 fl_X7_17 sh_47 rfl ?_
              refine kr_iload7 d_X7_valueOf_204 ?_
              refine kr_iaload d_X7_valueOf_206 sh_49 ?_
              refine kr_aload0 d_X7_valueOf_207 ?_
              refine kr_getR (q := 49) d_X7_valueOf_208 fl_X7_17 sh_47 rfl ?_
              refine kr_iload7 d_X7_valueOf_211 ?_
              refine kr_const (v := 1) d_X7_valueOf_213 ?_
              refine kr_iadd d_X7_valueOf_214 ?_
              refine kr_iaload d_X7_valueOf_215 sh_49 ?_
              refine kr_is_i (As := [.int e6, .int (h9 49 (v7 + (-1)).toNatClampNeg), .int (h9 49 ((v7 + (-1)) + 1).toNatClampNeg)]) d_X7_valueOf_216 cl_X7_32 (m_X7_join e6 (h9 49 (v7 + (-1)).toNatClampNeg) (h9 49 ((v7 + (-1)) + 1).toNatClampNeg) h9) (Nat.le_of_ble_eq_true rfl) rfl (Nat.le_of_ble_eq_true rfl) (fun r11 h10 => ?_)
              refine kr_iastore d_X7_valueOf_219 sh_49 ?_
              refine kr_hl (fun h12 => ?_)
              refine kr_iinc8 d_X7_valueOf_220 (Nat.le_of_ble_eq_true rfl) kv_c1i ?_
              refine kr_goto d_X7_valueOf_223 ?_
              refine kr_kill9 ?_
              exact ih (v7 + (-1)) (v8 + 1) h12 C hC
          refine kr_icmp_ne d_X7_valueOf_150 ?_ ?_
          · exact hJ183 h8
          · refine kr_iload7 d_X7_valueOf_153 ?_
            refine kr_if_lt d_X7_valueOf_155 ?_ ?_
            · exact hJ183 h8
            · refine kr_aload0 d_X7_valueOf_158 ?_
              refine kr_getR (q := 49) d_X7_valueOf_159 fl_X7_17 sh_47 rfl ?_
              refine kr_iload7 d_X7_valueOf_162 ?_
              refine kr_aload0 d_X7_valueOf_164 ?_
              refine kr_getR (q := 49) d_X7_valueOf_165 fl_X7_17 sh_47 rfl ?_
              refine kr_iload7 d_X7_valueOf_168 ?_
              refine kr_iaload d_X7_valueOf_170 sh_49 ?_
              refine kr_if_ne d_X7_valueOf_171 ?_ ?_
              · refine kr_const (v := 0) d_X7_valueOf_178 ?_
                refine kr_iastore d_X7_valueOf_179 sh_49 ?_
                refine kr_hl (fun h13 => ?_)
                refine kr_goto d_X7_valueOf_180 ?_
                refine kr_iinc8 d_X7_valueOf_220 (Nat.le_of_ble_eq_true rfl) kv_c1i ?_
                refine kr_goto d_X7_valueOf_223 ?_
                refine kr_kill9 ?_
                exact ih v7 (v8 + 1) h13 C hC
              · refine kr_const (v := 1) d_X7_valueOf_174 ?_
                refine kr_goto d_X7_valueOf_175 ?_
                refine kr_iastore d_X7_valueOf_179 sh_49 ?_
                refine kr_hl (fun h14 => ?_)
                refine kr_goto d_X7_valueOf_180 ?_
                refine kr_iinc8 d_X7_valueOf_220 (Nat.le_of_ble_eq_true rfl) kv_c1i ?_
                refine kr_goto d_X7_valueOf_223 ?_
                refine kr_kill9 ?_
                exact ih v7 (v8 + 1) h14 C hC
        refine kr_icmp_ne d_X7_valueOf_117 ?_ ?_
        · refine kr_kill10 ?_
          exact hJ146 h
        · refine kr_iload10 d_X7_valueOf_120 ?_
          refine kr_const (v := 4) d_X7_valueOf_122 ?_
          refine kr_icmp_ge d_X7_valueOf_123 ?_ ?_
          · refine kr_kill10 ?_
            exact hJ146 h
          · refine kr_iinc7 d_X7_valueOf_126 (Nat.le_of_ble_eq_true rfl) kv_c1a ?_
            refine kr_aload0 d_X7_valueOf_129 ?_
            refine kr_getR (q := 49) d_X7_valueOf_130 fl_X7_17 sh_47 rfl ?_
            refine kr_iload7 d_X7_valueOf_133 ?_
            refine kr_aload0 d_X7_valueOf_135 ?_
            refine kr_getR (q := 50) d_X7_valueOf_136 fl_X7_21 sh_47 rfl ?_
            refine kr_iload10 d_X7_valueOf_139 ?_
            refine kr_iaload d_X7_valueOf_141 sh_50 ?_
            refine kr_iastore d_X7_valueOf_142 sh_49 ?_
            refine kr_hl (fun h15 => ?_)
            refine kr_goto d_X7_valueOf_143 ?_
            refine kr_iinc8 d_X7_valueOf_220 (Nat.le_of_ble_eq_true rfl) kv_c1i ?_
            refine kr_goto d_X7_valueOf_223 ?_
            refine kr_kill9 ?_
            refine kr_kill10 ?_
            exact ih (v7 + 1) (v8 + 1) h15 C hC
      · refine kr_iinc7 d_X7_valueOf_98 (Nat.le_of_ble_eq_true rfl) kv_c1a ?_
        refine kr_aload0 d_X7_valueOf_101 ?_
        refine kr_getR (q := 49) d_X7_valueOf_102 fl_X7_17 sh_47 rfl ?_
        refine kr_iload7 d_X7_valueOf_105 ?_
        refine kr_iload10 d_X7_valueOf_107 ?_
        refine kr_iastore d_X7_valueOf_109 sh_49 ?_
        refine kr_hl (fun h16 => ?_)
        refine kr_goto d_X7_valueOf_110 ?_
        refine kr_iinc8 d_X7_valueOf_220 (Nat.le_of_ble_eq_true rfl) kv_c1i ?_
        refine kr_goto d_X7_valueOf_223 ?_
        refine kr_kill9 ?_
        refine kr_kill10 ?_
        exact ih (v7 + 1) (v8 + 1) h16 C hC

set_option maxRecDepth 20000 in
theorem m_X7_valueOf (x1 : Int32) (x2 : Int32) (x3 : Int32) (x4 : Int32) (x5 : Int32) (h : kv_H) : kv_M kv_i kK_X7_valueOf [.ref 47, .int x1, .int x2, .int x3, .int x4, .int x5] h (f_X7_valueOf x1 x2 x3 x4 x5 h) := by
  refine kv_met (ls := [some (.ref 47), some (.int x1), some (.int x2), some (.int x3), some (.int x4), some (.int x5), none, none, none, none, none]) (show plainName RX7 = true by decide +kernel) (fun _ => rfl) (fun _ => Nat.le_of_ble_eq_true rfl) ?_
  unfold f_X7_valueOf
  refine kr_iload1 d_X7_valueOf_0 ?_
  refine kr_if_lt d_X7_valueOf_1 ?_ ?_
  · refine kr_const (v := 0) d_X7_valueOf_10 ?_
    exact kr_ireturn d_X7_valueOf_11 rfl
  · refine kr_iload1 d_X7_valueOf_4 ?_
    refine kr_const (v := 14) d_X7_valueOf_5 ?_
    refine kr_icmp_lt d_X7_valueOf_7 ?_ ?_
    · refine kr_aload0 d_X7_valueOf_12 ?_
      refine kr_getR (q := 50) d_X7_valueOf_13 fl_X7_21 sh_47 rfl ?_
      refine kr_const (v := 0) d_X7_valueOf_16 ?_
      refine kr_iload2 d_X7_valueOf_17 ?_
      refine kr_iastoreC (j := 0) ⟨by decide, by decide, by decide⟩ d_X7_valueOf_18 sh_50 ?_
      refine kr_hl (fun h1 => ?_)
      refine kr_aload0 d_X7_valueOf_19 ?_
      refine kr_getR (q := 50) d_X7_valueOf_20 fl_X7_21 sh_47 rfl ?_
      refine kr_const (v := 1) d_X7_valueOf_23 ?_
      refine kr_iload3 d_X7_valueOf_24 ?_
      refine kr_iastoreC (j := 1) ⟨by decide, by decide, by decide⟩ d_X7_valueOf_25 sh_50 ?_
      refine kr_hl (fun h2 => ?_)
      refine kr_aload0 d_X7_valueOf_26 ?_
      refine kr_getR (q := 50) d_X7_valueOf_27 fl_X7_21 sh_47 rfl ?_
      refine kr_const (v := 2) d_X7_valueOf_30 ?_
      refine kr_iload4 d_X7_valueOf_31 ?_
      refine kr_iastoreC (j := 2) ⟨by decide, by decide, by decide⟩ d_X7_valueOf_33 sh_50 ?_
      refine kr_hl (fun h3 => ?_)
      refine kr_aload0 d_X7_valueOf_34 ?_
      refine kr_getR (q := 50) d_X7_valueOf_35 fl_X7_21 sh_47 rfl ?_
      refine kr_const (v := 3) d_X7_valueOf_38 ?_
      refine kr_iload5 d_X7_valueOf_39 ?_
      refine kr_iastoreC (j := 3) ⟨by decide, by decide, by decide⟩ d_X7_valueOf_41 sh_50 ?_
      refine kr_hl (fun h4 => ?_)
      refine kr_aload0 d_X7_valueOf_42 ?_
      refine kr_getR (q := 48) d_X7_valueOf_43 fl_X7_11 sh_47 rfl ?_
      refine kr_iload1 d_X7_valueOf_46 ?_
      refine kr_aaload d_X7_valueOf_47 sh_48 (Or.inr (Or.inr (Or.inr rfl))) (fun hi5 => ?_)
      refine kr_astore6 d_X7_valueOf_48 (Nat.le_of_ble_eq_true rfl) kv_c1i ?_
      refine kr_const (v := (-1)) d_X7_valueOf_50 ?_
      refine kr_istore7 d_X7_valueOf_51 (Nat.le_of_ble_eq_true rfl) kv_c1a ?_
      refine kr_const (v := 0) d_X7_valueOf_53 ?_
      refine kr_istore8 d_X7_valueOf_54 (Nat.le_of_ble_eq_true rfl) kv_c1i ?_
      refine kr_kill1 ?_
      refine kr_kill2 ?_
      refine kr_kill3 ?_
      refine kr_kill4 ?_
      refine kr_kill5 ?_
      refine s_f_X7_valueOf_L56 (51 + 2 * x1.toNatClampNeg) (kv_Te_at hi5) kv_fu (-1) 0 h4 _ (fun  h17 => ?_)
      refine kr_aload0 d_X7_valueOf_226 ?_
      refine kr_getR (q := 49) d_X7_valueOf_227 fl_X7_17 sh_47 rfl ?_
      refine kr_const (v := 0) d_X7_valueOf_230 ?_
      refine kr_ialoadC (j := 0) ⟨by decide, by decide, by decide⟩ d_X7_valueOf_231 sh_49 ?_
      exact kr_ireturn d_X7_valueOf_232 rfl
    · refine kr_const (v := 0) d_X7_valueOf_10 ?_
      exact kr_ireturn d_X7_valueOf_11 rfl

/-! X8_becomes -/
def f_X8_becomes (k0 : Nat) (k1 : Nat) (h : kv_H) : Option (Unit × kv_H) :=
  kv_b (f_X1_becomes (k0 + 3) (k1 + 3) h) (fun _ h1 =>
  kv_b (f_X0_becomes (k0 + 12) (k1 + 12) h1) (fun _ h2 =>
  kv_b (f_X9_copyRow (k1 + 1) 24 (k0 + 1) 24 h2) (fun _ h3 =>
  kv_b (f_X9_copyRow (k1 + 2) 3 (k0 + 2) 3 h3) (fun _ h4 =>
  kv_hl (kv_up h4 k0 5 (h4 k1 5)) (fun h5 =>
  kv_hl (kv_up h5 k0 6 (h5 k1 6)) (fun h6 =>
  kv_hl (kv_up h6 k0 7 (h6 k1 7)) (fun h7 =>
  kv_hl (kv_up h7 k0 8 (h7 k1 8)) (fun h8 =>
  kv_hl (kv_up h8 k0 9 (h8 k1 9)) (fun h9 =>
  some ((), h9))))))))))
set_option maxRecDepth 20000 in
theorem m_X8_becomes (k0 : Nat) (hk0 : kv_Wo k0) (k1 : Nat) (hk1 : kv_Wo k1) (h : kv_H) : kv_M kv_u kK_X8_becomes [.ref k0, .ref k1] h (f_X8_becomes k0 k1 h) := by
  refine kv_met (ls := [some (.ref k0), some (.ref k1)]) (show plainName RX8 = true by decide +kernel) (fun _ => rfl) (fun _ => Nat.le_of_ble_eq_true rfl) ?_
  unfold f_X8_becomes
  refine kr_aload0 d_X8_becomes_0 ?_
  refine kr_getR (q := (k0 + 3)) d_X8_becomes_1 fl_X8_12 hk0.1 rfl ?_
  refine kr_aload1 d_X8_becomes_4 ?_
  refine kr_getR (q := (k1 + 3)) d_X8_becomes_5 fl_X8_12 hk1.1 rfl ?_
  refine kr_iv_u (As := [.ref (k1 + 3)]) d_X8_becomes_8 cl_X8_41 (m_X1_becomes (k0 + 3) hk0.2.2.2.1 (k1 + 3) hk1.2.2.2.1 h) hk0.2.2.2.1.1 (Nat.le_of_ble_eq_true rfl) rfl (Nat.le_of_ble_eq_true rfl) (fun h1 => ?_)
  refine kr_aload0 d_X8_becomes_11 ?_
  refine kr_getR (q := (k0 + 12)) d_X8_becomes_12 fl_X8_21 hk0.1 rfl ?_
  refine kr_aload1 d_X8_becomes_15 ?_
  refine kr_getR (q := (k1 + 12)) d_X8_becomes_16 fl_X8_21 hk1.1 rfl ?_
  refine kr_iv_u (As := [.ref (k1 + 12)]) d_X8_becomes_19 cl_X8_45 (m_X0_becomes (k0 + 12) hk0.2.2.2.2 (k1 + 12) hk1.2.2.2.2 h1) hk0.2.2.2.2.1 (Nat.le_of_ble_eq_true rfl) rfl (Nat.le_of_ble_eq_true rfl) (fun h2 => ?_)
  refine kr_aload1 d_X8_becomes_22 ?_
  refine kr_getR (q := (k1 + 1)) d_X8_becomes_23 fl_X8_25 hk1.1 rfl ?_
  refine kr_aload0 d_X8_becomes_26 ?_
  refine kr_getR (q := (k0 + 1)) d_X8_becomes_27 fl_X8_25 hk0.1 rfl ?_
  refine kr_isn_u (As := [.ref (k1 + 1), .ref (k0 + 1)]) d_X8_becomes_30 cl_X8_48 (m_X9_copyRow (k1 + 1) 24 hk1.2.1 (k0 + 1) 24 hk0.2.1 h2) (Nat.le_of_ble_eq_true rfl) rfl (Nat.le_of_ble_eq_true rfl) (fun h3 => ?_)
  refine kr_aload1 d_X8_becomes_33 ?_
  refine kr_getR (q := (k1 + 2)) d_X8_becomes_34 fl_X8_30 hk1.1 rfl ?_
  refine kr_aload0 d_X8_becomes_37 ?_
  refine kr_getR (q := (k0 + 2)) d_X8_becomes_38 fl_X8_30 hk0.1 rfl ?_
  refine kr_isn_u (As := [.ref (k1 + 2), .ref (k0 + 2)]) d_X8_becomes_41 cl_X8_48 (m_X9_copyRow (k1 + 2) 3 hk1.2.2.1 (k0 + 2) 3 hk0.2.2.1 h3) (Nat.le_of_ble_eq_true rfl) rfl (Nat.le_of_ble_eq_true rfl) (fun h4 => ?_)
  refine kr_aload0 d_X8_becomes_44 ?_
  refine kr_aload1 d_X8_becomes_45 ?_
  refine kr_getI d_X8_becomes_46 fl_X8_52 hk1.1 rfl ?_
  refine kr_putI d_X8_becomes_49 fp_X8_52 hk0.1 rfl rfl rfl ?_
  refine kr_hl (fun h5 => ?_)
  refine kr_aload0 d_X8_becomes_52 ?_
  refine kr_aload1 d_X8_becomes_53 ?_
  refine kr_getI d_X8_becomes_54 fl_X8_55 hk1.1 rfl ?_
  refine kr_putI d_X8_becomes_57 fp_X8_55 hk0.1 rfl rfl rfl ?_
  refine kr_hl (fun h6 => ?_)
  refine kr_aload0 d_X8_becomes_60 ?_
  refine kr_aload1 d_X8_becomes_61 ?_
  refine kr_getI d_X8_becomes_62 fl_X8_33 hk1.1 rfl ?_
  refine kr_putI d_X8_becomes_65 fp_X8_33 hk0.1 rfl rfl rfl ?_
  refine kr_hl (fun h7 => ?_)
  refine kr_aload0 d_X8_becomes_68 ?_
  refine kr_aload1 d_X8_becomes_69 ?_
  refine kr_getI d_X8_becomes_70 fl_X8_58 hk1.1 rfl ?_
  refine kr_putI d_X8_becomes_73 fp_X8_58 hk0.1 rfl rfl rfl ?_
  refine kr_hl (fun h8 => ?_)
  refine kr_aload0 d_X8_becomes_76 ?_
  refine kr_aload1 d_X8_becomes_77 ?_
  refine kr_getI d_X8_becomes_78 fl_X8_61 hk1.1 rfl ?_
  refine kr_putI d_X8_becomes_81 fp_X8_61 hk0.1 rfl rfl rfl ?_
  refine kr_hl (fun h9 => ?_)
  exact kr_return d_X8_becomes_84 rfl

/-! X8_addLeaf -/
def f_X8_addLeaf (k0 : Nat) (x1 : Int32) (x2 : Int32) (x3 : Int32) (x4 : Int32) (h : kv_H) : Option (Int32 × kv_H) :=
  kv_vl (h (k0 + 3) 8) (fun e1 =>
  if e1 < (8 : Int32) then (kv_k e1 8 (kv_hl (kv_up h ((k0 + 3) + 1) e1.toNatClampNeg x1) (fun h2 =>
    kv_k e1 8 (kv_hl (kv_up h2 ((k0 + 3) + 2) e1.toNatClampNeg x2) (fun h3 =>
    kv_k e1 8 (kv_hl (kv_up h3 ((k0 + 3) + 3) e1.toNatClampNeg x3) (fun h4 =>
    kv_k e1 8 (kv_hl (kv_up h4 ((k0 + 3) + 4) e1.toNatClampNeg 1) (fun h5 =>
    kv_k e1 8 (kv_hl (kv_up h5 ((k0 + 3) + 5) e1.toNatClampNeg x4) (fun h6 =>
    kv_hl (kv_up h6 (k0 + 3) 8 (e1 + 1)) (fun h7 =>
    some (e1, h7)))))))))))))
  else (some ((-1000000003), h)))
set_option maxRecDepth 20000 in
theorem m_X8_addLeaf (k0 : Nat) (hk0 : kv_Wo k0) (x1 : Int32) (x2 : Int32) (x3 : Int32) (x4 : Int32) (h : kv_H) : kv_M kv_i kK_X8_addLeaf [.ref k0, .int x1, .int x2, .int x3, .int x4] h (f_X8_addLeaf k0 x1 x2 x3 x4 h) := by
  refine kv_met (ls := [some (.ref k0), some (.int x1), some (.int x2), some (.int x3), some (.int x4), none]) (show plainName RX8 = true by decide +kernel) (fun _ => rfl) (fun _ => Nat.le_of_ble_eq_true rfl) ?_
  unfold f_X8_addLeaf
  refine kr_aload0 d_X8_addLeaf_0 ?_
  refine kr_getR (q := (k0 + 3)) d_X8_addLeaf_1 fl_X8_12 hk0.1 rfl ?_
  refine kr_getI d_X8_addLeaf_4 fl_X8_64 hk0.2.2.2.1.1 rfl ?_
  refine kr_vl (fun e1 => ?_)
  refine kr_istore5 d_X8_addLeaf_7 (Nat.le_of_ble_eq_true rfl) kv_c1i ?_
  refine kr_iload5 d_X8_addLeaf_9 ?_
  refine kr_const (v := 8) d_X8_addLeaf_11 ?_
  refine kr_icmp_lt d_X8_addLeaf_13 ?_ ?_
  · refine kr_aload0 d_X8_addLeaf_19 ?_
    refine kr_getR (q := (k0 + 3)) d_X8_addLeaf_20 fl_X8_12 hk0.1 rfl ?_
    refine kr_getR (q := ((k0 + 3) + 1)) d_X8_addLeaf_23 fl_X8_68 hk0.2.2.2.1.1 rfl ?_
    refine kr_iload5 d_X8_addLeaf_26 ?_
    refine kr_iload1 d_X8_addLeaf_28 ?_
    refine kr_iastore d_X8_addLeaf_29 hk0.2.2.2.1.2.1 ?_
    refine kr_hl (fun h2 => ?_)
    refine kr_aload0 d_X8_addLeaf_30 ?_
    refine kr_getR (q := (k0 + 3)) d_X8_addLeaf_31 fl_X8_12 hk0.1 rfl ?_
    refine kr_getR (q := ((k0 + 3) + 2)) d_X8_addLeaf_34 fl_X8_71 hk0.2.2.2.1.1 rfl ?_
    refine kr_iload5 d_X8_addLeaf_37 ?_
    refine kr_iload2 d_X8_addLeaf_39 ?_
    refine kr_iastore d_X8_addLeaf_40 hk0.2.2.2.1.2.2.1 ?_
    refine kr_hl (fun h3 => ?_)
    refine kr_aload0 d_X8_addLeaf_41 ?_
    refine kr_getR (q := (k0 + 3)) d_X8_addLeaf_42 fl_X8_12 hk0.1 rfl ?_
    refine kr_getR (q := ((k0 + 3) + 3)) d_X8_addLeaf_45 fl_X8_74 hk0.2.2.2.1.1 rfl ?_
    refine kr_iload5 d_X8_addLeaf_48 ?_
    refine kr_iload3 d_X8_addLeaf_50 ?_
    refine kr_iastore d_X8_addLeaf_51 hk0.2.2.2.1.2.2.2.1 ?_
    refine kr_hl (fun h4 => ?_)
    refine kr_aload0 d_X8_addLeaf_52 ?_
    refine kr_getR (q := (k0 + 3)) d_X8_addLeaf_53 fl_X8_12 hk0.1 rfl ?_
    refine kr_getR (q := ((k0 + 3) + 4)) d_X8_addLeaf_56 fl_X8_77 hk0.2.2.2.1.1 rfl ?_
    refine kr_iload5 d_X8_addLeaf_59 ?_
    refine kr_const (v := 1) d_X8_addLeaf_61 ?_
    refine kr_iastore d_X8_addLeaf_62 hk0.2.2.2.1.2.2.2.2.1 ?_
    refine kr_hl (fun h5 => ?_)
    refine kr_aload0 d_X8_addLeaf_63 ?_
    refine kr_getR (q := (k0 + 3)) d_X8_addLeaf_64 fl_X8_12 hk0.1 rfl ?_
    refine kr_getR (q := ((k0 + 3) + 5)) d_X8_addLeaf_67 fl_X8_80 hk0.2.2.2.1.1 rfl ?_
    refine kr_iload5 d_X8_addLeaf_70 ?_
    refine kr_iload4 d_X8_addLeaf_72 ?_
    refine kr_iastore d_X8_addLeaf_74 hk0.2.2.2.1.2.2.2.2.2.1 ?_
    refine kr_hl (fun h6 => ?_)
    refine kr_aload0 d_X8_addLeaf_75 ?_
    refine kr_getR (q := (k0 + 3)) d_X8_addLeaf_76 fl_X8_12 hk0.1 rfl ?_
    refine kr_iload5 d_X8_addLeaf_79 ?_
    refine kr_const (v := 1) d_X8_addLeaf_81 ?_
    refine kr_iadd d_X8_addLeaf_82 ?_
    refine kr_putI d_X8_addLeaf_83 fp_X8_64 hk0.2.2.2.1.1 rfl rfl rfl ?_
    refine kr_hl (fun h7 => ?_)
    refine kr_iload5 d_X8_addLeaf_86 ?_
    exact kr_ireturn d_X8_addLeaf_88 rfl
  · refine kr_const (v := (-1000000003)) d_X8_addLeaf_16 ?_
    exact kr_ireturn d_X8_addLeaf_18 rfl

/-! grp_ra -/
def f_X9_roomAsB (rc : Int32 → Int32 → kv_H → Option (Int32 × kv_H)) (x1 : Int32) (x2 : Int32) (h : kv_H) : Option (Int32 × kv_H) :=
  kv_sw x1 [1, 2, 3, 4, 5] [(some ((x2 + 1), h)),
  (some (((x2 + 1) / 2), h)),
  (kv_b (rc 1 x2 h) (fun r2 h1 =>
    some (((r2 + 1) / 2), h1))),
  (kv_b (rc 2 x2 h) (fun r4 h3 =>
    some ((r4 + 1), h3))),
  (some (1, h))] (some (x2, h))
def f_X9_roomAs : Nat → Int32 → Int32 → kv_H → Option (Int32 × kv_H)
  | 0, _, _, _ => none
  | d + 1, x1, x2, h => f_X9_roomAsB (f_X9_roomAs d) x1 x2 h
set_option maxRecDepth 20000 in
theorem m_X9_roomAsB (d : Nat) (rc : Int32 → Int32 → kv_H → Option (Int32 × kv_H)) (hr_X9_roomAs : ∀ (x1 : Int32) (x2 : Int32) (h : kv_H), kv_M kv_i (kK_X9_roomAs d) [.int x1, .int x2] h (rc x1 x2 h)) (x1 : Int32) (x2 : Int32) (h : kv_H) : kv_M kv_i (kK_X9_roomAs (d + 1)) [.int x1, .int x2] h (f_X9_roomAsB rc x1 x2 h) := by
  refine kv_met (ls := [some (.int x1), some (.int x2)]) (show plainName RX9 = true by decide +kernel) (fun _ => rfl) (fun _ => Nat.le_of_ble_eq_true rfl) ?_
  unfold f_X9_roomAsB
  refine kr_iload0 (d_X9_roomAs_0 _) ?_
  refine kr_sw (d_X9_roomAs_1 _) ?_ ⟨?_, ?_, ?_, ?_, ?_, trivial⟩
  · refine kr_iload1 (d_X9_roomAs_66 _) ?_
    exact kr_ireturn (d_X9_roomAs_67 _) rfl
  · refine kr_iload1 (d_X9_roomAs_36 _) ?_
    refine kr_const (v := 1) (d_X9_roomAs_37 _) ?_
    refine kr_iadd (d_X9_roomAs_38 _) ?_
    exact kr_ireturn (d_X9_roomAs_39 _) rfl
  · refine kr_iload1 (d_X9_roomAs_50 _) ?_
    refine kr_const (v := 1) (d_X9_roomAs_51 _) ?_
    refine kr_iadd (d_X9_roomAs_52 _) ?_
    refine kr_const (v := 2) (d_X9_roomAs_53 _) ?_
    refine kr_idivK (by decide) (d_X9_roomAs_54 _) ?_
    exact kr_ireturn (d_X9_roomAs_55 _) rfl
  · refine kr_const (v := 1) (d_X9_roomAs_40 _) ?_
    refine kr_iload1 (d_X9_roomAs_41 _) ?_
    refine kr_is_i (As := [.int 1, .int x2]) (d_X9_roomAs_42 _) (cl_X9_370 _) (hr_X9_roomAs 1 x2 h) kv_dr rfl (Nat.le_of_ble_eq_true rfl) (fun r2 h1 => ?_)
    refine kr_const (v := 1) (d_X9_roomAs_45 _) ?_
    refine kr_iadd (d_X9_roomAs_46 _) ?_
    refine kr_const (v := 2) (d_X9_roomAs_47 _) ?_
    refine kr_idivK (by decide) (d_X9_roomAs_48 _) ?_
    exact kr_ireturn (d_X9_roomAs_49 _) rfl
  · refine kr_const (v := 2) (d_X9_roomAs_56 _) ?_
    refine kr_iload1 (d_X9_roomAs_57 _) ?_
    refine kr_is_i (As := [.int 2, .int x2]) (d_X9_roomAs_58 _) (cl_X9_370 _) (hr_X9_roomAs 2 x2 h) kv_dr rfl (Nat.le_of_ble_eq_true rfl) (fun r4 h3 => ?_)
    refine kr_const (v := 1) (d_X9_roomAs_61 _) ?_
    refine kr_iadd (d_X9_roomAs_62 _) ?_
    exact kr_ireturn (d_X9_roomAs_63 _) rfl
  · refine kr_const (v := 1) (d_X9_roomAs_64 _) ?_
    exact kr_ireturn (d_X9_roomAs_65 _) rfl

theorem m_X9_roomAs : ∀ (d : Nat) (x1 : Int32) (x2 : Int32) (h : kv_H), kv_M kv_i (kK_X9_roomAs d) [.int x1, .int x2] h (f_X9_roomAs d x1 x2 h)
  | 0, _, _, _ => fun _ _ _ _ q => (by cases q)
  | d + 1, x1, x2, h => m_X9_roomAsB d (f_X9_roomAs d) (m_X9_roomAs d) x1 x2 h
/-! grp_ma -/
def f_X9_missAsB (rc : Int32 → Int32 → Int32 → Int32 → kv_H → Option (Int32 × kv_H)) (x1 : Int32) (x2 : Int32) (x3 : Int32) (x4 : Int32) (h : kv_H) : Option (Int32 × kv_H) :=
  kv_sw x1 [1, 2, 3, 4, 5] [(some ((x2 + 5), h)),
  (some ((x2 / 2), h)),
  (kv_b (rc 1 x2 x3 x4 h) (fun r2 h1 =>
    some ((r2 + x3), h1))),
  (kv_b (rc 2 x2 x3 x4 h) (fun r4 h3 =>
    some ((2 * r4), h3))),
  (some ((x2 + x4), h))] (some (x2, h))
def f_X9_missAs : Nat → Int32 → Int32 → Int32 → Int32 → kv_H → Option (Int32 × kv_H)
  | 0, _, _, _, _, _ => none
  | d + 1, x1, x2, x3, x4, h => f_X9_missAsB (f_X9_missAs d) x1 x2 x3 x4 h
set_option maxRecDepth 20000 in
theorem m_X9_missAsB (d : Nat) (rc : Int32 → Int32 → Int32 → Int32 → kv_H → Option (Int32 × kv_H)) (hr_X9_missAs : ∀ (x1 : Int32) (x2 : Int32) (x3 : Int32) (x4 : Int32) (h : kv_H), kv_M kv_i (kK_X9_missAs d) [.int x1, .int x2, .int x3, .int x4] h (rc x1 x2 x3 x4 h)) (x1 : Int32) (x2 : Int32) (x3 : Int32) (x4 : Int32) (h : kv_H) : kv_M kv_i (kK_X9_missAs (d + 1)) [.int x1, .int x2, .int x3, .int x4] h (f_X9_missAsB rc x1 x2 x3 x4 h) := by
  refine kv_met (ls := [some (.int x1), some (.int x2), some (.int x3), some (.int x4)]) (show plainName RX9 = true by decide +kernel) (fun _ => rfl) (fun _ => Nat.le_of_ble_eq_true rfl) ?_
  unfold f_X9_missAsB
  refine kr_iload0 (d_X9_missAs_0 _) ?_
  refine kr_sw (d_X9_missAs_1 _) ?_ ⟨?_, ?_, ?_, ?_, ?_, trivial⟩
  · refine kr_iload1 (d_X9_missAs_68 _) ?_
    exact kr_ireturn (d_X9_missAs_69 _) rfl
  · refine kr_iload1 (d_X9_missAs_36 _) ?_
    refine kr_const (v := 5) (d_X9_missAs_37 _) ?_
    refine kr_iadd (d_X9_missAs_38 _) ?_
    exact kr_ireturn (d_X9_missAs_39 _) rfl
  · refine kr_iload1 (d_X9_missAs_50 _) ?_
    refine kr_const (v := 2) (d_X9_missAs_51 _) ?_
    refine kr_idivK (by decide) (d_X9_missAs_52 _) ?_
    exact kr_ireturn (d_X9_missAs_53 _) rfl
  · refine kr_const (v := 1) (d_X9_missAs_40 _) ?_
    refine kr_iload1 (d_X9_missAs_41 _) ?_
    refine kr_iload2 (d_X9_missAs_42 _) ?_
    refine kr_iload3 (d_X9_missAs_43 _) ?_
    refine kr_is_i (As := [.int 1, .int x2, .int x3, .int x4]) (d_X9_missAs_44 _) (cl_X9_373 _) (hr_X9_missAs 1 x2 x3 x4 h) kv_dr rfl (Nat.le_of_ble_eq_true rfl) (fun r2 h1 => ?_)
    refine kr_iload2 (d_X9_missAs_47 _) ?_
    refine kr_iadd (d_X9_missAs_48 _) ?_
    exact kr_ireturn (d_X9_missAs_49 _) rfl
  · refine kr_const (v := 2) (d_X9_missAs_54 _) ?_
    refine kr_const (v := 2) (d_X9_missAs_55 _) ?_
    refine kr_iload1 (d_X9_missAs_56 _) ?_
    refine kr_iload2 (d_X9_missAs_57 _) ?_
    refine kr_iload3 (d_X9_missAs_58 _) ?_
    refine kr_is_i (As := [.int 2, .int x2, .int x3, .int x4]) (d_X9_missAs_59 _) (cl_X9_373 _) (hr_X9_missAs 2 x2 x3 x4 h) kv_dr rfl (Nat.le_of_ble_eq_true rfl) (fun r4 h3 => ?_)
    refine kr_imul (d_X9_missAs_62 _) ?_
    exact kr_ireturn (d_X9_missAs_63 _) rfl
  · refine kr_iload1 (d_X9_missAs_64 _) ?_
    refine kr_iload3 (d_X9_missAs_65 _) ?_
    refine kr_iadd (d_X9_missAs_66 _) ?_
    exact kr_ireturn (d_X9_missAs_67 _) rfl

theorem m_X9_missAs : ∀ (d : Nat) (x1 : Int32) (x2 : Int32) (x3 : Int32) (x4 : Int32) (h : kv_H), kv_M kv_i (kK_X9_missAs d) [.int x1, .int x2, .int x3, .int x4] h (f_X9_missAs d x1 x2 x3 x4 h)
  | 0, _, _, _, _, _ => fun _ _ _ _ q => (by cases q)
  | d + 1, x1, x2, x3, x4, h => m_X9_missAsB d (f_X9_missAs d) (m_X9_missAs d) x1 x2 x3 x4 h
/-! X8_weighAll -/
def f_X8_weighAll_L2 (q0 : Nat) : Nat → Int32 → kv_H → (kv_H → Option (Unit × kv_H)) → Option (Unit × kv_H)
  | 0, _, _, _ => none
  | n + 1, v1, h, C => if (h (q0 + 3) 8) ≤ v1 then (C h)
    else (kv_k v1 8 (kv_vl (h ((q0 + 3) + 2) v1.toNatClampNeg) (fun e1 =>
      kv_k v1 8 (kv_vl (h ((q0 + 3) + 3) v1.toNatClampNeg) (fun e2 =>
      kv_k v1 8 (kv_vl (h ((q0 + 3) + 5) v1.toNatClampNeg) (fun e3 =>
      kv_jn (fun (x4 : Int32) (h5 : kv_H) =>
      kv_jn (fun (x6 : Int32) (h7 : kv_H) =>
        kv_k v1 8 (kv_b (f_X9_roomAs 3 (h7 ((q0 + 3) + 1) v1.toNatClampNeg) x4 h7) (fun r9 h8 =>
          kv_k v1 8 (kv_hl (kv_up h8 ((q0 + 3) + 6) v1.toNatClampNeg r9) (fun h10 =>
          kv_k v1 8 (kv_b (f_X1_leanersOn (q0 + 3) v1 h10) (fun r12 h11 =>
          kv_b (f_X9_missAs 3 (h10 ((q0 + 3) + 1) v1.toNatClampNeg) x6 e1 r12 h11) (fun r14 h13 =>
          kv_k v1 8 (kv_hl (kv_up h13 ((q0 + 3) + 7) v1.toNatClampNeg r14) (fun h15 =>
          if 0 ≤ e3 then (kv_k e3 8 (kv_k v1 8 (kv_hl (kv_up h15 ((q0 + 3) + 8) v1.toNatClampNeg ((1 <<< (v1 &&& 31)) ||| (h15 ((q0 + 3) + 8) e3.toNatClampNeg))) (fun h16 =>
            f_X8_weighAll_L2 q0 n (v1 + 1) h16 C))))
          else (kv_k v1 8 (kv_hl (kv_up h15 ((q0 + 3) + 8) v1.toNatClampNeg ((1 <<< (v1 &&& 31)) ||| 0)) (fun h17 =>
            f_X8_weighAll_L2 q0 n (v1 + 1) h17 C))))))))))))) (fun (J129 : Int32 → kv_H → Option (Unit × kv_H)) =>
        if (h5 (q0 + 2) 1) = (-1000000005 : Int32) then (J129 e2 h5)
        else (kv_b (f_X7_valueOf (h5 (q0 + 2) 1) e2 v1 e1 0 h5) (fun r19 h18 =>
          kv_vl (if (0 : Int32) < (if r19 < (999 : Int32) then r19 else (999 : Int32)) then (if r19 < (999 : Int32) then r19 else (999 : Int32)) else (0 : Int32)) (fun e20 =>
          J129 e20 h18))))) (fun (J86 : Int32 → kv_H → Option (Unit × kv_H)) =>
      if (h (q0 + 2) 0) = (-1000000005 : Int32) then (J86 e1 h)
      else (kv_b (f_X7_valueOf (h (q0 + 2) 0) e1 v1 0 0 h) (fun r22 h21 =>
        kv_vl (if (1 : Int32) < (if r22 < (9 : Int32) then r22 else (9 : Int32)) then (if r22 < (9 : Int32) then r22 else (9 : Int32)) else (1 : Int32)) (fun e23 =>
        J86 e23 h21)))))))))))
def f_X8_weighAll (k0 : Nat) (h : kv_H) : Option (Unit × kv_H) :=
  f_X8_weighAll_L2 k0 kv_fu 0 h (fun  h24 =>
  some ((), h24))
set_option maxRecDepth 20000 in
theorem s_f_X8_weighAll_L2 (q0 : Nat) (hq0 : kv_Wo q0) : ∀ (n : Nat) (v1 : Int32) (h : kv_H) (C : kv_H → Option (Unit × kv_H)), (∀  (h : kv_H), kv_S kv_u kK_X8_weighAll 222 [none, none, none, none, none, none, none] [] h (C h)) → kv_S kv_u kK_X8_weighAll 2 [some (.ref q0), some (.int v1), none, none, none, none, none] [] h (f_X8_weighAll_L2 q0 n v1 h C) := by
  intro n
  induction n with
  | zero => intros; exact kv_none
  | succ n ih =>
    intro v1 h C hC
    unfold f_X8_weighAll_L2
    refine kr_iload1 d_X8_weighAll_2 ?_
    refine kr_aload0 d_X8_weighAll_3 ?_
    refine kr_getR (q := (q0 + 3)) d_X8_weighAll_4 fl_X8_12 hq0.1 rfl ?_
    refine kr_getI d_X8_weighAll_7 fl_X8_64 hq0.2.2.2.1.1 rfl ?_
    refine kr_icmp_ge d_X8_weighAll_10 ?_ ?_
    · refine kr_kill0 ?_
      refine kr_kill1 ?_
      exact hC h
    · refine kr_aload0 d_X8_weighAll_13 ?_
      refine kr_getR (q := (q0 + 3)) d_X8_weighAll_14 fl_X8_12 hq0.1 rfl ?_
      refine kr_getR (q := ((q0 + 3) + 2)) d_X8_weighAll_17 fl_X8_71 hq0.2.2.2.1.1 rfl ?_
      refine kr_iload1 d_X8_weighAll_20 ?_
      refine kr_iaload d_X8_weighAll_21 hq0.2.2.2.1.2.2.1 ?_
      refine kr_vl (fun e1 => ?_)
      refine kr_istore2 d_X8_weighAll_22 (Nat.le_of_ble_eq_true rfl) kv_c1i ?_
      refine kr_aload0 d_X8_weighAll_23 ?_
      refine kr_getR (q := (q0 + 3)) d_X8_weighAll_24 fl_X8_12 hq0.1 rfl ?_
      refine kr_getR (q := ((q0 + 3) + 3)) d_X8_weighAll_27 fl_X8_74 hq0.2.2.2.1.1 rfl ?_
      refine kr_iload1 d_X8_weighAll_30 ?_
      refine kr_iaload d_X8_weighAll_31 hq0.2.2.2.1.2.2.2.1 ?_
      refine kr_vl (fun e2 => ?_)
      refine kr_istore3 d_X8_weighAll_32 (Nat.le_of_ble_eq_true rfl) kv_c1i ?_
      refine kr_aload0 d_X8_weighAll_33 ?_
      refine kr_getR (q := (q0 + 3)) d_X8_weighAll_34 fl_X8_12 hq0.1 rfl ?_
      refine kr_getR (q := ((q0 + 3) + 5)) d_X8_weighAll_37 fl_X8_80 hq0.2.2.2.1.1 rfl ?_
      refine kr_iload1 d_X8_weighAll_40 ?_
      refine kr_iaload d_X8_weighAll_41 hq0.2.2.2.1.2.2.2.2.2.1 ?_
      refine kr_vl (fun e3 => ?_)
      refine kr_istore4 d_X8_weighAll_42 (Nat.le_of_ble_eq_true rfl) kv_c1i ?_
      refine kr_iload2 d_X8_weighAll_44 ?_
      refine kr_istore5 d_X8_weighAll_45 (Nat.le_of_ble_eq_true rfl) kv_c1i ?_
      refine kr_aload0 d_X8_weighAll_47 ?_
      refine kr_getR (q := (q0 + 2)) d_X8_weighAll_48 fl_X8_30 hq0.1 rfl ?_
      refine kr_const (v := 0) d_X8_weighAll_51 ?_
      refine kr_ialoadC (j := 0) ⟨by decide, by decide, by decide⟩ d_X8_weighAll_52 hq0.2.2.1 ?_
      refine kr_const (v := (-1000000005)) d_X8_weighAll_53 ?_
      refine kr_jn (P := fun J86 => ∀ (x4 : Int32), ∀ (h5 : kv_H), kv_S kv_u kK_X8_weighAll 86 [some (.ref q0), some (.int v1), some (.int e1), some (.int e2), some (.int e3), some (.int x4), none] [] h5 (J86 x4 h5)) (fun x4 h5 => ?_) (fun J86 hJ86 => ?_)
      · refine kr_iload3 d_X8_weighAll_86 ?_
        refine kr_istore6 d_X8_weighAll_87 (Nat.le_of_ble_eq_true rfl) kv_c1i ?_
        refine kr_aload0 d_X8_weighAll_89 ?_
        refine kr_getR (q := (q0 + 2)) d_X8_weighAll_90 fl_X8_30 hq0.1 rfl ?_
        refine kr_const (v := 1) d_X8_weighAll_93 ?_
        refine kr_ialoadC (j := 1) ⟨by decide, by decide, by decide⟩ d_X8_weighAll_94 hq0.2.2.1 ?_
        refine kr_const (v := (-1000000005)) d_X8_weighAll_95 ?_
        refine kr_jn (P := fun J129 => ∀ (x6 : Int32), ∀ (h7 : kv_H), kv_S kv_u kK_X8_weighAll 129 [some (.ref q0), some (.int v1), some (.int e1), none, some (.int e3), some (.int x4), some (.int x6)] [] h7 (J129 x6 h7)) (fun x6 h7 => ?_) (fun J129 hJ129 => ?_)
        · refine kr_aload0 d_X8_weighAll_129 ?_
          refine kr_getR (q := (q0 + 3)) d_X8_weighAll_130 fl_X8_12 hq0.1 rfl ?_
          refine kr_getR (q := ((q0 + 3) + 6)) d_X8_weighAll_133 fl_X8_98 hq0.2.2.2.1.1 rfl ?_
          refine kr_iload1 d_X8_weighAll_136 ?_
          refine kr_aload0 d_X8_weighAll_137 ?_
          refine kr_getR (q := (q0 + 3)) d_X8_weighAll_138 fl_X8_12 hq0.1 rfl ?_
          refine kr_getR (q := ((q0 + 3) + 1)) d_X8_weighAll_141 fl_X8_68 hq0.2.2.2.1.1 rfl ?_
          refine kr_iload1 d_X8_weighAll_144 ?_
          refine kr_iaload d_X8_weighAll_145 hq0.2.2.2.1.2.1 ?_
          refine kr_iload5 d_X8_weighAll_146 ?_
          refine kr_isn_i (As := [.int (h7 ((q0 + 3) + 1) v1.toNatClampNeg), .int x4]) d_X8_weighAll_148 (cl_X8_101 _) (m_X9_roomAs 3 (h7 ((q0 + 3) + 1) v1.toNatClampNeg) x4 h7) (Nat.le_of_ble_eq_true rfl) rfl (Nat.le_of_ble_eq_true rfl) (fun r9 h8 => ?_)
          refine kr_iastore d_X8_weighAll_151 hq0.2.2.2.1.2.2.2.2.2.2.1 ?_
          refine kr_hl (fun h10 => ?_)
          refine kr_aload0 d_X8_weighAll_152 ?_
          refine kr_getR (q := (q0 + 3)) d_X8_weighAll_153 fl_X8_12 hq0.1 rfl ?_
          refine kr_getR (q := ((q0 + 3) + 7)) d_X8_weighAll_156 fl_X8_104 hq0.2.2.2.1.1 rfl ?_
          refine kr_iload1 d_X8_weighAll_159 ?_
          refine kr_aload0 d_X8_weighAll_160 ?_
          refine kr_getR (q := (q0 + 3)) d_X8_weighAll_161 fl_X8_12 hq0.1 rfl ?_
          refine kr_getR (q := ((q0 + 3) + 1)) d_X8_weighAll_164 fl_X8_68 hq0.2.2.2.1.1 rfl ?_
          refine kr_iload1 d_X8_weighAll_167 ?_
          refine kr_iaload d_X8_weighAll_168 hq0.2.2.2.1.2.1 ?_
          refine kr_iload6 d_X8_weighAll_169 ?_
          refine kr_iload2 d_X8_weighAll_171 ?_
          refine kr_aload0 d_X8_weighAll_172 ?_
          refine kr_getR (q := (q0 + 3)) d_X8_weighAll_173 fl_X8_12 hq0.1 rfl ?_
          refine kr_iload1 d_X8_weighAll_176 ?_
          refine kr_iv_i (As := [.int v1]) d_X8_weighAll_177 cl_X8_107 (m_X1_leanersOn (q0 + 3) hq0.2.2.2.1 v1 h10) hq0.2.2.2.1.1 (Nat.le_of_ble_eq_true rfl) rfl (Nat.le_of_ble_eq_true rfl) (fun r12 h11 => ?_)
          refine kr_isn_i (As := [.int (h10 ((q0 + 3) + 1) v1.toNatClampNeg), .int x6, .int e1, .int r12]) d_X8_weighAll_180 (cl_X8_111 _) (m_X9_missAs 3 (h10 ((q0 + 3) + 1) v1.toNatClampNeg) x6 e1 r12 h11) (Nat.le_of_ble_eq_true rfl) rfl (Nat.le_of_ble_eq_true rfl) (fun r14 h13 => ?_)
          refine kr_iastore d_X8_weighAll_183 hq0.2.2.2.1.2.2.2.2.2.2.2.1 ?_
          refine kr_hl (fun h15 => ?_)
          refine kr_aload0 d_X8_weighAll_184 ?_
          refine kr_getR (q := (q0 + 3)) d_X8_weighAll_185 fl_X8_12 hq0.1 rfl ?_
          refine kr_getR (q := ((q0 + 3) + 8)) d_X8_weighAll_188 fl_X8_115 hq0.2.2.2.1.1 rfl ?_
          refine kr_iload1 d_X8_weighAll_191 ?_
          refine kr_const (v := 1) d_X8_weighAll_192 ?_
          refine kr_iload1 d_X8_weighAll_193 ?_
          refine kr_ishl d_X8_weighAll_194 ?_
          refine kr_iload4 d_X8_weighAll_195 ?_
          refine kr_if_ge d_X8_weighAll_197 ?_ ?_
          · refine kr_aload0 d_X8_weighAll_204 ?_
            refine kr_getR (q := (q0 + 3)) d_X8_weighAll_205 fl_X8_12 hq0.1 rfl ?_
            refine kr_getR (q := ((q0 + 3) + 8)) d_X8_weighAll_208 fl_X8_115 hq0.2.2.2.1.1 rfl ?_
            refine kr_iload4 d_X8_weighAll_211 ?_
            refine kr_iaload d_X8_weighAll_213 hq0.2.2.2.1.2.2.2.2.2.2.2.2 ?_
            refine kr_ior d_X8_weighAll_214 ?_
            refine kr_iastore d_X8_weighAll_215 hq0.2.2.2.1.2.2.2.2.2.2.2.2 ?_
            refine kr_hl (fun h16 => ?_)
            refine kr_iinc1 d_X8_weighAll_216 (Nat.le_of_ble_eq_true rfl) kv_c1a ?_
            refine kr_goto d_X8_weighAll_219 ?_
            refine kr_kill2 ?_
            refine kr_kill4 ?_
            refine kr_kill5 ?_
            refine kr_kill6 ?_
            exact ih (v1 + 1) h16 C hC
          · refine kr_const (v := 0) d_X8_weighAll_200 ?_
            refine kr_goto d_X8_weighAll_201 ?_
            refine kr_ior d_X8_weighAll_214 ?_
            refine kr_iastore d_X8_weighAll_215 hq0.2.2.2.1.2.2.2.2.2.2.2.2 ?_
            refine kr_hl (fun h17 => ?_)
            refine kr_iinc1 d_X8_weighAll_216 (Nat.le_of_ble_eq_true rfl) kv_c1a ?_
            refine kr_goto d_X8_weighAll_219 ?_
            refine kr_kill2 ?_
            refine kr_kill4 ?_
            refine kr_kill5 ?_
            refine kr_kill6 ?_
            exact ih (v1 + 1) h17 C hC
        refine kr_icmp_eq d_X8_weighAll_97 ?_ ?_
        · refine kr_kill3 ?_
          exact hJ129 e2 h5
        · refine kr_const (v := 0) d_X8_weighAll_100 ?_
          refine kr_const (v := 999) d_X8_weighAll_101 ?_
          refine kr_aload0 d_X8_weighAll_104 ?_
          refine kr_getR (q := 47) d_X8_weighAll_105 fl_X8_37 hq0.1 rfl ?_
          refine kr_aload0 d_X8_weighAll_108 ?_
          refine kr_getR (q := (q0 + 2)) d_X8_weighAll_109 fl_X8_30 hq0.1 rfl ?_
          refine kr_const (v := 1) d_X8_weighAll_112 ?_
          refine kr_ialoadC (j := 1) ⟨by decide, by decide, by decide⟩ d_X8_weighAll_113 hq0.2.2.1 ?_
          refine kr_iload3 d_X8_weighAll_114 ?_
          refine kr_iload1 d_X8_weighAll_115 ?_
          refine kr_iload2 d_X8_weighAll_116 ?_
          refine kr_const (v := 0) d_X8_weighAll_117 ?_
          refine kr_iv_i (As := [.int (h5 (q0 + 2) 1), .int e2, .int v1, .int e1, .int 0]) d_X8_weighAll_118 cl_X8_83 (m_X7_valueOf (h5 (q0 + 2) 1) e2 v1 e1 0 h5) sh_47 (Nat.le_of_ble_eq_true rfl) rfl (Nat.le_of_ble_eq_true rfl) (fun r19 h18 => ?_)
          refine kr_mmin d_X8_weighAll_121 wm_X8_89 (Nat.le_of_ble_eq_true rfl) (Nat.le_of_ble_eq_true rfl) ?_
          refine kr_mmax d_X8_weighAll_124 wm_X8_95 (Nat.le_of_ble_eq_true rfl) (Nat.le_of_ble_eq_true rfl) ?_
          refine kr_vl (fun e20 => ?_)
          refine kr_istore6 d_X8_weighAll_127 (Nat.le_of_ble_eq_true rfl) kv_c1i ?_
          refine kr_kill3 ?_
          exact hJ129 e20 h18
      refine kr_icmp_eq d_X8_weighAll_55 ?_ ?_
      · exact hJ86 e1 h
      · refine kr_const (v := 1) d_X8_weighAll_58 ?_
        refine kr_const (v := 9) d_X8_weighAll_59 ?_
        refine kr_aload0 d_X8_weighAll_61 ?_
        refine kr_getR (q := 47) d_X8_weighAll_62 fl_X8_37 hq0.1 rfl ?_
        refine kr_aload0 d_X8_weighAll_65 ?_
        refine kr_getR (q := (q0 + 2)) d_X8_weighAll_66 fl_X8_30 hq0.1 rfl ?_
        refine kr_const (v := 0) d_X8_weighAll_69 ?_
        refine kr_ialoadC (j := 0) ⟨by decide, by decide, by decide⟩ d_X8_weighAll_70 hq0.2.2.1 ?_
        refine kr_iload2 d_X8_weighAll_71 ?_
        refine kr_iload1 d_X8_weighAll_72 ?_
        refine kr_const (v := 0) d_X8_weighAll_73 ?_
        refine kr_const (v := 0) d_X8_weighAll_74 ?_
        refine kr_iv_i (As := [.int (h (q0 + 2) 0), .int e1, .int v1, .int 0, .int 0]) d_X8_weighAll_75 cl_X8_83 (m_X7_valueOf (h (q0 + 2) 0) e1 v1 0 0 h) sh_47 (Nat.le_of_ble_eq_true rfl) rfl (Nat.le_of_ble_eq_true rfl) (fun r22 h21 => ?_)
        refine kr_mmin d_X8_weighAll_78 wm_X8_89 (Nat.le_of_ble_eq_true rfl) (Nat.le_of_ble_eq_true rfl) ?_
        refine kr_mmax d_X8_weighAll_81 wm_X8_95 (Nat.le_of_ble_eq_true rfl) (Nat.le_of_ble_eq_true rfl) ?_
        refine kr_vl (fun e23 => ?_)
        refine kr_istore5 d_X8_weighAll_84 (Nat.le_of_ble_eq_true rfl) kv_c1i ?_
        exact hJ86 e23 h21

set_option maxRecDepth 20000 in
theorem m_X8_weighAll (k0 : Nat) (hk0 : kv_Wo k0) (h : kv_H) : kv_M kv_u kK_X8_weighAll [.ref k0] h (f_X8_weighAll k0 h) := by
  refine kv_met (ls := [some (.ref k0), none, none, none, none, none, none]) (show plainName RX8 = true by decide +kernel) (fun _ => rfl) (fun _ => Nat.le_of_ble_eq_true rfl) ?_
  unfold f_X8_weighAll
  refine kr_const (v := 0) d_X8_weighAll_0 ?_
  refine kr_istore1 d_X8_weighAll_1 (Nat.le_of_ble_eq_true rfl) kv_c1a ?_
  refine s_f_X8_weighAll_L2 k0 hk0 kv_fu 0 h _ (fun  h24 => ?_)
  exact kr_return d_X8_weighAll_222 rfl

/-! X8_addAsking -/
def f_X8_addAsking (k0 : Nat) (x1 : Int32) (h : kv_H) : Option (Int32 × kv_H) :=
  if (h k0 5) < (24 : Int32) then (kv_k (h k0 5) 24 (kv_hl (kv_up h (k0 + 1) (h k0 5).toNatClampNeg x1) (fun h1 =>
    kv_hl (kv_up h1 k0 5 ((h1 k0 5) + 1)) (fun h2 =>
    some (1, h2)))))
  else (some (0, h))
set_option maxRecDepth 20000 in
theorem m_X8_addAsking (k0 : Nat) (hk0 : kv_Wo k0) (x1 : Int32) (h : kv_H) : kv_M kv_i kK_X8_addAsking [.ref k0, .int x1] h (f_X8_addAsking k0 x1 h) := by
  refine kv_met (ls := [some (.ref k0), some (.int x1)]) (show plainName RX8 = true by decide +kernel) (fun _ => rfl) (fun _ => Nat.le_of_ble_eq_true rfl) ?_
  unfold f_X8_addAsking
  refine kr_aload0 d_X8_addAsking_0 ?_
  refine kr_getI d_X8_addAsking_1 fl_X8_52 hk0.1 rfl ?_
  refine kr_const (v := 24) d_X8_addAsking_4 ?_
  refine kr_icmp_lt d_X8_addAsking_6 ?_ ?_
  · refine kr_aload0 d_X8_addAsking_11 ?_
    refine kr_getR (q := (k0 + 1)) d_X8_addAsking_12 fl_X8_25 hk0.1 rfl ?_
    refine kr_aload0 d_X8_addAsking_15 ?_
    refine kr_getI d_X8_addAsking_16 fl_X8_52 hk0.1 rfl ?_
    refine kr_iload1 d_X8_addAsking_19 ?_
    refine kr_iastore d_X8_addAsking_20 hk0.2.1 ?_
    refine kr_hl (fun h1 => ?_)
    refine kr_aload0 d_X8_addAsking_21 ?_
    refine kr_dup d_X8_addAsking_22 rfl ?_
    refine kr_getI d_X8_addAsking_23 fl_X8_52 hk0.1 rfl ?_
    refine kr_const (v := 1) d_X8_addAsking_26 ?_
    refine kr_iadd d_X8_addAsking_27 ?_
    refine kr_putI d_X8_addAsking_28 fp_X8_52 hk0.1 rfl rfl rfl ?_
    refine kr_hl (fun h2 => ?_)
    refine kr_const (v := 1) d_X8_addAsking_31 ?_
    exact kr_zreturnK (by decide) d_X8_addAsking_32 rfl
  · refine kr_const (v := 0) d_X8_addAsking_9 ?_
    exact kr_zreturnK (by decide) d_X8_addAsking_10 rfl

/-! J6_bitCount_0f7a4 -/
def f_J6_bitCount_0f7a4 (x1 : Int32) (h : kv_H) : Option (Int32 × kv_H) :=
  kv_vl (x1 - ((x1.toUInt32 >>> (Int32.toUInt32 1 &&& Int32.toUInt32 31)).toInt32 &&& 1431655765)) (fun e1 =>
  kv_vl ((e1 &&& 858993459) + ((e1.toUInt32 >>> (Int32.toUInt32 2 &&& Int32.toUInt32 31)).toInt32 &&& 858993459)) (fun e2 =>
  kv_vl ((e2 + (e2.toUInt32 >>> (Int32.toUInt32 4 &&& Int32.toUInt32 31)).toInt32) &&& 252645135) (fun e3 =>
  kv_vl (e3 + (e3.toUInt32 >>> (Int32.toUInt32 8 &&& Int32.toUInt32 31)).toInt32) (fun e4 =>
  kv_vl (e4 + (e4.toUInt32 >>> (Int32.toUInt32 16 &&& Int32.toUInt32 31)).toInt32) (fun e5 =>
  some ((e5 &&& 63), h))))))
set_option maxRecDepth 20000 in
theorem m_J6_bitCount_0f7a4 (x1 : Int32) (h : kv_H) : kv_M kv_i kK_J6_bitCount_0f7a4 [.int x1] h (f_J6_bitCount_0f7a4 x1 h) := by
  refine kv_met (ls := [some (.int x1)]) (show plainName RJ6 = true by decide +kernel) (fun _ => rfl) (fun _ => Nat.le_of_ble_eq_true rfl) ?_
  unfold f_J6_bitCount_0f7a4
  refine kr_iload0 d_J6_bitCount_0f7a4_0 ?_
  refine kr_iload0 d_J6_bitCount_0f7a4_1 ?_
  refine kr_const (v := 1) d_J6_bitCount_0f7a4_2 ?_
  refine kr_iushr d_J6_bitCount_0f7a4_3 ?_
  refine kr_const (v := 1431655765) d_J6_bitCount_0f7a4_4 ?_
  refine kr_iand d_J6_bitCount_0f7a4_7 ?_
  refine kr_isub d_J6_bitCount_0f7a4_8 ?_
  refine kr_vl (fun e1 => ?_)
  refine kr_istore0 d_J6_bitCount_0f7a4_9 (Nat.le_of_ble_eq_true rfl) ?_
  refine kr_iload0 d_J6_bitCount_0f7a4_10 ?_
  refine kr_const (v := 858993459) d_J6_bitCount_0f7a4_11 ?_
  refine kr_iand d_J6_bitCount_0f7a4_14 ?_
  refine kr_iload0 d_J6_bitCount_0f7a4_15 ?_
  refine kr_const (v := 2) d_J6_bitCount_0f7a4_16 ?_
  refine kr_iushr d_J6_bitCount_0f7a4_17 ?_
  refine kr_const (v := 858993459) d_J6_bitCount_0f7a4_18 ?_
  refine kr_iand d_J6_bitCount_0f7a4_21 ?_
  refine kr_iadd d_J6_bitCount_0f7a4_22 ?_
  refine kr_vl (fun e2 => ?_)
  refine kr_istore0 d_J6_bitCount_0f7a4_23 (Nat.le_of_ble_eq_true rfl) ?_
  refine kr_iload0 d_J6_bitCount_0f7a4_24 ?_
  refine kr_iload0 d_J6_bitCount_0f7a4_25 ?_
  refine kr_const (v := 4) d_J6_bitCount_0f7a4_26 ?_
  refine kr_iushr d_J6_bitCount_0f7a4_27 ?_
  refine kr_iadd d_J6_bitCount_0f7a4_28 ?_
  refine kr_const (v := 252645135) d_J6_bitCount_0f7a4_29 ?_
  refine kr_iand d_J6_bitCount_0f7a4_32 ?_
  refine kr_vl (fun e3 => ?_)
  refine kr_istore0 d_J6_bitCount_0f7a4_33 (Nat.le_of_ble_eq_true rfl) ?_
  refine kr_iload0 d_J6_bitCount_0f7a4_34 ?_
  refine kr_iload0 d_J6_bitCount_0f7a4_35 ?_
  refine kr_const (v := 8) d_J6_bitCount_0f7a4_36 ?_
  refine kr_iushr d_J6_bitCount_0f7a4_38 ?_
  refine kr_iadd d_J6_bitCount_0f7a4_39 ?_
  refine kr_vl (fun e4 => ?_)
  refine kr_istore0 d_J6_bitCount_0f7a4_40 (Nat.le_of_ble_eq_true rfl) ?_
  refine kr_iload0 d_J6_bitCount_0f7a4_41 ?_
  refine kr_iload0 d_J6_bitCount_0f7a4_42 ?_
  refine kr_const (v := 16) d_J6_bitCount_0f7a4_43 ?_
  refine kr_iushr d_J6_bitCount_0f7a4_45 ?_
  refine kr_iadd d_J6_bitCount_0f7a4_46 ?_
  refine kr_vl (fun e5 => ?_)
  refine kr_istore0 d_J6_bitCount_0f7a4_47 (Nat.le_of_ble_eq_true rfl) ?_
  refine kr_iload0 d_J6_bitCount_0f7a4_48 ?_
  refine kr_const (v := 63) d_J6_bitCount_0f7a4_49 ?_
  refine kr_iand d_J6_bitCount_0f7a4_51 ?_
  exact kr_ireturn d_J6_bitCount_0f7a4_52 rfl

/-! X8_urgeToThrow -/
def f_X8_urgeToThrow (k0 : Nat) (k1 : Nat) (x2 : Int32) (h : kv_H) : Option (Int32 × kv_H) :=
  if (h k0 8) = (1 : Int32) then (kv_k x2 8 (some ((-(h (k1 + 2) x2.toNatClampNeg)), h)))
  else (if (h k0 8) = (2 : Int32) then (kv_k x2 8 (some ((-(h (k1 + 3) x2.toNatClampNeg)), h)))
    else (if (h k0 8) = (4 : Int32) then (if (h (k0 + 2) 2) = (-1000000005 : Int32) then (some (0, h))
        else (kv_k x2 8 (kv_vl ((h k1 5) - (h (k1 + 2) x2.toNatClampNeg)) (fun e1 =>
          kv_k x2 8 (kv_k x2 8 (kv_b (f_X7_valueOf (h (k0 + 2) 2) e1 (h (k1 + 3) x2.toNatClampNeg) (h ((k0 + 3) + 6) x2.toNatClampNeg) x2 h) (fun r3 h2 =>
          some (r3, h2))))))))
      else (some (0, h))))
set_option maxRecDepth 20000 in
theorem m_X8_urgeToThrow (k0 : Nat) (hk0 : kv_Wo k0) (k1 : Nat) (hk1 : kv_Co k1) (x2 : Int32) (h : kv_H) : kv_M kv_i kK_X8_urgeToThrow [.ref k0, .ref k1, .int x2] h (f_X8_urgeToThrow k0 k1 x2 h) := by
  refine kv_met (ls := [some (.ref k0), some (.ref k1), some (.int x2), none]) (show plainName RX8 = true by decide +kernel) (fun _ => rfl) (fun _ => Nat.le_of_ble_eq_true rfl) ?_
  unfold f_X8_urgeToThrow
  refine kr_aload0 d_X8_urgeToThrow_0 ?_
  refine kr_getI d_X8_urgeToThrow_1 fl_X8_58 hk0.1 rfl ?_
  refine kr_const (v := 1) d_X8_urgeToThrow_4 ?_
  refine kr_icmp_ne d_X8_urgeToThrow_5 ?_ ?_
  · refine kr_aload0 d_X8_urgeToThrow_16 ?_
    refine kr_getI d_X8_urgeToThrow_17 fl_X8_58 hk0.1 rfl ?_
    refine kr_const (v := 2) d_X8_urgeToThrow_20 ?_
    refine kr_icmp_ne d_X8_urgeToThrow_21 ?_ ?_
    · refine kr_aload0 d_X8_urgeToThrow_32 ?_
      refine kr_getI d_X8_urgeToThrow_33 fl_X8_58 hk0.1 rfl ?_
      refine kr_const (v := 4) d_X8_urgeToThrow_36 ?_
      refine kr_icmp_ne d_X8_urgeToThrow_37 ?_ ?_
      · refine kr_const (v := 0) d_X8_urgeToThrow_94 ?_
        exact kr_ireturn d_X8_urgeToThrow_95 rfl
      · refine kr_aload0 d_X8_urgeToThrow_40 ?_
        refine kr_getR (q := (k0 + 2)) d_X8_urgeToThrow_41 fl_X8_30 hk0.1 rfl ?_
        refine kr_const (v := 2) d_X8_urgeToThrow_44 ?_
        refine kr_ialoadC (j := 2) ⟨by decide, by decide, by decide⟩ d_X8_urgeToThrow_45 hk0.2.2.1 ?_
        refine kr_const (v := (-1000000005)) d_X8_urgeToThrow_46 ?_
        refine kr_icmp_eq d_X8_urgeToThrow_48 ?_ ?_
        · refine kr_const (v := 0) d_X8_urgeToThrow_94 ?_
          exact kr_ireturn d_X8_urgeToThrow_95 rfl
        · refine kr_aload1 d_X8_urgeToThrow_51 ?_
          refine kr_getI d_X8_urgeToThrow_52 fl_X8_125 hk1.1 rfl ?_
          refine kr_aload1 d_X8_urgeToThrow_55 ?_
          refine kr_getR (q := (k1 + 2)) d_X8_urgeToThrow_56 fl_X8_138 hk1.1 rfl ?_
          refine kr_iload2 d_X8_urgeToThrow_59 ?_
          refine kr_iaload d_X8_urgeToThrow_60 hk1.2.2.1 ?_
          refine kr_isub d_X8_urgeToThrow_61 ?_
          refine kr_vl (fun e1 => ?_)
          refine kr_istore3 d_X8_urgeToThrow_62 (Nat.le_of_ble_eq_true rfl) kv_c1i ?_
          refine kr_aload0 d_X8_urgeToThrow_63 ?_
          refine kr_getR (q := 47) d_X8_urgeToThrow_64 fl_X8_37 hk0.1 rfl ?_
          refine kr_aload0 d_X8_urgeToThrow_67 ?_
          refine kr_getR (q := (k0 + 2)) d_X8_urgeToThrow_68 fl_X8_30 hk0.1 rfl ?_
          refine kr_const (v := 2) d_X8_urgeToThrow_71 ?_
          refine kr_ialoadC (j := 2) ⟨by decide, by decide, by decide⟩ d_X8_urgeToThrow_72 hk0.2.2.1 ?_
          refine kr_iload3 d_X8_urgeToThrow_73 ?_
          refine kr_aload1 d_X8_urgeToThrow_74 ?_
          refine kr_getR (q := (k1 + 3)) d_X8_urgeToThrow_75 fl_X8_128 hk1.1 rfl ?_
          refine kr_iload2 d_X8_urgeToThrow_78 ?_
          refine kr_iaload d_X8_urgeToThrow_79 hk1.2.2.2 ?_
          refine kr_aload0 d_X8_urgeToThrow_80 ?_
          refine kr_getR (q := (k0 + 3)) d_X8_urgeToThrow_81 fl_X8_12 hk0.1 rfl ?_
          refine kr_getR (q := ((k0 + 3) + 6)) d_X8_urgeToThrow_84 fl_X8_98 hk0.2.2.2.1.1 rfl ?_
          refine kr_iload2 d_X8_urgeToThrow_87 ?_
          refine kr_iaload d_X8_urgeToThrow_88 hk0.2.2.2.1.2.2.2.2.2.2.1 ?_
          refine kr_iload2 d_X8_urgeToThrow_89 ?_
          refine kr_iv_i (As := [.int (h (k0 + 2) 2), .int e1, .int (h (k1 + 3) x2.toNatClampNeg), .int (h ((k0 + 3) + 6) x2.toNatClampNeg), .int x2]) d_X8_urgeToThrow_90 cl_X8_83 (m_X7_valueOf (h (k0 + 2) 2) e1 (h (k1 + 3) x2.toNatClampNeg) (h ((k0 + 3) + 6) x2.toNatClampNeg) x2 h) sh_47 (Nat.le_of_ble_eq_true rfl) rfl (Nat.le_of_ble_eq_true rfl) (fun r3 h2 => ?_)
          exact kr_ireturn d_X8_urgeToThrow_93 rfl
    · refine kr_aload1 d_X8_urgeToThrow_24 ?_
      refine kr_getR (q := (k1 + 3)) d_X8_urgeToThrow_25 fl_X8_128 hk1.1 rfl ?_
      refine kr_iload2 d_X8_urgeToThrow_28 ?_
      refine kr_iaload d_X8_urgeToThrow_29 hk1.2.2.2 ?_
      refine kr_ineg d_X8_urgeToThrow_30 ?_
      exact kr_ireturn d_X8_urgeToThrow_31 rfl
  · refine kr_aload1 d_X8_urgeToThrow_8 ?_
    refine kr_getR (q := (k1 + 2)) d_X8_urgeToThrow_9 fl_X8_138 hk1.1 rfl ?_
    refine kr_iload2 d_X8_urgeToThrow_12 ?_
    refine kr_iaload d_X8_urgeToThrow_13 hk1.2.2.1 ?_
    refine kr_ineg d_X8_urgeToThrow_14 ?_
    exact kr_ireturn d_X8_urgeToThrow_15 rfl

/-! X8_thrownPlace -/
def f_X8_thrownPlace_L69 (q0 : Nat) (q1 : Nat) (c2 : Int32) : Nat → Int32 → Int32 → Int32 → Int32 → kv_H → (Int32 → kv_H → Option (Int32 × kv_H)) → Option (Int32 × kv_H)
  | 0, _, _, _, _, _, _ => none
  | n + 1, v4, v5, v6, v7, h, C => if (h q1 3) ≤ v7 then (C v6 h)
    else (kv_k v7 8 (if ((c2 >>> ((h (q1 + 1) v7.toNatClampNeg) &&& 31)) &&& 1) = 0 then (f_X8_thrownPlace_L69 q0 q1 c2 n v4 v5 v6 (v7 + 1) h C)
      else (if v4 ≤ 0 then (kv_k v7 8 (kv_b (f_X8_urgeToThrow q0 q1 (h (q1 + 1) v7.toNatClampNeg) h) (fun r8 h7 =>
          kv_jn (fun  (h9 : kv_H) =>
          f_X8_thrownPlace_L69 q0 q1 c2 n v4 r8 v7 (v7 + 1) h9 C) (fun (J134 : kv_H → Option (Int32 × kv_H)) =>
          if v6 = (-1000000005 : Int32) then (J134 h7)
          else (if r8 ≤ v5 then (f_X8_thrownPlace_L69 q0 q1 c2 n v4 v5 v6 (v7 + 1) h7 C)
            else (J134 h7))))))
        else (f_X8_thrownPlace_L69 q0 q1 c2 n (v4 + (-1)) v5 v6 (v7 + 1) h C))))
def f_X8_thrownPlace (k0 : Nat) (k1 : Nat) (h : kv_H) : Option (Int32 × kv_H) :=
  kv_jn (fun (y1 : Int32) (h2 : kv_H) =>
  kv_b (f_J6_bitCount_0f7a4 y1 h2) (fun r4 h3 =>
    if r4 = 0 then (some ((-1000000005), h3))
    else (kv_jn (fun (y5 : Int32) (h6 : kv_H) =>
      f_X8_thrownPlace_L69 k0 k1 y1 kv_fu y5 0 (-1000000005) 0 h6 (fun z10 h11 =>
        some (z10, h11))) (fun (J57 : Int32 → kv_H → Option (Int32 × kv_H)) =>
      if (h3 k0 8) = (3 : Int32) then (kv_b (f_X0_draw k1 h3) (fun r13 h12 =>
        kv_z r4 (J57 (r13 - r13 / r4 * r4) h12)))
      else (J57 0 h3))))) (fun (J26 : Int32 → kv_H → Option (Int32 × kv_H)) =>
  if (h k0 9) = (1 : Int32) then (kv_b (f_X1_freeOf (k0 + 3) (h k1 4) h) (fun r15 h14 =>
    J26 r15 h14))
  else (J26 (h k1 4) h))
set_option maxRecDepth 20000 in
theorem s_f_X8_thrownPlace_L69 (q0 : Nat) (hq0 : kv_Wo q0) (q1 : Nat) (hq1 : kv_Co q1) (c2 : Int32) : ∀ (n : Nat) (v4 : Int32) (v5 : Int32) (v6 : Int32) (v7 : Int32) (h : kv_H) (C : Int32 → kv_H → Option (Int32 × kv_H)), (∀ (w6 : Int32) (h : kv_H), kv_S kv_i kK_X8_thrownPlace 148 [none, none, none, none, none, none, some (.int w6), none, none] [] h (C w6 h)) → kv_S kv_i kK_X8_thrownPlace 69 [some (.ref q0), some (.ref q1), some (.int c2), none, some (.int v4), some (.int v5), some (.int v6), some (.int v7), none] [] h (f_X8_thrownPlace_L69 q0 q1 c2 n v4 v5 v6 v7 h C) := by
  intro n
  induction n with
  | zero => intros; exact kv_none
  | succ n ih =>
    intro v4 v5 v6 v7 h C hC
    unfold f_X8_thrownPlace_L69
    refine kr_iload7 d_X8_thrownPlace_69 ?_
    refine kr_aload1 d_X8_thrownPlace_71 ?_
    refine kr_getI d_X8_thrownPlace_72 fl_X8_174 hq1.1 rfl ?_
    refine kr_icmp_ge d_X8_thrownPlace_75 ?_ ?_
    · refine kr_kill0 ?_
      refine kr_kill1 ?_
      refine kr_kill2 ?_
      refine kr_kill4 ?_
      refine kr_kill5 ?_
      refine kr_kill7 ?_
      exact hC v6 h
    · refine kr_iload2 d_X8_thrownPlace_78 ?_
      refine kr_aload1 d_X8_thrownPlace_79 ?_
      refine kr_getR (q := (q1 + 1)) d_X8_thrownPlace_80 fl_X8_177 hq1.1 rfl ?_
      refine kr_iload7 d_X8_thrownPlace_83 ?_
      refine kr_iaload d_X8_thrownPlace_85 hq1.2.1 ?_
      refine kr_ishr d_X8_thrownPlace_86 ?_
      refine kr_const (v := 1) d_X8_thrownPlace_87 ?_
      refine kr_iand d_X8_thrownPlace_88 ?_
      refine kr_if_ne d_X8_thrownPlace_89 ?_ ?_
      · refine kr_iload4 d_X8_thrownPlace_95 ?_
        refine kr_if_le d_X8_thrownPlace_97 ?_ ?_
        · refine kr_aload0 d_X8_thrownPlace_106 ?_
          refine kr_aload1 d_X8_thrownPlace_107 ?_
          refine kr_aload1 d_X8_thrownPlace_108 ?_
          refine kr_getR (q := (q1 + 1)) d_X8_thrownPlace_109 fl_X8_177 hq1.1 rfl ?_
          refine kr_iload7 d_X8_thrownPlace_112 ?_
          refine kr_iaload d_X8_thrownPlace_114 hq1.2.1 ?_
          refine kr_iv_i (As := [.ref q1, .int (h (q1 + 1) v7.toNatClampNeg)]) d_X8_thrownPlace_115 cl_X8_180 (m_X8_urgeToThrow q0 hq0 q1 hq1 (h (q1 + 1) v7.toNatClampNeg) h) hq0.1 (Nat.le_of_ble_eq_true rfl) rfl (Nat.le_of_ble_eq_true rfl) (fun r8 h7 => ?_)
          refine kr_istore8 d_X8_thrownPlace_118 (Nat.le_of_ble_eq_true rfl) kv_c1i ?_
          refine kr_iload6 d_X8_thrownPlace_120 ?_
          refine kr_const (v := (-1000000005)) d_X8_thrownPlace_122 ?_
          refine kr_jn (P := fun J134 =>  ∀ (h9 : kv_H), kv_S kv_i kK_X8_thrownPlace 134 [some (.ref q0), some (.ref q1), some (.int c2), none, some (.int v4), none, none, some (.int v7), some (.int r8)] [] h9 (J134  h9)) (fun  h9 => ?_) (fun J134 hJ134 => ?_)
          · refine kr_iload8 d_X8_thrownPlace_134 ?_
            refine kr_istore5 d_X8_thrownPlace_136 (Nat.le_of_ble_eq_true rfl) kv_c1i ?_
            refine kr_iload7 d_X8_thrownPlace_138 ?_
            refine kr_istore6 d_X8_thrownPlace_140 (Nat.le_of_ble_eq_true rfl) kv_c1i ?_
            refine kr_iinc7 d_X8_thrownPlace_142 (Nat.le_of_ble_eq_true rfl) kv_c1i ?_
            refine kr_goto d_X8_thrownPlace_145 ?_
            refine kr_kill8 ?_
            exact ih v4 r8 v7 (v7 + 1) h9 C hC
          refine kr_icmp_eq d_X8_thrownPlace_124 ?_ ?_
          · refine kr_kill5 ?_
            refine kr_kill6 ?_
            exact hJ134 h7
          · refine kr_iload8 d_X8_thrownPlace_127 ?_
            refine kr_iload5 d_X8_thrownPlace_129 ?_
            refine kr_icmp_le d_X8_thrownPlace_131 ?_ ?_
            · refine kr_iinc7 d_X8_thrownPlace_142 (Nat.le_of_ble_eq_true rfl) kv_c1i ?_
              refine kr_goto d_X8_thrownPlace_145 ?_
              refine kr_kill8 ?_
              exact ih v4 v5 v6 (v7 + 1) h7 C hC
            · refine kr_kill5 ?_
              refine kr_kill6 ?_
              exact hJ134 h7
        · refine kr_iinc4 d_X8_thrownPlace_100 (Nat.le_of_ble_eq_true rfl) kv_c1n ?_
          refine kr_goto d_X8_thrownPlace_103 ?_
          refine kr_iinc7 d_X8_thrownPlace_142 (Nat.le_of_ble_eq_true rfl) kv_c1i ?_
          refine kr_goto d_X8_thrownPlace_145 ?_
          exact ih (v4 + (-1)) v5 v6 (v7 + 1) h C hC
      · refine kr_goto d_X8_thrownPlace_92 ?_
        refine kr_iinc7 d_X8_thrownPlace_142 (Nat.le_of_ble_eq_true rfl) kv_c1i ?_
        refine kr_goto d_X8_thrownPlace_145 ?_
        exact ih v4 v5 v6 (v7 + 1) h C hC

set_option maxRecDepth 20000 in
theorem m_X8_thrownPlace (k0 : Nat) (hk0 : kv_Wo k0) (k1 : Nat) (hk1 : kv_Co k1) (h : kv_H) : kv_M kv_i kK_X8_thrownPlace [.ref k0, .ref k1] h (f_X8_thrownPlace k0 k1 h) := by
  refine kv_met (ls := [some (.ref k0), some (.ref k1), none, none, none, none, none, none, none]) (show plainName RX8 = true by decide +kernel) (fun _ => rfl) (fun _ => Nat.le_of_ble_eq_true rfl) ?_
  unfold f_X8_thrownPlace
  refine kr_aload0 d_X8_thrownPlace_0 ?_
  refine kr_getI d_X8_thrownPlace_1 fl_X8_61 hk0.1 rfl ?_
  refine kr_const (v := 1) d_X8_thrownPlace_4 ?_
  refine kr_jn (P := fun J26 => ∀ (y1 : Int32), ∀ (h2 : kv_H), kv_S kv_i kK_X8_thrownPlace 26 [some (.ref k0), some (.ref k1), none, none, none, none, none, none, none] [.int y1] h2 (J26 y1 h2)) (fun y1 h2 => ?_) (fun J26 hJ26 => ?_)
  · refine kr_istore2 d_X8_thrownPlace_26 (Nat.le_of_ble_eq_true rfl) kv_c1a ?_
    refine kr_iload2 d_X8_thrownPlace_27 ?_
    refine kr_is_i (As := [.int y1]) d_X8_thrownPlace_28 cl_X8_165 (m_J6_bitCount_0f7a4 y1 h2) (Nat.le_of_ble_eq_true rfl) rfl (Nat.le_of_ble_eq_true rfl) (fun r4 h3 => ?_)
    refine kr_istore3 d_X8_thrownPlace_31 (Nat.le_of_ble_eq_true rfl) kv_c1i ?_
    refine kr_iload3 d_X8_thrownPlace_32 ?_
    refine kr_if_ne d_X8_thrownPlace_33 ?_ ?_
    · refine kr_aload0 d_X8_thrownPlace_39 ?_
      refine kr_getI d_X8_thrownPlace_40 fl_X8_58 hk0.1 rfl ?_
      refine kr_const (v := 3) d_X8_thrownPlace_43 ?_
      refine kr_jn (P := fun J57 => ∀ (y5 : Int32), ∀ (h6 : kv_H), kv_S kv_i kK_X8_thrownPlace 57 [some (.ref k0), some (.ref k1), some (.int y1), none, none, none, none, none, none] [.int y5] h6 (J57 y5 h6)) (fun y5 h6 => ?_) (fun J57 hJ57 => ?_)
      · refine kr_istore4 d_X8_thrownPlace_57 (Nat.le_of_ble_eq_true rfl) kv_c1n ?_
        refine kr_const (v := 0) d_X8_thrownPlace_59 ?_
        refine kr_istore5 d_X8_thrownPlace_60 (Nat.le_of_ble_eq_true rfl) kv_c1i ?_
        refine kr_const (v := (-1000000005)) d_X8_thrownPlace_62 ?_
        refine kr_istore6 d_X8_thrownPlace_64 (Nat.le_of_ble_eq_true rfl) kv_c1i ?_
        refine kr_const (v := 0) d_X8_thrownPlace_66 ?_
        refine kr_istore7 d_X8_thrownPlace_67 (Nat.le_of_ble_eq_true rfl) kv_c1i ?_
        refine s_f_X8_thrownPlace_L69 k0 hk0 k1 hk1 y1 kv_fu y5 0 (-1000000005) 0 h6 _ (fun z10 h11 => ?_)
        refine kr_iload6 d_X8_thrownPlace_148 ?_
        exact kr_ireturn d_X8_thrownPlace_150 rfl
      refine kr_icmp_ne d_X8_thrownPlace_44 ?_ ?_
      · refine kr_const (v := 0) d_X8_thrownPlace_56 ?_
        refine kr_kill3 ?_
        exact hJ57 0 h3
      · refine kr_aload1 d_X8_thrownPlace_47 ?_
        refine kr_iv_i (As := []) d_X8_thrownPlace_48 cl_X8_170 (m_X0_draw k1 hk1 h3) hk1.1 (Nat.le_of_ble_eq_true rfl) rfl (Nat.le_of_ble_eq_true rfl) (fun r13 h12 => ?_)
        refine kr_iload3 d_X8_thrownPlace_51 ?_
        refine kr_irem d_X8_thrownPlace_52 ?_
        refine kr_goto d_X8_thrownPlace_53 ?_
        refine kr_kill3 ?_
        exact hJ57 (r13 - r13 / r4 * r4) h12
    · refine kr_const (v := (-1000000005)) d_X8_thrownPlace_36 ?_
      exact kr_ireturn d_X8_thrownPlace_38 rfl
  refine kr_icmp_ne d_X8_thrownPlace_5 ?_ ?_
  · refine kr_aload1 d_X8_thrownPlace_22 ?_
    refine kr_getI d_X8_thrownPlace_23 fl_X8_131 hk1.1 rfl ?_
    exact hJ26 (h k1 4) h
  · refine kr_aload0 d_X8_thrownPlace_8 ?_
    refine kr_getR (q := (k0 + 3)) d_X8_thrownPlace_9 fl_X8_12 hk0.1 rfl ?_
    refine kr_aload1 d_X8_thrownPlace_12 ?_
    refine kr_getI d_X8_thrownPlace_13 fl_X8_131 hk1.1 rfl ?_
    refine kr_iv_i (As := [.int (h k1 4)]) d_X8_thrownPlace_16 cl_X8_162 (m_X1_freeOf (k0 + 3) hk0.2.2.2.1 (h k1 4) h) hk0.2.2.2.1.1 (Nat.le_of_ble_eq_true rfl) rfl (Nat.le_of_ble_eq_true rfl) (fun r15 h14 => ?_)
    refine kr_goto d_X8_thrownPlace_19 ?_
    exact hJ26 r15 h14

/-! X8_throwDownTo -/
def f_X8_throwDownTo_L5 (q0 : Nat) (q1 : Nat) (c2 : Int32) : Nat → Int32 → Int32 → kv_H → (Int32 → kv_H → Option (Int32 × kv_H)) → Option (Int32 × kv_H)
  | 0, _, _, _, _ => none
  | n + 1, v3, v4, h, C => if (8 : Int32) ≤ v4 then (C v3 h)
    else (kv_b (f_X1_roomsOf (q0 + 3) (h q1 4) h) (fun r2 h1 =>
      if r2 ≤ c2 then (C v3 h1)
      else (kv_b (f_X8_thrownPlace q0 q1 h1) (fun r4 h3 =>
        kv_b (f_X0_leafAt q1 r4 h3) (fun r6 h5 =>
        kv_b (f_X0_leave q1 r6 h5) (fun r8 h7 =>
        if r8 = 0 then (f_X8_throwDownTo_L5 q0 q1 c2 n v3 (v4 + 1) h7 C)
        else (f_X8_throwDownTo_L5 q0 q1 c2 n (v3 + 1) (v4 + 1) h7 C)))))))
def f_X8_throwDownTo (k0 : Nat) (k1 : Nat) (x2 : Int32) (h : kv_H) : Option (Int32 × kv_H) :=
  f_X8_throwDownTo_L5 k0 k1 x2 kv_fu 0 0 h (fun z9 h10 =>
  some (z9, h10))
set_option maxRecDepth 20000 in
theorem s_f_X8_throwDownTo_L5 (q0 : Nat) (hq0 : kv_Wo q0) (q1 : Nat) (hq1 : kv_Co q1) (c2 : Int32) : ∀ (n : Nat) (v3 : Int32) (v4 : Int32) (h : kv_H) (C : Int32 → kv_H → Option (Int32 × kv_H)), (∀ (w3 : Int32) (h : kv_H), kv_S kv_i kK_X8_throwDownTo 52 [none, none, none, some (.int w3), none] [] h (C w3 h)) → kv_S kv_i kK_X8_throwDownTo 5 [some (.ref q0), some (.ref q1), some (.int c2), some (.int v3), some (.int v4)] [] h (f_X8_throwDownTo_L5 q0 q1 c2 n v3 v4 h C) := by
  intro n
  induction n with
  | zero => intros; exact kv_none
  | succ n ih =>
    intro v3 v4 h C hC
    unfold f_X8_throwDownTo_L5
    refine kr_iload4 d_X8_throwDownTo_5 ?_
    refine kr_const (v := 8) d_X8_throwDownTo_7 ?_
    refine kr_icmp_ge d_X8_throwDownTo_9 ?_ ?_
    · refine kr_kill0 ?_
      refine kr_kill1 ?_
      refine kr_kill2 ?_
      refine kr_kill4 ?_
      exact hC v3 h
    · refine kr_aload0 d_X8_throwDownTo_12 ?_
      refine kr_getR (q := (q0 + 3)) d_X8_throwDownTo_13 fl_X8_12 hq0.1 rfl ?_
      refine kr_aload1 d_X8_throwDownTo_16 ?_
      refine kr_getI d_X8_throwDownTo_17 fl_X8_131 hq1.1 rfl ?_
      refine kr_iv_i (As := [.int (h q1 4)]) d_X8_throwDownTo_20 cl_X8_148 (m_X1_roomsOf (q0 + 3) hq0.2.2.2.1 (h q1 4) h) hq0.2.2.2.1.1 (Nat.le_of_ble_eq_true rfl) rfl (Nat.le_of_ble_eq_true rfl) (fun r2 h1 => ?_)
      refine kr_iload2 d_X8_throwDownTo_23 ?_
      refine kr_icmp_le d_X8_throwDownTo_24 ?_ ?_
      · refine kr_kill0 ?_
        refine kr_kill1 ?_
        refine kr_kill2 ?_
        refine kr_kill4 ?_
        exact hC v3 h1
      · refine kr_aload1 d_X8_throwDownTo_27 ?_
        refine kr_aload1 d_X8_throwDownTo_28 ?_
        refine kr_aload0 d_X8_throwDownTo_29 ?_
        refine kr_aload1 d_X8_throwDownTo_30 ?_
        refine kr_iv_i (As := [.ref q1]) d_X8_throwDownTo_31 cl_X8_151 (m_X8_thrownPlace q0 hq0 q1 hq1 h1) hq0.1 (Nat.le_of_ble_eq_true rfl) rfl (Nat.le_of_ble_eq_true rfl) (fun r4 h3 => ?_)
        refine kr_iv_i (As := [.int r4]) d_X8_throwDownTo_34 cl_X8_155 (m_X0_leafAt q1 hq1 r4 h3) hq1.1 (Nat.le_of_ble_eq_true rfl) rfl (Nat.le_of_ble_eq_true rfl) (fun r6 h5 => ?_)
        refine kr_iv_i (As := [.int r6]) d_X8_throwDownTo_37 cl_X8_158 (m_X0_leave q1 hq1 r6 h5) hq1.1 (Nat.le_of_ble_eq_true rfl) rfl (Nat.le_of_ble_eq_true rfl) (fun r8 h7 => ?_)
        refine kr_if_eq d_X8_throwDownTo_40 ?_ ?_
        · refine kr_iinc4 d_X8_throwDownTo_46 (Nat.le_of_ble_eq_true rfl) kv_c1i ?_
          refine kr_goto d_X8_throwDownTo_49 ?_
          exact ih v3 (v4 + 1) h7 C hC
        · refine kr_iinc3 d_X8_throwDownTo_43 (Nat.le_of_ble_eq_true rfl) kv_c1i ?_
          refine kr_iinc4 d_X8_throwDownTo_46 (Nat.le_of_ble_eq_true rfl) kv_c1i ?_
          refine kr_goto d_X8_throwDownTo_49 ?_
          exact ih (v3 + 1) (v4 + 1) h7 C hC

set_option maxRecDepth 20000 in
theorem m_X8_throwDownTo (k0 : Nat) (hk0 : kv_Wo k0) (k1 : Nat) (hk1 : kv_Co k1) (x2 : Int32) (h : kv_H) : kv_M kv_i kK_X8_throwDownTo [.ref k0, .ref k1, .int x2] h (f_X8_throwDownTo k0 k1 x2 h) := by
  refine kv_met (ls := [some (.ref k0), some (.ref k1), some (.int x2), none, none]) (show plainName RX8 = true by decide +kernel) (fun _ => rfl) (fun _ => Nat.le_of_ble_eq_true rfl) ?_
  unfold f_X8_throwDownTo
  refine kr_const (v := 0) d_X8_throwDownTo_0 ?_
  refine kr_istore3 d_X8_throwDownTo_1 (Nat.le_of_ble_eq_true rfl) kv_c1i ?_
  refine kr_const (v := 0) d_X8_throwDownTo_2 ?_
  refine kr_istore4 d_X8_throwDownTo_3 (Nat.le_of_ble_eq_true rfl) kv_c1i ?_
  refine s_f_X8_throwDownTo_L5 k0 hk0 k1 hk1 x2 kv_fu 0 0 h _ (fun z9 h10 => ?_)
  refine kr_iload3 d_X8_throwDownTo_52 ?_
  exact kr_ireturn d_X8_throwDownTo_53 rfl

/-! X8_asking -/
def f_X8_asking_L40 (q0 : Nat) (q1 : Nat) : Nat → Int32 → Int32 → kv_H → (kv_H → Option (Int32 × kv_H)) → Option (Int32 × kv_H)
  | 0, _, _, _, _ => none
  | n + 1, v3, v4, h, C => if (8 : Int32) ≤ v4 then (C h)
    else (if v3 < 0 then (C h)
      else (kv_k v3 8 (kv_hl (kv_up h (q1 + 2) v3.toNatClampNeg (h q1 5)) (fun h11 =>
        kv_k v3 8 (kv_vl (h11 ((q0 + 3) + 5) v3.toNatClampNeg) (fun e12 =>
        f_X8_asking_L40 q0 q1 n e12 (v4 + 1) h11 C))))))
def f_X8_asking (k0 : Nat) (k1 : Nat) (x2 : Int32) (h : kv_H) : Option (Int32 × kv_H) :=
  kv_hl (kv_up h k1 5 ((h k1 5) + 1)) (fun h1 =>
  kv_k x2 8 (kv_k x2 8 (kv_hl (kv_up h1 (k1 + 3) x2.toNatClampNeg ((h1 (k1 + 3) x2.toNatClampNeg) + 1)) (fun h2 =>
  kv_b (f_X1_isRead (k0 + 3) (h2 k1 4) x2 h2) (fun r4 h3 =>
  if r4 = 0 then (kv_k x2 8 (kv_hl (kv_up h3 k1 6 ((h3 k1 6) + (h3 ((k0 + 3) + 7) x2.toNatClampNeg))) (fun h5 =>
    if (((h5 k1 4) >>> (x2 &&& 31)) &&& 1) = (1 : Int32) then (kv_k x2 8 (kv_hl (kv_up h5 (k1 + 2) x2.toNatClampNeg (h5 k1 5)) (fun h10 =>
      some (0, h10))))
    else (kv_k x2 8 (if (h5 k0 7) < (h5 ((k0 + 3) + 6) x2.toNatClampNeg) then (some (0, h5))
      else (kv_k x2 8 (kv_b (f_X8_throwDownTo k0 k1 ((h5 k0 7) - (h5 ((k0 + 3) + 6) x2.toNatClampNeg)) h5) (fun r7 h6 =>
        kv_b (f_X0_enter k1 x2 h6) (fun _ h8 =>
        kv_k x2 8 (kv_hl (kv_up h8 (k1 + 2) x2.toNatClampNeg (h8 k1 5)) (fun h9 =>
        some (0, h9))))))))))))
  else (f_X8_asking_L40 k0 k1 kv_fu x2 0 h3 (fun  h13 =>
    some (1, h13))))))))
set_option maxRecDepth 20000 in
theorem s_f_X8_asking_L40 (q0 : Nat) (hq0 : kv_Wo q0) (q1 : Nat) (hq1 : kv_Co q1) : ∀ (n : Nat) (v3 : Int32) (v4 : Int32) (h : kv_H) (C : kv_H → Option (Int32 × kv_H)), (∀  (h : kv_H), kv_S kv_i kK_X8_asking 77 [none, none, none, none, none] [] h (C h)) → kv_S kv_i kK_X8_asking 40 [some (.ref q0), some (.ref q1), none, some (.int v3), some (.int v4)] [] h (f_X8_asking_L40 q0 q1 n v3 v4 h C) := by
  intro n
  induction n with
  | zero => intros; exact kv_none
  | succ n ih =>
    intro v3 v4 h C hC
    unfold f_X8_asking_L40
    refine kr_iload4 d_X8_asking_40 ?_
    refine kr_const (v := 8) d_X8_asking_42 ?_
    refine kr_icmp_ge d_X8_asking_44 ?_ ?_
    · refine kr_kill0 ?_
      refine kr_kill1 ?_
      refine kr_kill3 ?_
      refine kr_kill4 ?_
      exact hC h
    · refine kr_iload3 d_X8_asking_47 ?_
      refine kr_if_lt d_X8_asking_48 ?_ ?_
      · refine kr_kill0 ?_
        refine kr_kill1 ?_
        refine kr_kill3 ?_
        refine kr_kill4 ?_
        exact hC h
      · refine kr_aload1 d_X8_asking_51 ?_
        refine kr_getR (q := (q1 + 2)) d_X8_asking_52 fl_X8_138 hq1.1 rfl ?_
        refine kr_iload3 d_X8_asking_55 ?_
        refine kr_aload1 d_X8_asking_56 ?_
        refine kr_getI d_X8_asking_57 fl_X8_125 hq1.1 rfl ?_
        refine kr_iastore d_X8_asking_60 hq1.2.2.1 ?_
        refine kr_hl (fun h11 => ?_)
        refine kr_aload0 d_X8_asking_61 ?_
        refine kr_getR (q := (q0 + 3)) d_X8_asking_62 fl_X8_12 hq0.1 rfl ?_
        refine kr_getR (q := ((q0 + 3) + 5)) d_X8_asking_65 fl_X8_80 hq0.2.2.2.1.1 rfl ?_
        refine kr_iload3 d_X8_asking_68 ?_
        refine kr_iaload d_X8_asking_69 hq0.2.2.2.1.2.2.2.2.2.1 ?_
        refine kr_vl (fun e12 => ?_)
        refine kr_istore3 d_X8_asking_70 (Nat.le_of_ble_eq_true rfl) kv_c1n ?_
        refine kr_iinc4 d_X8_asking_71 (Nat.le_of_ble_eq_true rfl) kv_c1i ?_
        refine kr_goto d_X8_asking_74 ?_
        exact ih e12 (v4 + 1) h11 C hC

set_option maxRecDepth 20000 in
theorem m_X8_asking (k0 : Nat) (hk0 : kv_Wo k0) (k1 : Nat) (hk1 : kv_Co k1) (x2 : Int32) (h : kv_H) : kv_M kv_i kK_X8_asking [.ref k0, .ref k1, .int x2] h (f_X8_asking k0 k1 x2 h) := by
  refine kv_met (ls := [some (.ref k0), some (.ref k1), some (.int x2), none, none]) (show plainName RX8 = true by decide +kernel) (fun _ => rfl) (fun _ => Nat.le_of_ble_eq_true rfl) ?_
  unfold f_X8_asking
  refine kr_aload1 d_X8_asking_0 ?_
  refine kr_dup d_X8_asking_1 rfl ?_
  refine kr_getI d_X8_asking_2 fl_X8_125 hk1.1 rfl ?_
  refine kr_const (v := 1) d_X8_asking_5 ?_
  refine kr_iadd d_X8_asking_6 ?_
  refine kr_putI d_X8_asking_7 fp_X8_125 hk1.1 rfl rfl rfl ?_
  refine kr_hl (fun h1 => ?_)
  refine kr_aload1 d_X8_asking_10 ?_
  refine kr_getR (q := (k1 + 3)) d_X8_asking_11 fl_X8_128 hk1.1 rfl ?_
  refine kr_iload2 d_X8_asking_14 ?_
  refine kr_dup2 d_X8_asking_15 rfl rfl ?_
  refine kr_iaload d_X8_asking_16 hk1.2.2.2 ?_
  refine kr_const (v := 1) d_X8_asking_17 ?_
  refine kr_iadd d_X8_asking_18 ?_
  refine kr_iastore d_X8_asking_19 hk1.2.2.2 ?_
  refine kr_hl (fun h2 => ?_)
  refine kr_aload0 d_X8_asking_20 ?_
  refine kr_getR (q := (k0 + 3)) d_X8_asking_21 fl_X8_12 hk0.1 rfl ?_
  refine kr_aload1 d_X8_asking_24 ?_
  refine kr_getI d_X8_asking_25 fl_X8_131 hk1.1 rfl ?_
  refine kr_iload2 d_X8_asking_28 ?_
  refine kr_iv_i (As := [.int (h2 k1 4), .int x2]) d_X8_asking_29 cl_X8_134 (m_X1_isRead (k0 + 3) hk0.2.2.2.1 (h2 k1 4) x2 h2) hk0.2.2.2.1.1 (Nat.le_of_ble_eq_true rfl) rfl (Nat.le_of_ble_eq_true rfl) (fun r4 h3 => ?_)
  refine kr_if_eq d_X8_asking_32 ?_ ?_
  · refine kr_aload1 d_X8_asking_79 ?_
    refine kr_dup d_X8_asking_80 rfl ?_
    refine kr_getI d_X8_asking_81 fl_X8_118 hk1.1 rfl ?_
    refine kr_aload0 d_X8_asking_84 ?_
    refine kr_getR (q := (k0 + 3)) d_X8_asking_85 fl_X8_12 hk0.1 rfl ?_
    refine kr_getR (q := ((k0 + 3) + 7)) d_X8_asking_88 fl_X8_104 hk0.2.2.2.1.1 rfl ?_
    refine kr_iload2 d_X8_asking_91 ?_
    refine kr_iaload d_X8_asking_92 hk0.2.2.2.1.2.2.2.2.2.2.2.1 ?_
    refine kr_iadd d_X8_asking_93 ?_
    refine kr_putI d_X8_asking_94 fp_X8_118 hk1.1 rfl rfl rfl ?_
    refine kr_hl (fun h5 => ?_)
    refine kr_aload1 d_X8_asking_97 ?_
    refine kr_getI d_X8_asking_98 fl_X8_131 hk1.1 rfl ?_
    refine kr_iload2 d_X8_asking_101 ?_
    refine kr_ishr d_X8_asking_102 ?_
    refine kr_const (v := 1) d_X8_asking_103 ?_
    refine kr_iand d_X8_asking_104 ?_
    refine kr_const (v := 1) d_X8_asking_105 ?_
    refine kr_icmp_ne d_X8_asking_106 ?_ ?_
    · refine kr_aload0 d_X8_asking_122 ?_
      refine kr_getR (q := (k0 + 3)) d_X8_asking_123 fl_X8_12 hk0.1 rfl ?_
      refine kr_getR (q := ((k0 + 3) + 6)) d_X8_asking_126 fl_X8_98 hk0.2.2.2.1.1 rfl ?_
      refine kr_iload2 d_X8_asking_129 ?_
      refine kr_iaload d_X8_asking_130 hk0.2.2.2.1.2.2.2.2.2.2.1 ?_
      refine kr_aload0 d_X8_asking_131 ?_
      refine kr_getI d_X8_asking_132 fl_X8_33 hk0.1 rfl ?_
      refine kr_icmp_gt d_X8_asking_135 ?_ ?_
      · refine kr_const (v := 0) d_X8_asking_173 ?_
        exact kr_ireturn d_X8_asking_174 rfl
      · refine kr_aload0 d_X8_asking_138 ?_
        refine kr_aload1 d_X8_asking_139 ?_
        refine kr_aload0 d_X8_asking_140 ?_
        refine kr_getI d_X8_asking_141 fl_X8_33 hk0.1 rfl ?_
        refine kr_aload0 d_X8_asking_144 ?_
        refine kr_getR (q := (k0 + 3)) d_X8_asking_145 fl_X8_12 hk0.1 rfl ?_
        refine kr_getR (q := ((k0 + 3) + 6)) d_X8_asking_148 fl_X8_98 hk0.2.2.2.1.1 rfl ?_
        refine kr_iload2 d_X8_asking_151 ?_
        refine kr_iaload d_X8_asking_152 hk0.2.2.2.1.2.2.2.2.2.2.1 ?_
        refine kr_isub d_X8_asking_153 ?_
        refine kr_iv_i (As := [.ref k1, .int ((h5 k0 7) - (h5 ((k0 + 3) + 6) x2.toNatClampNeg))]) d_X8_asking_154 cl_X8_141 (m_X8_throwDownTo k0 hk0 k1 hk1 ((h5 k0 7) - (h5 ((k0 + 3) + 6) x2.toNatClampNeg)) h5) hk0.1 (Nat.le_of_ble_eq_true rfl) rfl (Nat.le_of_ble_eq_true rfl) (fun r7 h6 => ?_)
        refine kr_pop d_X8_asking_157 rfl ?_
        refine kr_aload1 d_X8_asking_158 ?_
        refine kr_iload2 d_X8_asking_159 ?_
        refine kr_iv_u (As := [.int x2]) d_X8_asking_160 cl_X8_144 (m_X0_enter k1 hk1 x2 h6) hk1.1 (Nat.le_of_ble_eq_true rfl) rfl (Nat.le_of_ble_eq_true rfl) (fun h8 => ?_)
        refine kr_aload1 d_X8_asking_163 ?_
        refine kr_getR (q := (k1 + 2)) d_X8_asking_164 fl_X8_138 hk1.1 rfl ?_
        refine kr_iload2 d_X8_asking_167 ?_
        refine kr_aload1 d_X8_asking_168 ?_
        refine kr_getI d_X8_asking_169 fl_X8_125 hk1.1 rfl ?_
        refine kr_iastore d_X8_asking_172 hk1.2.2.1 ?_
        refine kr_hl (fun h9 => ?_)
        refine kr_const (v := 0) d_X8_asking_173 ?_
        exact kr_ireturn d_X8_asking_174 rfl
    · refine kr_aload1 d_X8_asking_109 ?_
      refine kr_getR (q := (k1 + 2)) d_X8_asking_110 fl_X8_138 hk1.1 rfl ?_
      refine kr_iload2 d_X8_asking_113 ?_
      refine kr_aload1 d_X8_asking_114 ?_
      refine kr_getI d_X8_asking_115 fl_X8_125 hk1.1 rfl ?_
      refine kr_iastore d_X8_asking_118 hk1.2.2.1 ?_
      refine kr_hl (fun h10 => ?_)
      refine kr_goto d_X8_asking_119 ?_
      refine kr_const (v := 0) d_X8_asking_173 ?_
      exact kr_ireturn d_X8_asking_174 rfl
  · refine kr_iload2 d_X8_asking_35 ?_
    refine kr_istore3 d_X8_asking_36 (Nat.le_of_ble_eq_true rfl) kv_c1i ?_
    refine kr_const (v := 0) d_X8_asking_37 ?_
    refine kr_istore4 d_X8_asking_38 (Nat.le_of_ble_eq_true rfl) kv_c1i ?_
    refine kr_kill2 ?_
    refine s_f_X8_asking_L40 k0 hk0 k1 hk1 kv_fu x2 0 h3 _ (fun  h13 => ?_)
    refine kr_const (v := 1) d_X8_asking_77 ?_
    exact kr_ireturn d_X8_asking_78 rfl

/-! X8_makeAskings -/
def f_X8_makeAskings_L9 (q0 : Nat) (q1 : Nat) (q2 nq2 : Nat) (c3 : Int32) (c4 : Int32) : Nat → Int32 → kv_H → (kv_H → Option (Int32 × kv_H)) → Option (Int32 × kv_H)
  | 0, _, _, _ => none
  | n + 1, v5, h, C => if c3 ≤ v5 then (C h)
    else (if (nI nq2) ≤ v5 then (C h)
      else (kv_k v5 nq2 (kv_b (f_X8_asking q0 q1 (h q2 v5.toNatClampNeg) h) (fun r3 h2 =>
        f_X8_makeAskings_L9 q0 q1 q2 nq2 c3 c4 n (v5 + 1) h2 C))))
def f_X8_makeAskings (k0 : Nat) (k1 : Nat) (k2 nk2 : Nat) (x3 : Int32) (h : kv_H) : Option (Int32 × kv_H) :=
  kv_vl (h k1 6) (fun e1 =>
  f_X8_makeAskings_L9 k0 k1 k2 nk2 x3 e1 kv_fu 0 h (fun  h4 =>
  some (((h4 k1 6) - e1), h4)))
set_option maxRecDepth 20000 in
theorem s_f_X8_makeAskings_L9 (q0 : Nat) (hq0 : kv_Wo q0) (q1 : Nat) (hq1 : kv_Co q1) (q2 nq2 : Nat) (hq2 : kv_Ar q2 nq2) (c3 : Int32) (c4 : Int32) : ∀ (n : Nat) (v5 : Int32) (h : kv_H) (C : kv_H → Option (Int32 × kv_H)), (∀  (h : kv_H), kv_S kv_i kK_X8_makeAskings 38 [none, some (.ref q1), none, none, some (.int c4), none] [] h (C h)) → kv_S kv_i kK_X8_makeAskings 9 [some (.ref q0), some (.ref q1), some (.ref q2), some (.int c3), some (.int c4), some (.int v5)] [] h (f_X8_makeAskings_L9 q0 q1 q2 nq2 c3 c4 n v5 h C) := by
  intro n
  induction n with
  | zero => intros; exact kv_none
  | succ n ih =>
    intro v5 h C hC
    unfold f_X8_makeAskings_L9
    refine kr_iload5 d_X8_makeAskings_9 ?_
    refine kr_iload3 d_X8_makeAskings_11 ?_
    refine kr_icmp_ge d_X8_makeAskings_12 ?_ ?_
    · refine kr_kill0 ?_
      refine kr_kill2 ?_
      refine kr_kill3 ?_
      refine kr_kill5 ?_
      exact hC h
    · refine kr_iload5 d_X8_makeAskings_15 ?_
      refine kr_aload2 d_X8_makeAskings_17 ?_
      refine kr_alen d_X8_makeAskings_18 hq2 ?_
      refine kr_icmp_ge d_X8_makeAskings_19 ?_ ?_
      · refine kr_kill0 ?_
        refine kr_kill2 ?_
        refine kr_kill3 ?_
        refine kr_kill5 ?_
        exact hC h
      · refine kr_aload0 d_X8_makeAskings_22 ?_
        refine kr_aload1 d_X8_makeAskings_23 ?_
        refine kr_aload2 d_X8_makeAskings_24 ?_
        refine kr_iload5 d_X8_makeAskings_25 ?_
        refine kr_iaload d_X8_makeAskings_27 hq2 ?_
        refine kr_iv_i (As := [.ref q1, .int (h q2 v5.toNatClampNeg)]) d_X8_makeAskings_28 cl_X8_121 (m_X8_asking q0 hq0 q1 hq1 (h q2 v5.toNatClampNeg) h) hq0.1 (Nat.le_of_ble_eq_true rfl) rfl (Nat.le_of_ble_eq_true rfl) (fun r3 h2 => ?_)
        refine kr_pop d_X8_makeAskings_31 rfl ?_
        refine kr_iinc5 d_X8_makeAskings_32 (Nat.le_of_ble_eq_true rfl) kv_c1i ?_
        refine kr_goto d_X8_makeAskings_35 ?_
        exact ih (v5 + 1) h2 C hC

set_option maxRecDepth 20000 in
theorem m_X8_makeAskings (k0 : Nat) (hk0 : kv_Wo k0) (k1 : Nat) (hk1 : kv_Co k1) (k2 nk2 : Nat) (hk2 : kv_Ar k2 nk2) (x3 : Int32) (h : kv_H) : kv_M kv_i kK_X8_makeAskings [.ref k0, .ref k1, .ref k2, .int x3] h (f_X8_makeAskings k0 k1 k2 nk2 x3 h) := by
  refine kv_met (ls := [some (.ref k0), some (.ref k1), some (.ref k2), some (.int x3), none, none]) (show plainName RX8 = true by decide +kernel) (fun _ => rfl) (fun _ => Nat.le_of_ble_eq_true rfl) ?_
  unfold f_X8_makeAskings
  refine kr_aload1 d_X8_makeAskings_0 ?_
  refine kr_getI d_X8_makeAskings_1 fl_X8_118 hk1.1 rfl ?_
  refine kr_vl (fun e1 => ?_)
  refine kr_istore4 d_X8_makeAskings_4 (Nat.le_of_ble_eq_true rfl) kv_c1i ?_
  refine kr_const (v := 0) d_X8_makeAskings_6 ?_
  refine kr_istore5 d_X8_makeAskings_7 (Nat.le_of_ble_eq_true rfl) kv_c1i ?_
  refine s_f_X8_makeAskings_L9 k0 hk0 k1 hk1 k2 nk2 hk2 x3 e1 kv_fu 0 h _ (fun  h4 => ?_)
  refine kr_aload1 d_X8_makeAskings_38 ?_
  refine kr_getI d_X8_makeAskings_39 fl_X8_118 hk1.1 rfl ?_
  refine kr_iload4 d_X8_makeAskings_42 ?_
  refine kr_isub d_X8_makeAskings_44 ?_
  exact kr_ireturn d_X8_makeAskings_45 rfl

/-! X9_isKind -/
def f_X9_isKind (x1 : Int32) (h : kv_H) : Option (Int32 × kv_H) :=
  if x1 < 0 then (some (0, h))
  else (if (5 : Int32) < x1 then (some (0, h))
    else (some (1, h)))
set_option maxRecDepth 20000 in
theorem m_X9_isKind (x1 : Int32) (h : kv_H) : kv_M kv_i kK_X9_isKind [.int x1] h (f_X9_isKind x1 h) := by
  refine kv_met (ls := [some (.int x1)]) (show plainName RX9 = true by decide +kernel) (fun _ => rfl) (fun _ => Nat.le_of_ble_eq_true rfl) ?_
  unfold f_X9_isKind
  refine kr_iload0 d_X9_isKind_0 ?_
  refine kr_if_lt d_X9_isKind_1 ?_ ?_
  · refine kr_const (v := 0) d_X9_isKind_13 ?_
    exact kr_zreturnK (by decide) d_X9_isKind_14 rfl
  · refine kr_iload0 d_X9_isKind_4 ?_
    refine kr_const (v := 5) d_X9_isKind_5 ?_
    refine kr_icmp_gt d_X9_isKind_6 ?_ ?_
    · refine kr_const (v := 0) d_X9_isKind_13 ?_
      exact kr_zreturnK (by decide) d_X9_isKind_14 rfl
    · refine kr_const (v := 1) d_X9_isKind_9 ?_
      refine kr_goto d_X9_isKind_10 ?_
      exact kr_zreturnK (by decide) d_X9_isKind_14 rfl

/-! X9_isSize -/
def f_X9_isSize (x1 : Int32) (h : kv_H) : Option (Int32 × kv_H) :=
  if x1 < (1 : Int32) then (some (0, h))
  else (if (9 : Int32) < x1 then (some (0, h))
    else (some (1, h)))
set_option maxRecDepth 20000 in
theorem m_X9_isSize (x1 : Int32) (h : kv_H) : kv_M kv_i kK_X9_isSize [.int x1] h (f_X9_isSize x1 h) := by
  refine kv_met (ls := [some (.int x1)]) (show plainName RX9 = true by decide +kernel) (fun _ => rfl) (fun _ => Nat.le_of_ble_eq_true rfl) ?_
  unfold f_X9_isSize
  refine kr_iload0 d_X9_isSize_0 ?_
  refine kr_const (v := 1) d_X9_isSize_1 ?_
  refine kr_icmp_lt d_X9_isSize_2 ?_ ?_
  · refine kr_const (v := 0) d_X9_isSize_15 ?_
    exact kr_zreturnK (by decide) d_X9_isSize_16 rfl
  · refine kr_iload0 d_X9_isSize_5 ?_
    refine kr_const (v := 9) d_X9_isSize_6 ?_
    refine kr_icmp_gt d_X9_isSize_8 ?_ ?_
    · refine kr_const (v := 0) d_X9_isSize_15 ?_
      exact kr_zreturnK (by decide) d_X9_isSize_16 rfl
    · refine kr_const (v := 1) d_X9_isSize_11 ?_
      refine kr_goto d_X9_isSize_12 ?_
      exact kr_zreturnK (by decide) d_X9_isSize_16 rfl

/-! X9_isLoss -/
def f_X9_isLoss (x1 : Int32) (h : kv_H) : Option (Int32 × kv_H) :=
  if x1 < 0 then (some (0, h))
  else (if (99 : Int32) < x1 then (some (0, h))
    else (some (1, h)))
set_option maxRecDepth 20000 in
theorem m_X9_isLoss (x1 : Int32) (h : kv_H) : kv_M kv_i kK_X9_isLoss [.int x1] h (f_X9_isLoss x1 h) := by
  refine kv_met (ls := [some (.int x1)]) (show plainName RX9 = true by decide +kernel) (fun _ => rfl) (fun _ => Nat.le_of_ble_eq_true rfl) ?_
  unfold f_X9_isLoss
  refine kr_iload0 d_X9_isLoss_0 ?_
  refine kr_if_lt d_X9_isLoss_1 ?_ ?_
  · refine kr_const (v := 0) d_X9_isLoss_14 ?_
    exact kr_zreturnK (by decide) d_X9_isLoss_15 rfl
  · refine kr_iload0 d_X9_isLoss_4 ?_
    refine kr_const (v := 99) d_X9_isLoss_5 ?_
    refine kr_icmp_gt d_X9_isLoss_7 ?_ ?_
    · refine kr_const (v := 0) d_X9_isLoss_14 ?_
      exact kr_zreturnK (by decide) d_X9_isLoss_15 rfl
    · refine kr_const (v := 1) d_X9_isLoss_10 ?_
      refine kr_goto d_X9_isLoss_11 ?_
      exact kr_zreturnK (by decide) d_X9_isLoss_15 rfl

/-! X9_mayLean -/
def f_X9_mayLean (x1 : Int32) (x2 : Int32) (h : kv_H) : Option (Int32 × kv_H) :=
  if x2 = (-1000000005 : Int32) then (some (1, h))
  else (if x2 < 0 then (some (0, h))
    else (if x1 ≤ x2 then (some (0, h))
      else (some (1, h))))
set_option maxRecDepth 20000 in
theorem m_X9_mayLean (x1 : Int32) (x2 : Int32) (h : kv_H) : kv_M kv_i kK_X9_mayLean [.int x1, .int x2] h (f_X9_mayLean x1 x2 h) := by
  refine kv_met (ls := [some (.int x1), some (.int x2)]) (show plainName RX9 = true by decide +kernel) (fun _ => rfl) (fun _ => Nat.le_of_ble_eq_true rfl) ?_
  unfold f_X9_mayLean
  refine kr_iload1 d_X9_mayLean_0 ?_
  refine kr_const (v := (-1000000005)) d_X9_mayLean_1 ?_
  refine kr_icmp_eq d_X9_mayLean_3 ?_ ?_
  · refine kr_const (v := 1) d_X9_mayLean_15 ?_
    refine kr_goto d_X9_mayLean_16 ?_
    exact kr_zreturnK (by decide) d_X9_mayLean_20 rfl
  · refine kr_iload1 d_X9_mayLean_6 ?_
    refine kr_if_lt d_X9_mayLean_7 ?_ ?_
    · refine kr_const (v := 0) d_X9_mayLean_19 ?_
      exact kr_zreturnK (by decide) d_X9_mayLean_20 rfl
    · refine kr_iload1 d_X9_mayLean_10 ?_
      refine kr_iload0 d_X9_mayLean_11 ?_
      refine kr_icmp_ge d_X9_mayLean_12 ?_ ?_
      · refine kr_const (v := 0) d_X9_mayLean_19 ?_
        exact kr_zreturnK (by decide) d_X9_mayLean_20 rfl
      · refine kr_const (v := 1) d_X9_mayLean_15 ?_
        refine kr_goto d_X9_mayLean_16 ?_
        exact kr_zreturnK (by decide) d_X9_mayLean_20 rfl

/-! X9_leanInside -/
def f_X9_leanInside (x1 : Int32) (h : kv_H) : Option (Int32 × kv_H) :=
  if x1 = (-1000000005 : Int32) then (some ((-1), h))
  else (some (x1, h))
set_option maxRecDepth 20000 in
theorem m_X9_leanInside (x1 : Int32) (h : kv_H) : kv_M kv_i kK_X9_leanInside [.int x1] h (f_X9_leanInside x1 h) := by
  refine kv_met (ls := [some (.int x1)]) (show plainName RX9 = true by decide +kernel) (fun _ => rfl) (fun _ => Nat.le_of_ble_eq_true rfl) ?_
  unfold f_X9_leanInside
  refine kr_iload0 d_X9_leanInside_0 ?_
  refine kr_const (v := (-1000000005)) d_X9_leanInside_1 ?_
  refine kr_icmp_ne d_X9_leanInside_3 ?_ ?_
  · refine kr_iload0 d_X9_leanInside_10 ?_
    exact kr_ireturn d_X9_leanInside_11 rfl
  · refine kr_const (v := (-1)) d_X9_leanInside_6 ?_
    refine kr_goto d_X9_leanInside_7 ?_
    exact kr_ireturn d_X9_leanInside_11 rfl

/-! X9_leaf -/
def f_X9_leaf (x1 : Int32) (x2 : Int32) (x3 : Int32) (x4 : Int32) (h : kv_H) : Option (Int32 × kv_H) :=
  kv_b (f_X9_isKind x1 h) (fun r2 h1 =>
  if r2 = 0 then (some ((-1000000001), h1))
  else (kv_b (f_X9_isSize x2 h1) (fun r4 h3 =>
    if r4 = 0 then (some ((-1000000001), h3))
    else (kv_b (f_X9_isLoss x3 h3) (fun r6 h5 =>
      if r6 = 0 then (some ((-1000000001), h5))
      else (kv_b (f_X9_mayLean (h5 82 8) x4 h5) (fun r8 h7 =>
        if r8 = 0 then (some ((-1000000001), h7))
        else (kv_b (f_X9_leanInside x4 h7) (fun r10 h9 =>
          kv_b (f_X8_addLeaf 79 x1 x2 x3 r10 h9) (fun r12 h11 =>
          kv_b (f_X8_weighAll 79 h11) (fun _ h13 =>
          some (r12, h13))))))))))))
set_option maxRecDepth 20000 in
theorem m_X9_leaf (x1 : Int32) (x2 : Int32) (x3 : Int32) (x4 : Int32) (h : kv_H) : kv_M kv_i kK_X9_leaf [.ref 0, .int x1, .int x2, .int x3, .int x4] h (f_X9_leaf x1 x2 x3 x4 h) := by
  refine kv_met (ls := [some (.ref 0), some (.int x1), some (.int x2), some (.int x3), some (.int x4), none]) (show plainName RX9 = true by decide +kernel) (fun _ => rfl) (fun _ => Nat.le_of_ble_eq_true rfl) ?_
  unfold f_X9_leaf
  refine kr_iload1 d_X9_leaf_0 ?_
  refine kr_is_i (As := [.int x1]) d_X9_leaf_1 cl_X9_70 (m_X9_isKind x1 h) (Nat.le_of_ble_eq_true rfl) rfl (Nat.le_of_ble_eq_true rfl) (fun r2 h1 => ?_)
  refine kr_if_eq d_X9_leaf_4 ?_ ?_
  · refine kr_const (v := (-1000000001)) d_X9_leaf_39 ?_
    exact kr_ireturn d_X9_leaf_41 rfl
  · refine kr_iload2 d_X9_leaf_7 ?_
    refine kr_is_i (As := [.int x2]) d_X9_leaf_8 cl_X9_74 (m_X9_isSize x2 h1) (Nat.le_of_ble_eq_true rfl) rfl (Nat.le_of_ble_eq_true rfl) (fun r4 h3 => ?_)
    refine kr_if_eq d_X9_leaf_11 ?_ ?_
    · refine kr_const (v := (-1000000001)) d_X9_leaf_39 ?_
      exact kr_ireturn d_X9_leaf_41 rfl
    · refine kr_iload3 d_X9_leaf_14 ?_
      refine kr_is_i (As := [.int x3]) d_X9_leaf_15 cl_X9_77 (m_X9_isLoss x3 h3) (Nat.le_of_ble_eq_true rfl) rfl (Nat.le_of_ble_eq_true rfl) (fun r6 h5 => ?_)
      refine kr_if_eq d_X9_leaf_18 ?_ ?_
      · refine kr_const (v := (-1000000001)) d_X9_leaf_39 ?_
        exact kr_ireturn d_X9_leaf_41 rfl
      · refine kr_aload0 d_X9_leaf_21 ?_
        refine kr_getR (q := 79) d_X9_leaf_22 fl_X9_21 sh_0 rfl ?_
        refine kr_getR (q := 82) d_X9_leaf_25 fl_X9_80 sh_79 rfl ?_
        refine kr_getI d_X9_leaf_28 fl_X9_84 sh_82 rfl ?_
        refine kr_iload4 d_X9_leaf_31 ?_
        refine kr_is_i (As := [.int (h5 82 8), .int x4]) d_X9_leaf_33 cl_X9_90 (m_X9_mayLean (h5 82 8) x4 h5) (Nat.le_of_ble_eq_true rfl) rfl (Nat.le_of_ble_eq_true rfl) (fun r8 h7 => ?_)
        refine kr_if_ne d_X9_leaf_36 ?_ ?_
        · refine kr_aload0 d_X9_leaf_42 ?_
          refine kr_getR (q := 79) d_X9_leaf_43 fl_X9_21 sh_0 rfl ?_
          refine kr_iload1 d_X9_leaf_46 ?_
          refine kr_iload2 d_X9_leaf_47 ?_
          refine kr_iload3 d_X9_leaf_48 ?_
          refine kr_iload4 d_X9_leaf_49 ?_
          refine kr_is_i (As := [.int x4]) d_X9_leaf_51 cl_X9_95 (m_X9_leanInside x4 h7) (Nat.le_of_ble_eq_true rfl) rfl (Nat.le_of_ble_eq_true rfl) (fun r10 h9 => ?_)
          refine kr_iv_i (As := [.int x1, .int x2, .int x3, .int r10]) d_X9_leaf_54 cl_X9_99 (m_X8_addLeaf 79 wo_79 x1 x2 x3 r10 h9) sh_79 (Nat.le_of_ble_eq_true rfl) rfl (Nat.le_of_ble_eq_true rfl) (fun r12 h11 => ?_)
          refine kr_istore5 d_X9_leaf_57 (Nat.le_of_ble_eq_true rfl) kv_c1i ?_
          refine kr_aload0 d_X9_leaf_59 ?_
          refine kr_getR (q := 79) d_X9_leaf_60 fl_X9_21 sh_0 rfl ?_
          refine kr_iv_u (As := []) d_X9_leaf_63 cl_X9_103 (m_X8_weighAll 79 wo_79 h11) sh_79 (Nat.le_of_ble_eq_true rfl) rfl (Nat.le_of_ble_eq_true rfl) (fun h13 => ?_)
          refine kr_iload5 d_X9_leaf_66 ?_
          exact kr_ireturn d_X9_leaf_68 rfl
        · refine kr_const (v := (-1000000001)) d_X9_leaf_39 ?_
          exact kr_ireturn d_X9_leaf_41 rfl

/-! X9_isLeaf -/
def f_X9_isLeaf (x1 : Int32) (h : kv_H) : Option (Int32 × kv_H) :=
  if x1 < 0 then (some (0, h))
  else (if (h 82 8) ≤ x1 then (some (0, h))
    else (some (1, h)))
set_option maxRecDepth 20000 in
theorem m_X9_isLeaf (x1 : Int32) (h : kv_H) : kv_M kv_i kK_X9_isLeaf [.ref 0, .int x1] h (f_X9_isLeaf x1 h) := by
  refine kv_met (ls := [some (.ref 0), some (.int x1)]) (show plainName RX9 = true by decide +kernel) (fun _ => rfl) (fun _ => Nat.le_of_ble_eq_true rfl) ?_
  unfold f_X9_isLeaf
  refine kr_iload1 d_X9_isLeaf_0 ?_
  refine kr_if_lt d_X9_isLeaf_1 ?_ ?_
  · refine kr_const (v := 0) d_X9_isLeaf_22 ?_
    exact kr_zreturnK (by decide) d_X9_isLeaf_23 rfl
  · refine kr_iload1 d_X9_isLeaf_4 ?_
    refine kr_aload0 d_X9_isLeaf_5 ?_
    refine kr_getR (q := 79) d_X9_isLeaf_6 fl_X9_21 sh_0 rfl ?_
    refine kr_getR (q := 82) d_X9_isLeaf_9 fl_X9_80 sh_79 rfl ?_
    refine kr_getI d_X9_isLeaf_12 fl_X9_84 sh_82 rfl ?_
    refine kr_icmp_ge d_X9_isLeaf_15 ?_ ?_
    · refine kr_const (v := 0) d_X9_isLeaf_22 ?_
      exact kr_zreturnK (by decide) d_X9_isLeaf_23 rfl
    · refine kr_const (v := 1) d_X9_isLeaf_18 ?_
      refine kr_goto d_X9_isLeaf_19 ?_
      exact kr_zreturnK (by decide) d_X9_isLeaf_23 rfl


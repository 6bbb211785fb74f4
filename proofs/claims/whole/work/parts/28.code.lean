/-! X10_means -/
def f_X10_means_L48 (c1 : Int32) (c2 : Int64) (c4 : Int32) : Nat → Int64 → Int32 → kv_H → (Int64 → kv_H → Option (Int64 × kv_H)) → Option (Int64 × kv_H)
  | 0, _, _, _, _ => none
  | n + 1, v5, v7, h, C => if c1 ≤ v7 then (C v5 h)
    else (kv_k v7 24 (kv_b (f_X10_leafAt (h 127 v7.toNatClampNeg) h) (fun r8 h7 =>
      kv_k (r8 + 3) 3098 (kv_vL (v5 * ((h7 112 (r8 + 3).toNatClampNeg).toInt64)) (fun e9 =>
      f_X10_means_L48 c1 c2 c4 n e9 (v7 + 1) h7 C)))))
def f_X10_means_L25 (c1 : Int32) : Nat → Int64 → Int32 → kv_H → (Int64 → kv_H → Option (Int64 × kv_H)) → Option (Int64 × kv_H)
  | 0, _, _, _, _ => none
  | n + 1, v2, v4, h, C => kv_b (f_X10_rowsOf c1 h) (fun r5 h4 =>
    if r5 ≤ v4 then (C v2 h4)
    else (kv_b (f_X10_laysRow v4 c1 h4) (fun _ h6 =>
      f_X10_means_L48 c1 v2 v4 kv_fu 1 0 h6 (fun z10 h11 =>
      if (lg_cmp z10 0) = 0 then (kv_vL (v2 + 0) (fun e15 =>
          f_X10_means_L25 c1 n e15 (v4 + 1) h11 C))
        else (kv_b (f_X10_wouldCost c1 h11) (fun r13 h12 =>
          kv_vL (v2 + (z10 * (r13.toInt64))) (fun e14 =>
          f_X10_means_L25 c1 n e14 (v4 + 1) h12 C)))))))
def f_X10_means (x1 : Int32) (h : kv_H) : Option (Int64 × kv_H) :=
  kv_b (f_X10_isIn (x1.toInt64) 1 3 h) (fun r2 h1 =>
  if r2 = 0 then (some ((-1000000001), h1))
  else (kv_b (f_X10_knows h1) (fun _ h3 =>
    f_X10_means_L25 x1 kv_fu 0 0 h3 (fun z16 h17 =>
    some (z16, h17)))))
set_option maxRecDepth 20000 in
theorem s_f_X10_means_L48 (c1 : Int32) (c2 : Int64) (c4 : Int32) : ∀ (n : Nat) (v5 : Int64) (v7 : Int32) (h : kv_H) (C : Int64 → kv_H → Option (Int64 × kv_H)), (∀ (w5 : Int64) (h : kv_H), kv_S kv_l kK_X10_means 84 [some (.ref 111), some (.int c1), some (.long c2), none, some (.int c4), some (.long w5), none, none] [] h (C w5 h)) → kv_S kv_l kK_X10_means 48 [some (.ref 111), some (.int c1), some (.long c2), none, some (.int c4), some (.long v5), none, some (.int v7)] [] h (f_X10_means_L48 c1 c2 c4 n v5 v7 h C) := by
  intro n
  induction n with
  | zero => intros; exact kv_none
  | succ n ih =>
    intro v5 v7 h C hC
    unfold f_X10_means_L48
    refine kr_iload7 d_X10_means_48 ?_
    refine kr_iload1 d_X10_means_50 ?_
    refine kr_icmp_ge d_X10_means_51 ?_ ?_
    · refine kr_kill7 ?_
      exact hC v5 h
    · refine kr_lload5 d_X10_means_54 ?_
      refine kr_aload0 d_X10_means_56 ?_
      refine kr_getR (q := 112) d_X10_means_57 fl_X10_7 sh_111 rfl ?_
      refine kr_aload0 d_X10_means_60 ?_
      refine kr_aload0 d_X10_means_61 ?_
      refine kr_getR (q := 127) d_X10_means_62 fl_X10_55 sh_111 rfl ?_
      refine kr_iload7 d_X10_means_65 ?_
      refine kr_iaload d_X10_means_67 sh_127 ?_
      refine kr_iv_i (As := [.int (h 127 v7.toNatClampNeg)]) d_X10_means_68 cl_X10_92 (m_X10_leafAt (h 127 v7.toNatClampNeg) h) sh_111 (Nat.le_of_ble_eq_true rfl) rfl (Nat.le_of_ble_eq_true rfl) (fun r8 h7 => ?_)
      refine kr_const (v := 3) d_X10_means_71 ?_
      refine kr_iadd d_X10_means_72 ?_
      refine kr_iaload d_X10_means_73 sh_112 ?_
      refine kr_i2l d_X10_means_74 ?_
      refine kr_lmul d_X10_means_75 ?_
      refine kr_vL (fun e9 => ?_)
      refine kr_lstore5 d_X10_means_76 (Nat.le_of_ble_eq_true rfl) kv_c1i ?_
      refine kr_iinc7 d_X10_means_78 (Nat.le_of_ble_eq_true rfl) kv_c1n ?_
      refine kr_goto d_X10_means_81 ?_
      exact ih e9 (v7 + 1) h7 C hC

set_option maxRecDepth 20000 in
theorem s_f_X10_means_L25 (c1 : Int32) : ∀ (n : Nat) (v2 : Int64) (v4 : Int32) (h : kv_H) (C : Int64 → kv_H → Option (Int64 × kv_H)), (∀ (w2 : Int64) (h : kv_H), kv_S kv_l kK_X10_means 113 [none, none, some (.long w2), none, none, none, none, none] [] h (C w2 h)) → kv_S kv_l kK_X10_means 25 [some (.ref 111), some (.int c1), some (.long v2), none, some (.int v4), none, none, none] [] h (f_X10_means_L25 c1 n v2 v4 h C) := by
  intro n
  induction n with
  | zero => intros; exact kv_none
  | succ n ih =>
    intro v2 v4 h C hC
    unfold f_X10_means_L25
    refine kr_iload4 d_X10_means_25 ?_
    refine kr_aload0 d_X10_means_27 ?_
    refine kr_iload1 d_X10_means_28 ?_
    refine kr_iv_i (As := [.int c1]) d_X10_means_29 cl_X10_228 (m_X10_rowsOf c1 h) sh_111 (Nat.le_of_ble_eq_true rfl) rfl (Nat.le_of_ble_eq_true rfl) (fun r5 h4 => ?_)
    refine kr_icmp_ge d_X10_means_32 ?_ ?_
    · refine kr_kill0 ?_
      refine kr_kill1 ?_
      refine kr_kill4 ?_
      exact hC v2 h4
    · refine kr_aload0 d_X10_means_35 ?_
      refine kr_iload4 d_X10_means_36 ?_
      refine kr_iload1 d_X10_means_38 ?_
      refine kr_iv_u (As := [.int v4, .int c1]) d_X10_means_39 cl_X10_231 (m_X10_laysRow v4 c1 h4) sh_111 (Nat.le_of_ble_eq_true rfl) rfl (Nat.le_of_ble_eq_true rfl) (fun h6 => ?_)
      refine kr_constL (v := 1) d_X10_means_42 ?_
      refine kr_lstore5 d_X10_means_43 (Nat.le_of_ble_eq_true rfl) kv_c1i ?_
      refine kr_const (v := 0) d_X10_means_45 ?_
      refine kr_istore7 d_X10_means_46 (Nat.le_of_ble_eq_true rfl) kv_c1n ?_
      refine s_f_X10_means_L48 c1 v2 v4 kv_fu 1 0 h6 _ (fun z10 h11 => ?_)
      refine kr_lload2 d_X10_means_84 ?_
      refine kr_lload5 d_X10_means_85 ?_
      refine kr_constL (v := 0) d_X10_means_87 ?_
      refine kr_lcmp d_X10_means_88 ?_
      refine kr_if_ne d_X10_means_89 ?_ ?_
      · refine kr_lload5 d_X10_means_96 ?_
        refine kr_aload0 d_X10_means_98 ?_
        refine kr_iload1 d_X10_means_99 ?_
        refine kr_iv_i (As := [.int c1]) d_X10_means_100 cl_X10_198 (m_X10_wouldCost c1 h11) sh_111 (Nat.le_of_ble_eq_true rfl) rfl (Nat.le_of_ble_eq_true rfl) (fun r13 h12 => ?_)
        refine kr_i2l d_X10_means_103 ?_
        refine kr_lmul d_X10_means_104 ?_
        refine kr_ladd d_X10_means_105 ?_
        refine kr_vL (fun e14 => ?_)
        refine kr_lstore2 d_X10_means_106 (Nat.le_of_ble_eq_true rfl) kv_c1i ?_
        refine kr_iinc4 d_X10_means_107 (Nat.le_of_ble_eq_true rfl) kv_c1n ?_
        refine kr_goto d_X10_means_110 ?_
        refine kr_kill5 ?_
        exact ih e14 (v4 + 1) h12 C hC
      · refine kr_constL (v := 0) d_X10_means_92 ?_
        refine kr_goto d_X10_means_93 ?_
        refine kr_ladd d_X10_means_105 ?_
        refine kr_vL (fun e15 => ?_)
        refine kr_lstore2 d_X10_means_106 (Nat.le_of_ble_eq_true rfl) kv_c1i ?_
        refine kr_iinc4 d_X10_means_107 (Nat.le_of_ble_eq_true rfl) kv_c1n ?_
        refine kr_goto d_X10_means_110 ?_
        refine kr_kill5 ?_
        exact ih e15 (v4 + 1) h11 C hC

set_option maxRecDepth 20000 in
theorem m_X10_means (x1 : Int32) (h : kv_H) : kv_M kv_l kK_X10_means [.ref 111, .int x1] h (f_X10_means x1 h) := by
  refine kv_met (ls := [some (.ref 111), some (.int x1), none, none, none, none, none, none]) (show plainName RX10 = true by decide +kernel) (fun _ => rfl) (fun _ => Nat.le_of_ble_eq_true rfl) ?_
  unfold f_X10_means
  refine kr_iload1 d_X10_means_0 ?_
  refine kr_i2l d_X10_means_1 ?_
  refine kr_constL (v := 1) d_X10_means_2 ?_
  refine kr_constL (v := 3) d_X10_means_3 ?_
  refine kr_is_i (As := [.long (x1.toInt64), .long 1, .long 3]) d_X10_means_6 cl_X10_83 (m_X10_isIn (x1.toInt64) 1 3 h) (Nat.le_of_ble_eq_true rfl) rfl (Nat.le_of_ble_eq_true rfl) (fun r2 h1 => ?_)
  refine kr_if_ne d_X10_means_9 ?_ ?_
  · refine kr_aload0 d_X10_means_16 ?_
    refine kr_iv_u (As := []) d_X10_means_17 cl_X10_182 (m_X10_knows h1) sh_111 (Nat.le_of_ble_eq_true rfl) rfl (Nat.le_of_ble_eq_true rfl) (fun h3 => ?_)
    refine kr_constL (v := 0) d_X10_means_20 ?_
    refine kr_lstore2 d_X10_means_21 (Nat.le_of_ble_eq_true rfl) kv_c1i ?_
    refine kr_const (v := 0) d_X10_means_22 ?_
    refine kr_istore4 d_X10_means_23 (Nat.le_of_ble_eq_true rfl) kv_c1n ?_
    refine s_f_X10_means_L25 x1 kv_fu 0 0 h3 _ (fun z16 h17 => ?_)
    refine kr_lload2 d_X10_means_113 ?_
    exact kr_lreturn d_X10_means_114 rfl
  · refine kr_constL (v := (-1000000001)) d_X10_means_12 ?_
    exact kr_lreturn d_X10_means_15 rfl

/-! X10_gap -/
def f_X10_gap_L49 (c1 : Int32) (c2 : Int32) : Nat → Int32 → Int32 → Int32 → kv_H → (Int32 → Int32 → kv_H → Option (Int32 × kv_H)) → Option (Int32 × kv_H)
  | 0, _, _, _, _, _ => none
  | n + 1, v3, v4, v5, h, C => kv_b (f_X10_rowsOf c1 h) (fun r7 h6 =>
    if r7 ≤ v5 then (C v3 v4 h6)
    else (kv_b (f_X10_laysRow v5 c1 h6) (fun _ h8 =>
      kv_b (f_X10_wouldCost c1 h8) (fun r10 h9 =>
      kv_b (f_X10_leastOf c1 h9) (fun r12 h11 =>
      kv_vl (r10 - r12) (fun e13 =>
      kv_jn (fun  (h14 : kv_H) =>
      kv_jn (fun (y15 : Int32) (h16 : kv_H) =>
        f_X10_gap_L49 c1 c2 n y15 e13 (v5 + 1) h16 C) (fun (J120 : Int32 → kv_H → Option (Int32 × kv_H)) =>
        if c1 = (1 : Int32) then (J120 (h14 127 0) h14)
        else (J120 ((10 * (h14 127 0)) + (h14 127 1)) h14))) (fun (J90 : kv_H → Option (Int32 × kv_H)) =>
      if v3 < 0 then (J90 h11)
      else (if e13 ≤ v4 then (f_X10_gap_L49 c1 c2 n v3 v4 (v5 + 1) h11 C)
        else (J90 h11)))))))))
def f_X10_gap (x1 : Int32) (x2 : Int32) (h : kv_H) : Option (Int32 × kv_H) :=
  kv_b (f_X10_isIn (x1.toInt64) 1 2 h) (fun r2 h1 =>
  if r2 = 0 then (some ((-1000000001), h1))
  else (kv_b (f_X10_isIn (x2.toInt64) 0 1 h1) (fun r4 h3 =>
    if r4 = 0 then (some ((-1000000001), h3))
    else (if (h3 112 0) = 0 then (some ((-1000000005), h3))
      else (kv_b (f_X10_knowsRooms h3) (fun _ h5 =>
        f_X10_gap_L49 x1 x2 kv_fu (-1) 0 0 h5 (fun z17 z18 h19 =>
        if x2 = 0 then (some (z18, h19))
          else (some (z17, h19)))))))))
set_option maxRecDepth 20000 in
theorem s_f_X10_gap_L49 (c1 : Int32) (c2 : Int32) : ∀ (n : Nat) (v3 : Int32) (v4 : Int32) (v5 : Int32) (h : kv_H) (C : Int32 → Int32 → kv_H → Option (Int32 × kv_H)), (∀ (w3 : Int32) (w4 : Int32) (h : kv_H), kv_S kv_i kK_X10_gap 131 [none, none, some (.int c2), some (.int w3), some (.int w4), none, none] [] h (C w3 w4 h)) → kv_S kv_i kK_X10_gap 49 [some (.ref 111), some (.int c1), some (.int c2), some (.int v3), some (.int v4), some (.int v5), none] [] h (f_X10_gap_L49 c1 c2 n v3 v4 v5 h C) := by
  intro n
  induction n with
  | zero => intros; exact kv_none
  | succ n ih =>
    intro v3 v4 v5 h C hC
    unfold f_X10_gap_L49
    refine kr_iload5 d_X10_gap_49 ?_
    refine kr_aload0 d_X10_gap_51 ?_
    refine kr_iload1 d_X10_gap_52 ?_
    refine kr_iv_i (As := [.int c1]) d_X10_gap_53 cl_X10_228 (m_X10_rowsOf c1 h) sh_111 (Nat.le_of_ble_eq_true rfl) rfl (Nat.le_of_ble_eq_true rfl) (fun r7 h6 => ?_)
    refine kr_icmp_ge d_X10_gap_56 ?_ ?_
    · refine kr_kill0 ?_
      refine kr_kill1 ?_
      refine kr_kill5 ?_
      exact hC v3 v4 h6
    · refine kr_aload0 d_X10_gap_59 ?_
      refine kr_iload5 d_X10_gap_60 ?_
      refine kr_iload1 d_X10_gap_62 ?_
      refine kr_iv_u (As := [.int v5, .int c1]) d_X10_gap_63 cl_X10_231 (m_X10_laysRow v5 c1 h6) sh_111 (Nat.le_of_ble_eq_true rfl) rfl (Nat.le_of_ble_eq_true rfl) (fun h8 => ?_)
      refine kr_aload0 d_X10_gap_66 ?_
      refine kr_iload1 d_X10_gap_67 ?_
      refine kr_iv_i (As := [.int c1]) d_X10_gap_68 cl_X10_198 (m_X10_wouldCost c1 h8) sh_111 (Nat.le_of_ble_eq_true rfl) rfl (Nat.le_of_ble_eq_true rfl) (fun r10 h9 => ?_)
      refine kr_aload0 d_X10_gap_71 ?_
      refine kr_iload1 d_X10_gap_72 ?_
      refine kr_iv_i (As := [.int c1]) d_X10_gap_73 cl_X10_215 (m_X10_leastOf c1 h9) sh_111 (Nat.le_of_ble_eq_true rfl) rfl (Nat.le_of_ble_eq_true rfl) (fun r12 h11 => ?_)
      refine kr_isub d_X10_gap_76 ?_
      refine kr_vl (fun e13 => ?_)
      refine kr_istore6 d_X10_gap_77 (Nat.le_of_ble_eq_true rfl) kv_c1i ?_
      refine kr_iload3 d_X10_gap_79 ?_
      refine kr_jn (P := fun J90 =>  ∀ (h14 : kv_H), kv_S kv_i kK_X10_gap 90 [some (.ref 111), some (.int c1), some (.int c2), none, none, some (.int v5), some (.int e13)] [] h14 (J90  h14)) (fun  h14 => ?_) (fun J90 hJ90 => ?_)
      · refine kr_iload1 d_X10_gap_90 ?_
        refine kr_const (v := 1) d_X10_gap_91 ?_
        refine kr_jn (P := fun J120 => ∀ (y15 : Int32), ∀ (h16 : kv_H), kv_S kv_i kK_X10_gap 120 [some (.ref 111), some (.int c1), some (.int c2), none, none, some (.int v5), some (.int e13)] [.int y15] h16 (J120 y15 h16)) (fun y15 h16 => ?_) (fun J120 hJ120 => ?_)
        · refine kr_istore3 d_X10_gap_120 (Nat.le_of_ble_eq_true rfl) kv_c1i ?_
          refine kr_iload6 d_X10_gap_121 ?_
          refine kr_istore4 d_X10_gap_123 (Nat.le_of_ble_eq_true rfl) kv_c1i ?_
          refine kr_iinc5 d_X10_gap_125 (Nat.le_of_ble_eq_true rfl) kv_c1i ?_
          refine kr_goto d_X10_gap_128 ?_
          refine kr_kill6 ?_
          exact ih y15 e13 (v5 + 1) h16 C hC
        refine kr_icmp_ne d_X10_gap_92 ?_ ?_
        · refine kr_const (v := 10) d_X10_gap_104 ?_
          refine kr_aload0 d_X10_gap_106 ?_
          refine kr_getR (q := 127) d_X10_gap_107 fl_X10_55 sh_111 rfl ?_
          refine kr_const (v := 0) d_X10_gap_110 ?_
          refine kr_ialoadC (j := 0) ⟨by decide, by decide, by decide⟩ d_X10_gap_111 sh_127 ?_
          refine kr_imul d_X10_gap_112 ?_
          refine kr_aload0 d_X10_gap_113 ?_
          refine kr_getR (q := 127) d_X10_gap_114 fl_X10_55 sh_111 rfl ?_
          refine kr_const (v := 1) d_X10_gap_117 ?_
          refine kr_ialoadC (j := 1) ⟨by decide, by decide, by decide⟩ d_X10_gap_118 sh_127 ?_
          refine kr_iadd d_X10_gap_119 ?_
          exact hJ120 ((10 * (h14 127 0)) + (h14 127 1)) h14
        · refine kr_aload0 d_X10_gap_95 ?_
          refine kr_getR (q := 127) d_X10_gap_96 fl_X10_55 sh_111 rfl ?_
          refine kr_const (v := 0) d_X10_gap_99 ?_
          refine kr_ialoadC (j := 0) ⟨by decide, by decide, by decide⟩ d_X10_gap_100 sh_127 ?_
          refine kr_goto d_X10_gap_101 ?_
          exact hJ120 (h14 127 0) h14
      refine kr_if_lt d_X10_gap_80 ?_ ?_
      · refine kr_kill3 ?_
        refine kr_kill4 ?_
        exact hJ90 h11
      · refine kr_iload6 d_X10_gap_83 ?_
        refine kr_iload4 d_X10_gap_85 ?_
        refine kr_icmp_le d_X10_gap_87 ?_ ?_
        · refine kr_iinc5 d_X10_gap_125 (Nat.le_of_ble_eq_true rfl) kv_c1i ?_
          refine kr_goto d_X10_gap_128 ?_
          refine kr_kill6 ?_
          exact ih v3 v4 (v5 + 1) h11 C hC
        · refine kr_kill3 ?_
          refine kr_kill4 ?_
          exact hJ90 h11

set_option maxRecDepth 20000 in
theorem m_X10_gap (x1 : Int32) (x2 : Int32) (h : kv_H) : kv_M kv_i kK_X10_gap [.ref 111, .int x1, .int x2] h (f_X10_gap x1 x2 h) := by
  refine kv_met (ls := [some (.ref 111), some (.int x1), some (.int x2), none, none, none, none]) (show plainName RX10 = true by decide +kernel) (fun _ => rfl) (fun _ => Nat.le_of_ble_eq_true rfl) ?_
  unfold f_X10_gap
  refine kr_iload1 d_X10_gap_0 ?_
  refine kr_i2l d_X10_gap_1 ?_
  refine kr_constL (v := 1) d_X10_gap_2 ?_
  refine kr_constL (v := 2) d_X10_gap_3 ?_
  refine kr_is_i (As := [.long (x1.toInt64), .long 1, .long 2]) d_X10_gap_6 cl_X10_83 (m_X10_isIn (x1.toInt64) 1 2 h) (Nat.le_of_ble_eq_true rfl) rfl (Nat.le_of_ble_eq_true rfl) (fun r2 h1 => ?_)
  refine kr_if_eq d_X10_gap_9 ?_ ?_
  · refine kr_const (v := (-1000000001)) d_X10_gap_22 ?_
    exact kr_ireturn d_X10_gap_24 rfl
  · refine kr_iload2 d_X10_gap_12 ?_
    refine kr_i2l d_X10_gap_13 ?_
    refine kr_constL (v := 0) d_X10_gap_14 ?_
    refine kr_constL (v := 1) d_X10_gap_15 ?_
    refine kr_is_i (As := [.long (x2.toInt64), .long 0, .long 1]) d_X10_gap_16 cl_X10_83 (m_X10_isIn (x2.toInt64) 0 1 h1) (Nat.le_of_ble_eq_true rfl) rfl (Nat.le_of_ble_eq_true rfl) (fun r4 h3 => ?_)
    refine kr_if_ne d_X10_gap_19 ?_ ?_
    · refine kr_aload0 d_X10_gap_25 ?_
      refine kr_getR (q := 112) d_X10_gap_26 fl_X10_7 sh_111 rfl ?_
      refine kr_const (v := 0) d_X10_gap_29 ?_
      refine kr_ialoadC (j := 0) ⟨by decide, by decide, by decide⟩ d_X10_gap_30 sh_112 ?_
      refine kr_if_ne d_X10_gap_31 ?_ ?_
      · refine kr_aload0 d_X10_gap_37 ?_
        refine kr_iv_u (As := []) d_X10_gap_38 cl_X10_212 (m_X10_knowsRooms h3) sh_111 (Nat.le_of_ble_eq_true rfl) rfl (Nat.le_of_ble_eq_true rfl) (fun h5 => ?_)
        refine kr_const (v := (-1)) d_X10_gap_41 ?_
        refine kr_istore3 d_X10_gap_42 (Nat.le_of_ble_eq_true rfl) kv_c1i ?_
        refine kr_const (v := 0) d_X10_gap_43 ?_
        refine kr_istore4 d_X10_gap_44 (Nat.le_of_ble_eq_true rfl) kv_c1i ?_
        refine kr_const (v := 0) d_X10_gap_46 ?_
        refine kr_istore5 d_X10_gap_47 (Nat.le_of_ble_eq_true rfl) kv_c1i ?_
        refine s_f_X10_gap_L49 x1 x2 kv_fu (-1) 0 0 h5 _ (fun z17 z18 h19 => ?_)
        refine kr_iload2 d_X10_gap_131 ?_
        refine kr_if_ne d_X10_gap_132 ?_ ?_
        · refine kr_iload3 d_X10_gap_140 ?_
          exact kr_ireturn d_X10_gap_141 rfl
        · refine kr_iload4 d_X10_gap_135 ?_
          refine kr_goto d_X10_gap_137 ?_
          exact kr_ireturn d_X10_gap_141 rfl
      · refine kr_const (v := (-1000000005)) d_X10_gap_34 ?_
        exact kr_ireturn d_X10_gap_36 rfl
    · refine kr_const (v := (-1000000001)) d_X10_gap_22 ?_
      exact kr_ireturn d_X10_gap_24 rfl

/-! X10_feed -/
def f_X10_feed_L18 (c1 : Int32) (c2 : Int32) (c3 : Int32) : Nat → Int32 → kv_H → (kv_H → Option (Int32 × kv_H)) → Option (Int32 × kv_H)
  | 0, _, _, _ => none
  | n + 1, v4, h, C => if (12 : Int32) ≤ v4 then (C h)
    else (kv_jn (fun (y1 : Int32) (h2 : kv_H) =>
      kv_k (h2 111 21) 96 (kv_hl (kv_up h2 130 (h2 111 21).toNatClampNeg ((y1 >>> ((24 - (8 * (v4 - v4 / 4 * 4))) &&& 31)) &&& 255)) (fun h3 =>
        kv_hl (kv_up h3 111 21 ((h3 111 21) + 1)) (fun h4 =>
        f_X10_feed_L18 c1 c2 c3 n (v4 + 1) h4 C)))) (fun (J47 : Int32 → kv_H → Option (Int32 × kv_H)) =>
      if (4 : Int32) ≤ v4 then (if (8 : Int32) ≤ v4 then (J47 c3 h)
        else (J47 c2 h))
      else (J47 c1 h)))
def f_X10_feed (x1 : Int32) (x2 : Int32) (x3 : Int32) (h : kv_H) : Option (Int32 × kv_H) :=
  if ((h 111 21) + 12) ≤ (96 : Int32) then (f_X10_feed_L18 x1 x2 x3 kv_fu 0 h (fun  h5 =>
    some ((h5 111 21), h5)))
  else (some ((-1000000003), h))
set_option maxRecDepth 20000 in
theorem s_f_X10_feed_L18 (c1 : Int32) (c2 : Int32) (c3 : Int32) : ∀ (n : Nat) (v4 : Int32) (h : kv_H) (C : kv_H → Option (Int32 × kv_H)), (∀  (h : kv_H), kv_S kv_i kK_X10_feed 91 [some (.ref 111), none, none, none, none, none] [] h (C h)) → kv_S kv_i kK_X10_feed 18 [some (.ref 111), some (.int c1), some (.int c2), some (.int c3), some (.int v4), none] [] h (f_X10_feed_L18 c1 c2 c3 n v4 h C) := by
  intro n
  induction n with
  | zero => intros; exact kv_none
  | succ n ih =>
    intro v4 h C hC
    unfold f_X10_feed_L18
    refine kr_iload4 d_X10_feed_18 ?_
    refine kr_const (v := 12) d_X10_feed_20 ?_
    refine kr_icmp_ge d_X10_feed_22 ?_ ?_
    · refine kr_kill1 ?_
      refine kr_kill2 ?_
      refine kr_kill3 ?_
      refine kr_kill4 ?_
      exact hC h
    · refine kr_iload4 d_X10_feed_25 ?_
      refine kr_const (v := 4) d_X10_feed_27 ?_
      refine kr_jn (P := fun J47 => ∀ (y1 : Int32), ∀ (h2 : kv_H), kv_S kv_i kK_X10_feed 47 [some (.ref 111), some (.int c1), some (.int c2), some (.int c3), some (.int v4), none] [.int y1] h2 (J47 y1 h2)) (fun y1 h2 => ?_) (fun J47 hJ47 => ?_)
      · refine kr_istore5 d_X10_feed_47 (Nat.le_of_ble_eq_true rfl) kv_c1i ?_
        refine kr_aload0 d_X10_feed_49 ?_
        refine kr_getR (q := 130) d_X10_feed_50 fl_X10_64 sh_111 rfl ?_
        refine kr_aload0 d_X10_feed_53 ?_
        refine kr_getI d_X10_feed_54 fl_X10_235 sh_111 rfl ?_
        refine kr_iload5 d_X10_feed_57 ?_
        refine kr_const (v := 24) d_X10_feed_59 ?_
        refine kr_const (v := 8) d_X10_feed_61 ?_
        refine kr_iload4 d_X10_feed_63 ?_
        refine kr_const (v := 4) d_X10_feed_65 ?_
        refine kr_iremK (by decide) d_X10_feed_66 ?_
        refine kr_imul d_X10_feed_67 ?_
        refine kr_isub d_X10_feed_68 ?_
        refine kr_ishr d_X10_feed_69 ?_
        refine kr_const (v := 255) d_X10_feed_70 ?_
        refine kr_iand d_X10_feed_73 ?_
        refine kr_iastore d_X10_feed_74 sh_130 ?_
        refine kr_hl (fun h3 => ?_)
        refine kr_aload0 d_X10_feed_75 ?_
        refine kr_dup d_X10_feed_76 rfl ?_
        refine kr_getI d_X10_feed_77 fl_X10_235 sh_111 rfl ?_
        refine kr_const (v := 1) d_X10_feed_80 ?_
        refine kr_iadd d_X10_feed_81 ?_
        refine kr_putI d_X10_feed_82 fp_X10_235 sh_111 rfl rfl rfl ?_
        refine kr_hl (fun h4 => ?_)
        refine kr_iinc4 d_X10_feed_85 (Nat.le_of_ble_eq_true rfl) kv_c1i ?_
        refine kr_goto d_X10_feed_88 ?_
        refine kr_kill5 ?_
        exact ih (v4 + 1) h4 C hC
      refine kr_icmp_ge d_X10_feed_28 ?_ ?_
      · refine kr_iload4 d_X10_feed_35 ?_
        refine kr_const (v := 8) d_X10_feed_37 ?_
        refine kr_icmp_ge d_X10_feed_39 ?_ ?_
        · refine kr_iload3 d_X10_feed_46 ?_
          exact hJ47 c3 h
        · refine kr_iload2 d_X10_feed_42 ?_
          refine kr_goto d_X10_feed_43 ?_
          exact hJ47 c2 h
      · refine kr_iload1 d_X10_feed_31 ?_
        refine kr_goto d_X10_feed_32 ?_
        exact hJ47 c1 h

set_option maxRecDepth 20000 in
theorem m_X10_feed (x1 : Int32) (x2 : Int32) (x3 : Int32) (h : kv_H) : kv_M kv_i kK_X10_feed [.ref 111, .int x1, .int x2, .int x3] h (f_X10_feed x1 x2 x3 h) := by
  refine kv_met (ls := [some (.ref 111), some (.int x1), some (.int x2), some (.int x3), none, none]) (show plainName RX10 = true by decide +kernel) (fun _ => rfl) (fun _ => Nat.le_of_ble_eq_true rfl) ?_
  unfold f_X10_feed
  refine kr_aload0 d_X10_feed_0 ?_
  refine kr_getI d_X10_feed_1 fl_X10_235 sh_111 rfl ?_
  refine kr_const (v := 12) d_X10_feed_4 ?_
  refine kr_iadd d_X10_feed_6 ?_
  refine kr_const (v := 96) d_X10_feed_7 ?_
  refine kr_icmp_le d_X10_feed_9 ?_ ?_
  · refine kr_const (v := 0) d_X10_feed_15 ?_
    refine kr_istore4 d_X10_feed_16 (Nat.le_of_ble_eq_true rfl) kv_c1i ?_
    refine s_f_X10_feed_L18 x1 x2 x3 kv_fu 0 h _ (fun  h5 => ?_)
    refine kr_aload0 d_X10_feed_91 ?_
    refine kr_getI d_X10_feed_92 fl_X10_235 sh_111 rfl ?_
    exact kr_ireturn d_X10_feed_95 rfl
  · refine kr_const (v := (-1000000003)) d_X10_feed_12 ?_
    exact kr_ireturn d_X10_feed_14 rfl

/-! X10_trim -/
def f_X10_trim (x1 : Int32) (h : kv_H) : Option (Int32 × kv_H) :=
  kv_b (f_X10_isIn (x1.toInt64) 0 ((h 111 21).toInt64) h) (fun r2 h1 =>
  if r2 = 0 then (some ((-1000000001), h1))
  else (kv_hl (kv_up h1 111 21 x1) (fun h3 =>
    some (x1, h3))))
set_option maxRecDepth 20000 in
theorem m_X10_trim (x1 : Int32) (h : kv_H) : kv_M kv_i kK_X10_trim [.ref 111, .int x1] h (f_X10_trim x1 h) := by
  refine kv_met (ls := [some (.ref 111), some (.int x1)]) (show plainName RX10 = true by decide +kernel) (fun _ => rfl) (fun _ => Nat.le_of_ble_eq_true rfl) ?_
  unfold f_X10_trim
  refine kr_iload1 d_X10_trim_0 ?_
  refine kr_i2l d_X10_trim_1 ?_
  refine kr_constL (v := 0) d_X10_trim_2 ?_
  refine kr_aload0 d_X10_trim_3 ?_
  refine kr_getI d_X10_trim_4 fl_X10_235 sh_111 rfl ?_
  refine kr_i2l d_X10_trim_7 ?_
  refine kr_is_i (As := [.long (x1.toInt64), .long 0, .long ((h 111 21).toInt64)]) d_X10_trim_8 cl_X10_83 (m_X10_isIn (x1.toInt64) 0 ((h 111 21).toInt64) h) (Nat.le_of_ble_eq_true rfl) rfl (Nat.le_of_ble_eq_true rfl) (fun r2 h1 => ?_)
  refine kr_if_ne d_X10_trim_11 ?_ ?_
  · refine kr_aload0 d_X10_trim_17 ?_
    refine kr_iload1 d_X10_trim_18 ?_
    refine kr_putI d_X10_trim_19 fp_X10_235 sh_111 rfl rfl rfl ?_
    refine kr_hl (fun h3 => ?_)
    refine kr_iload1 d_X10_trim_22 ?_
    exact kr_ireturn d_X10_trim_23 rfl
  · refine kr_const (v := (-1000000001)) d_X10_trim_14 ?_
    exact kr_ireturn d_X10_trim_16 rfl

/-! X10_isLetter -/
def f_X10_isLetter (x1 : Int32) (h : kv_H) : Option (Int32 × kv_H) :=
  if (h 111 21) ≤ x1 then (some (0, h))
  else (kv_k x1 96 (kv_b (f_X10_isIn ((h 130 x1.toNatClampNeg).toInt64) 97 122 h) (fun r2 h1 =>
    if r2 = 0 then (some (0, h1))
    else (some (1, h1)))))
set_option maxRecDepth 20000 in
theorem m_X10_isLetter (x1 : Int32) (h : kv_H) : kv_M kv_i kK_X10_isLetter [.ref 111, .int x1] h (f_X10_isLetter x1 h) := by
  refine kv_met (ls := [some (.ref 111), some (.int x1)]) (show plainName RX10 = true by decide +kernel) (fun _ => rfl) (fun _ => Nat.le_of_ble_eq_true rfl) ?_
  unfold f_X10_isLetter
  refine kr_iload1 d_X10_isLetter_0 ?_
  refine kr_aload0 d_X10_isLetter_1 ?_
  refine kr_getI d_X10_isLetter_2 fl_X10_235 sh_111 rfl ?_
  refine kr_icmp_ge d_X10_isLetter_5 ?_ ?_
  · refine kr_const (v := 0) d_X10_isLetter_31 ?_
    exact kr_zreturnK (by decide) d_X10_isLetter_32 rfl
  · refine kr_aload0 d_X10_isLetter_8 ?_
    refine kr_getR (q := 130) d_X10_isLetter_9 fl_X10_64 sh_111 rfl ?_
    refine kr_iload1 d_X10_isLetter_12 ?_
    refine kr_iaload d_X10_isLetter_13 sh_130 ?_
    refine kr_i2l d_X10_isLetter_14 ?_
    refine kr_constL (v := 97) d_X10_isLetter_15 ?_
    refine kr_constL (v := 122) d_X10_isLetter_18 ?_
    refine kr_is_i (As := [.long ((h 130 x1.toNatClampNeg).toInt64), .long 97, .long 122]) d_X10_isLetter_21 cl_X10_83 (m_X10_isIn ((h 130 x1.toNatClampNeg).toInt64) 97 122 h) (Nat.le_of_ble_eq_true rfl) rfl (Nat.le_of_ble_eq_true rfl) (fun r2 h1 => ?_)
    refine kr_if_eq d_X10_isLetter_24 ?_ ?_
    · refine kr_const (v := 0) d_X10_isLetter_31 ?_
      exact kr_zreturnK (by decide) d_X10_isLetter_32 rfl
    · refine kr_const (v := 1) d_X10_isLetter_27 ?_
      refine kr_goto d_X10_isLetter_28 ?_
      exact kr_zreturnK (by decide) d_X10_isLetter_32 rfl

/-! X10_isDigit -/
def f_X10_isDigit (x1 : Int32) (h : kv_H) : Option (Int32 × kv_H) :=
  if (h 111 21) ≤ x1 then (some (0, h))
  else (kv_k x1 96 (kv_b (f_X10_isIn ((h 130 x1.toNatClampNeg).toInt64) 48 57 h) (fun r2 h1 =>
    if r2 = 0 then (some (0, h1))
    else (some (1, h1)))))
set_option maxRecDepth 20000 in
theorem m_X10_isDigit (x1 : Int32) (h : kv_H) : kv_M kv_i kK_X10_isDigit [.ref 111, .int x1] h (f_X10_isDigit x1 h) := by
  refine kv_met (ls := [some (.ref 111), some (.int x1)]) (show plainName RX10 = true by decide +kernel) (fun _ => rfl) (fun _ => Nat.le_of_ble_eq_true rfl) ?_
  unfold f_X10_isDigit
  refine kr_iload1 d_X10_isDigit_0 ?_
  refine kr_aload0 d_X10_isDigit_1 ?_
  refine kr_getI d_X10_isDigit_2 fl_X10_235 sh_111 rfl ?_
  refine kr_icmp_ge d_X10_isDigit_5 ?_ ?_
  · refine kr_const (v := 0) d_X10_isDigit_31 ?_
    exact kr_zreturnK (by decide) d_X10_isDigit_32 rfl
  · refine kr_aload0 d_X10_isDigit_8 ?_
    refine kr_getR (q := 130) d_X10_isDigit_9 fl_X10_64 sh_111 rfl ?_
    refine kr_iload1 d_X10_isDigit_12 ?_
    refine kr_iaload d_X10_isDigit_13 sh_130 ?_
    refine kr_i2l d_X10_isDigit_14 ?_
    refine kr_constL (v := 48) d_X10_isDigit_15 ?_
    refine kr_constL (v := 57) d_X10_isDigit_18 ?_
    refine kr_is_i (As := [.long ((h 130 x1.toNatClampNeg).toInt64), .long 48, .long 57]) d_X10_isDigit_21 cl_X10_83 (m_X10_isIn ((h 130 x1.toNatClampNeg).toInt64) 48 57 h) (Nat.le_of_ble_eq_true rfl) rfl (Nat.le_of_ble_eq_true rfl) (fun r2 h1 => ?_)
    refine kr_if_eq d_X10_isDigit_24 ?_ ?_
    · refine kr_const (v := 0) d_X10_isDigit_31 ?_
      exact kr_zreturnK (by decide) d_X10_isDigit_32 rfl
    · refine kr_const (v := 1) d_X10_isDigit_27 ?_
      refine kr_goto d_X10_isDigit_28 ?_
      exact kr_zreturnK (by decide) d_X10_isDigit_32 rfl

/-! X10_nextToken -/
def f_X10_nextToken_L34 (c1 : Int32) (c2 : Int32) : Nat → kv_H → (kv_H → Option (Unit × kv_H)) → Option (Unit × kv_H)
  | 0, _, _ => none
  | n + 1, h, C => if (h 111 21) ≤ (h 111 23) then (C h)
    else (kv_k (h 111 23) 96 (if (h 130 (h 111 23).toNatClampNeg) = (32 : Int32) then (kv_hl (kv_up h 111 23 ((h 111 23) + 1)) (fun h4 =>
        f_X10_nextToken_L34 c1 c2 n h4 C))
      else (C h)))
def f_X10_nextToken_L214 (c1 : Int32) : Nat → kv_H → (kv_H → Option (Unit × kv_H)) → Option (Unit × kv_H)
  | 0, _, _ => none
  | n + 1, h, C => kv_b (f_X10_isDigit (h 111 23) h) (fun r18 h17 =>
    if r18 = 0 then (C h17)
    else (kv_jn (fun (y19 : Int32) (h20 : kv_H) =>
      kv_hl (kv_up h20 111 25 y19) (fun h21 =>
        kv_hl (kv_up h21 111 23 ((h21 111 23) + 1)) (fun h22 =>
        f_X10_nextToken_L214 c1 n h22 C))) (fun (J266 : Int32 → kv_H → Option (Unit × kv_H)) =>
      if (4 : Int32) ≤ ((h17 111 23) - (h17 111 22)) then (J266 (h17 111 25) h17)
      else (kv_k (h17 111 23) 96 (J266 (((10 * (h17 111 25)) + (h17 130 (h17 111 23).toNatClampNeg)) - 48) h17)))))
def f_X10_nextToken_L128 (c1 : Int32) : Nat → kv_H → (kv_H → Option (Unit × kv_H)) → Option (Unit × kv_H)
  | 0, _, _ => none
  | n + 1, h, C => kv_b (f_X10_isLetter (h 111 23) h) (fun r28 h27 =>
    if r28 = 0 then (C h27)
    else (kv_hl (kv_up h27 111 23 ((h27 111 23) + 1)) (fun h29 =>
      f_X10_nextToken_L128 c1 n h29 C)))
def f_X10_nextToken (h : kv_H) : Option (Unit × kv_H) :=
  kv_jn (fun (y1 : Int32) (h2 : kv_H) =>
  kv_vl (h2 111 23) (fun e3 =>
    f_X10_nextToken_L34 y1 e3 kv_fu  h2 (fun  h5 =>
    kv_jn (fun (y6 : Int32) (h7 : kv_H) =>
      kv_hl (kv_up h7 111 22 (h7 111 23)) (fun h8 =>
        if (h8 111 22) = (h8 111 21) then (kv_hl (kv_up h8 111 24 0) (fun h36 =>
          some ((), h36)))
        else (kv_b (f_X10_isLetter (h8 111 22) h8) (fun r10 h9 =>
          if r10 = 0 then (kv_b (f_X10_isDigit (h9 111 22) h9) (fun r12 h11 =>
            if r12 = 0 then (kv_hl (kv_up h11 111 24 3) (fun h13 =>
              kv_k (h13 111 22) 96 (kv_hl (kv_up h13 111 26 (h13 130 (h13 111 22).toNatClampNeg)) (fun h14 =>
              kv_hl (kv_up h14 111 23 ((h14 111 23) + 1)) (fun h15 =>
              some ((), h15))))))
            else (kv_hl (kv_up h11 111 25 0) (fun h16 =>
              f_X10_nextToken_L214 y6 kv_fu  h16 (fun  h23 =>
              if y6 = 0 then (if ((h23 111 23) - (h23 111 22)) ≤ (4 : Int32) then (kv_hl (kv_up h23 111 24 2) (fun h25 =>
                    some ((), h25)))
                  else (kv_hl (kv_up h23 111 24 4) (fun h26 =>
                    some ((), h26))))
                else (kv_hl (kv_up h23 111 24 4) (fun h24 =>
                  some ((), h24))))))))
          else (f_X10_nextToken_L128 y6 kv_fu  h9 (fun  h30 =>
            kv_jn (fun (y31 : Int32) (h32 : kv_H) =>
              kv_hl (kv_up h32 111 24 y31) (fun h33 =>
                if ((h33 111 23) - (h33 111 22)) = (1 : Int32) then (kv_k (h33 111 22) 96 (kv_hl (kv_up h33 111 26 (h33 130 (h33 111 22).toNatClampNeg)) (fun h35 =>
                  some ((), h35))))
                else (kv_hl (kv_up h33 111 26 0) (fun h34 =>
                  some ((), h34))))) (fun (J162 : Int32 → kv_H → Option (Unit × kv_H)) =>
              if y6 = 0 then (J162 1 h30)
              else (J162 4 h30)))))))) (fun (J89 : Int32 → kv_H → Option (Unit × kv_H)) =>
      kv_jn (fun  (h37 : kv_H) =>
      J89 0 h37) (fun (J88 : kv_H → Option (Unit × kv_H)) =>
      if y1 = 0 then (J88 h5)
      else (if e3 = (h5 111 23) then (J89 1 h5)
        else (J88 h5))))))) (fun (J28 : Int32 → kv_H → Option (Unit × kv_H)) =>
  kv_jn (fun  (h38 : kv_H) =>
  J28 0 h38) (fun (J27 : kv_H → Option (Unit × kv_H)) =>
  if (h 111 23) ≤ 0 then (J27 h)
  else (if (h 111 24) = (1 : Int32) then (J28 1 h)
    else (if (h 111 24) = (2 : Int32) then (J28 1 h)
      else (J27 h)))))
set_option maxRecDepth 20000 in
theorem s_f_X10_nextToken_L34 (c1 : Int32) (c2 : Int32) : ∀ (n : Nat)  (h : kv_H) (C : kv_H → Option (Unit × kv_H)), (∀  (h : kv_H), kv_S kv_u kK_X10_nextToken 72 [some (.ref 111), some (.int c1), some (.int c2)] [] h (C h)) → kv_S kv_u kK_X10_nextToken 34 [some (.ref 111), some (.int c1), some (.int c2)] [] h (f_X10_nextToken_L34 c1 c2 n h C) := by
  intro n
  induction n with
  | zero => intros; exact kv_none
  | succ n ih =>
    intro h C hC
    unfold f_X10_nextToken_L34
    refine kr_aload0 d_X10_nextToken_34 ?_
    refine kr_getI d_X10_nextToken_35 fl_X10_246 sh_111 rfl ?_
    refine kr_aload0 d_X10_nextToken_38 ?_
    refine kr_getI d_X10_nextToken_39 fl_X10_235 sh_111 rfl ?_
    refine kr_icmp_ge d_X10_nextToken_42 ?_ ?_
    · exact hC h
    · refine kr_aload0 d_X10_nextToken_45 ?_
      refine kr_getR (q := 130) d_X10_nextToken_46 fl_X10_64 sh_111 rfl ?_
      refine kr_aload0 d_X10_nextToken_49 ?_
      refine kr_getI d_X10_nextToken_50 fl_X10_246 sh_111 rfl ?_
      refine kr_iaload d_X10_nextToken_53 sh_130 ?_
      refine kr_const (v := 32) d_X10_nextToken_54 ?_
      refine kr_icmp_ne d_X10_nextToken_56 ?_ ?_
      · exact hC h
      · refine kr_aload0 d_X10_nextToken_59 ?_
        refine kr_dup d_X10_nextToken_60 rfl ?_
        refine kr_getI d_X10_nextToken_61 fl_X10_246 sh_111 rfl ?_
        refine kr_const (v := 1) d_X10_nextToken_64 ?_
        refine kr_iadd d_X10_nextToken_65 ?_
        refine kr_putI d_X10_nextToken_66 fp_X10_246 sh_111 rfl rfl rfl ?_
        refine kr_hl (fun h4 => ?_)
        refine kr_goto d_X10_nextToken_69 ?_
        exact ih h4 C hC

set_option maxRecDepth 20000 in
theorem s_f_X10_nextToken_L214 (c1 : Int32) : ∀ (n : Nat)  (h : kv_H) (C : kv_H → Option (Unit × kv_H)), (∀  (h : kv_H), kv_S kv_u kK_X10_nextToken 282 [some (.ref 111), some (.int c1), none] [] h (C h)) → kv_S kv_u kK_X10_nextToken 214 [some (.ref 111), some (.int c1), none] [] h (f_X10_nextToken_L214 c1 n h C) := by
  intro n
  induction n with
  | zero => intros; exact kv_none
  | succ n ih =>
    intro h C hC
    unfold f_X10_nextToken_L214
    refine kr_aload0 d_X10_nextToken_214 ?_
    refine kr_aload0 d_X10_nextToken_215 ?_
    refine kr_getI d_X10_nextToken_216 fl_X10_246 sh_111 rfl ?_
    refine kr_iv_i (As := [.int (h 111 23)]) d_X10_nextToken_219 cl_X10_261 (m_X10_isDigit (h 111 23) h) sh_111 (Nat.le_of_ble_eq_true rfl) rfl (Nat.le_of_ble_eq_true rfl) (fun r18 h17 => ?_)
    refine kr_if_eq d_X10_nextToken_222 ?_ ?_
    · exact hC h17
    · refine kr_aload0 d_X10_nextToken_225 ?_
      refine kr_aload0 d_X10_nextToken_226 ?_
      refine kr_getI d_X10_nextToken_227 fl_X10_246 sh_111 rfl ?_
      refine kr_aload0 d_X10_nextToken_230 ?_
      refine kr_getI d_X10_nextToken_231 fl_X10_252 sh_111 rfl ?_
      refine kr_isub d_X10_nextToken_234 ?_
      refine kr_const (v := 4) d_X10_nextToken_235 ?_
      refine kr_jn (P := fun J266 => ∀ (y19 : Int32), ∀ (h20 : kv_H), kv_S kv_u kK_X10_nextToken 266 [some (.ref 111), some (.int c1), none] [.int y19, .ref 111] h20 (J266 y19 h20)) (fun y19 h20 => ?_) (fun J266 hJ266 => ?_)
      · refine kr_putI d_X10_nextToken_266 fp_X10_264 sh_111 rfl rfl rfl ?_
        refine kr_hl (fun h21 => ?_)
        refine kr_aload0 d_X10_nextToken_269 ?_
        refine kr_dup d_X10_nextToken_270 rfl ?_
        refine kr_getI d_X10_nextToken_271 fl_X10_246 sh_111 rfl ?_
        refine kr_const (v := 1) d_X10_nextToken_274 ?_
        refine kr_iadd d_X10_nextToken_275 ?_
        refine kr_putI d_X10_nextToken_276 fp_X10_246 sh_111 rfl rfl rfl ?_
        refine kr_hl (fun h22 => ?_)
        refine kr_goto d_X10_nextToken_279 ?_
        exact ih h22 C hC
      refine kr_icmp_ge d_X10_nextToken_236 ?_ ?_
      · refine kr_aload0 d_X10_nextToken_262 ?_
        refine kr_getI d_X10_nextToken_263 fl_X10_264 sh_111 rfl ?_
        exact hJ266 (h17 111 25) h17
      · refine kr_const (v := 10) d_X10_nextToken_239 ?_
        refine kr_aload0 d_X10_nextToken_241 ?_
        refine kr_getI d_X10_nextToken_242 fl_X10_264 sh_111 rfl ?_
        refine kr_imul d_X10_nextToken_245 ?_
        refine kr_aload0 d_X10_nextToken_246 ?_
        refine kr_getR (q := 130) d_X10_nextToken_247 fl_X10_64 sh_111 rfl ?_
        refine kr_aload0 d_X10_nextToken_250 ?_
        refine kr_getI d_X10_nextToken_251 fl_X10_246 sh_111 rfl ?_
        refine kr_iaload d_X10_nextToken_254 sh_130 ?_
        refine kr_iadd d_X10_nextToken_255 ?_
        refine kr_const (v := 48) d_X10_nextToken_256 ?_
        refine kr_isub d_X10_nextToken_258 ?_
        refine kr_goto d_X10_nextToken_259 ?_
        exact hJ266 (((10 * (h17 111 25)) + (h17 130 (h17 111 23).toNatClampNeg)) - 48) h17

set_option maxRecDepth 20000 in
theorem s_f_X10_nextToken_L128 (c1 : Int32) : ∀ (n : Nat)  (h : kv_H) (C : kv_H → Option (Unit × kv_H)), (∀  (h : kv_H), kv_S kv_u kK_X10_nextToken 152 [some (.ref 111), some (.int c1), none] [] h (C h)) → kv_S kv_u kK_X10_nextToken 128 [some (.ref 111), some (.int c1), none] [] h (f_X10_nextToken_L128 c1 n h C) := by
  intro n
  induction n with
  | zero => intros; exact kv_none
  | succ n ih =>
    intro h C hC
    unfold f_X10_nextToken_L128
    refine kr_aload0 d_X10_nextToken_128 ?_
    refine kr_aload0 d_X10_nextToken_129 ?_
    refine kr_getI d_X10_nextToken_130 fl_X10_246 sh_111 rfl ?_
    refine kr_iv_i (As := [.int (h 111 23)]) d_X10_nextToken_133 cl_X10_255 (m_X10_isLetter (h 111 23) h) sh_111 (Nat.le_of_ble_eq_true rfl) rfl (Nat.le_of_ble_eq_true rfl) (fun r28 h27 => ?_)
    refine kr_if_eq d_X10_nextToken_136 ?_ ?_
    · exact hC h27
    · refine kr_aload0 d_X10_nextToken_139 ?_
      refine kr_dup d_X10_nextToken_140 rfl ?_
      refine kr_getI d_X10_nextToken_141 fl_X10_246 sh_111 rfl ?_
      refine kr_const (v := 1) d_X10_nextToken_144 ?_
      refine kr_iadd d_X10_nextToken_145 ?_
      refine kr_putI d_X10_nextToken_146 fp_X10_246 sh_111 rfl rfl rfl ?_
      refine kr_hl (fun h29 => ?_)
      refine kr_goto d_X10_nextToken_149 ?_
      exact ih h29 C hC

set_option maxRecDepth 20000 in
theorem m_X10_nextToken (h : kv_H) : kv_M kv_u kK_X10_nextToken [.ref 111] h (f_X10_nextToken h) := by
  refine kv_met (ls := [some (.ref 111), none, none]) (show plainName RX10 = true by decide +kernel) (fun _ => rfl) (fun _ => Nat.le_of_ble_eq_true rfl) ?_
  unfold f_X10_nextToken
  refine kr_aload0 d_X10_nextToken_0 ?_
  refine kr_getI d_X10_nextToken_1 fl_X10_246 sh_111 rfl ?_
  refine kr_jn (P := fun J28 => ∀ (y1 : Int32), ∀ (h2 : kv_H), kv_S kv_u kK_X10_nextToken 28 [some (.ref 111), none, none] [.int y1] h2 (J28 y1 h2)) (fun y1 h2 => ?_) (fun J28 hJ28 => ?_)
  · refine kr_istore1 d_X10_nextToken_28 (Nat.le_of_ble_eq_true rfl) kv_c1a ?_
    refine kr_aload0 d_X10_nextToken_29 ?_
    refine kr_getI d_X10_nextToken_30 fl_X10_246 sh_111 rfl ?_
    refine kr_vl (fun e3 => ?_)
    refine kr_istore2 d_X10_nextToken_33 (Nat.le_of_ble_eq_true rfl) kv_c1i ?_
    refine s_f_X10_nextToken_L34 y1 e3 kv_fu  h2 _ (fun  h5 => ?_)
    refine kr_iload1 d_X10_nextToken_72 ?_
    refine kr_jn (P := fun J89 => ∀ (y6 : Int32), ∀ (h7 : kv_H), kv_S kv_u kK_X10_nextToken 89 [some (.ref 111), none, none] [.int y6] h7 (J89 y6 h7)) (fun y6 h7 => ?_) (fun J89 hJ89 => ?_)
    · refine kr_istore1 d_X10_nextToken_89 (Nat.le_of_ble_eq_true rfl) kv_c1a ?_
      refine kr_aload0 d_X10_nextToken_90 ?_
      refine kr_aload0 d_X10_nextToken_91 ?_
      refine kr_getI d_X10_nextToken_92 fl_X10_246 sh_111 rfl ?_
      refine kr_putI d_X10_nextToken_95 fp_X10_252 sh_111 rfl rfl rfl ?_
      refine kr_hl (fun h8 => ?_)
      refine kr_aload0 d_X10_nextToken_98 ?_
      refine kr_getI d_X10_nextToken_99 fl_X10_252 sh_111 rfl ?_
      refine kr_aload0 d_X10_nextToken_102 ?_
      refine kr_getI d_X10_nextToken_103 fl_X10_235 sh_111 rfl ?_
      refine kr_icmp_ne d_X10_nextToken_106 ?_ ?_
      · refine kr_aload0 d_X10_nextToken_117 ?_
        refine kr_aload0 d_X10_nextToken_118 ?_
        refine kr_getI d_X10_nextToken_119 fl_X10_252 sh_111 rfl ?_
        refine kr_iv_i (As := [.int (h8 111 22)]) d_X10_nextToken_122 cl_X10_255 (m_X10_isLetter (h8 111 22) h8) sh_111 (Nat.le_of_ble_eq_true rfl) rfl (Nat.le_of_ble_eq_true rfl) (fun r10 h9 => ?_)
        refine kr_if_eq d_X10_nextToken_125 ?_ ?_
        · refine kr_aload0 d_X10_nextToken_198 ?_
          refine kr_aload0 d_X10_nextToken_199 ?_
          refine kr_getI d_X10_nextToken_200 fl_X10_252 sh_111 rfl ?_
          refine kr_iv_i (As := [.int (h9 111 22)]) d_X10_nextToken_203 cl_X10_261 (m_X10_isDigit (h9 111 22) h9) sh_111 (Nat.le_of_ble_eq_true rfl) rfl (Nat.le_of_ble_eq_true rfl) (fun r12 h11 => ?_)
          refine kr_if_eq d_X10_nextToken_206 ?_ ?_
          · refine kr_aload0 d_X10_nextToken_311 ?_
            refine kr_const (v := 3) d_X10_nextToken_312 ?_
            refine kr_putI d_X10_nextToken_313 fp_X10_249 sh_111 rfl rfl rfl ?_
            refine kr_hl (fun h13 => ?_)
            refine kr_aload0 d_X10_nextToken_316 ?_
            refine kr_aload0 d_X10_nextToken_317 ?_
            refine kr_getR (q := 130) d_X10_nextToken_318 fl_X10_64 sh_111 rfl ?_
            refine kr_aload0 d_X10_nextToken_321 ?_
            refine kr_getI d_X10_nextToken_322 fl_X10_252 sh_111 rfl ?_
            refine kr_iaload d_X10_nextToken_325 sh_130 ?_
            refine kr_putI d_X10_nextToken_326 fp_X10_258 sh_111 rfl rfl rfl ?_
            refine kr_hl (fun h14 => ?_)
            refine kr_aload0 d_X10_nextToken_329 ?_
            refine kr_dup d_X10_nextToken_330 rfl ?_
            refine kr_getI d_X10_nextToken_331 fl_X10_246 sh_111 rfl ?_
            refine kr_const (v := 1) d_X10_nextToken_334 ?_
            refine kr_iadd d_X10_nextToken_335 ?_
            refine kr_putI d_X10_nextToken_336 fp_X10_246 sh_111 rfl rfl rfl ?_
            refine kr_hl (fun h15 => ?_)
            exact kr_return d_X10_nextToken_339 rfl
          · refine kr_aload0 d_X10_nextToken_209 ?_
            refine kr_const (v := 0) d_X10_nextToken_210 ?_
            refine kr_putI d_X10_nextToken_211 fp_X10_264 sh_111 rfl rfl rfl ?_
            refine kr_hl (fun h16 => ?_)
            refine s_f_X10_nextToken_L214 y6 kv_fu  h16 _ (fun  h23 => ?_)
            refine kr_aload0 d_X10_nextToken_282 ?_
            refine kr_iload1 d_X10_nextToken_283 ?_
            refine kr_if_ne d_X10_nextToken_284 ?_ ?_
            · refine kr_const (v := 4) d_X10_nextToken_300 ?_
              refine kr_goto d_X10_nextToken_301 ?_
              refine kr_putI d_X10_nextToken_305 fp_X10_249 sh_111 rfl rfl rfl ?_
              refine kr_hl (fun h24 => ?_)
              refine kr_goto d_X10_nextToken_308 ?_
              exact kr_return d_X10_nextToken_339 rfl
            · refine kr_aload0 d_X10_nextToken_287 ?_
              refine kr_getI d_X10_nextToken_288 fl_X10_246 sh_111 rfl ?_
              refine kr_aload0 d_X10_nextToken_291 ?_
              refine kr_getI d_X10_nextToken_292 fl_X10_252 sh_111 rfl ?_
              refine kr_isub d_X10_nextToken_295 ?_
              refine kr_const (v := 4) d_X10_nextToken_296 ?_
              refine kr_icmp_le d_X10_nextToken_297 ?_ ?_
              · refine kr_const (v := 2) d_X10_nextToken_304 ?_
                refine kr_putI d_X10_nextToken_305 fp_X10_249 sh_111 rfl rfl rfl ?_
                refine kr_hl (fun h25 => ?_)
                refine kr_goto d_X10_nextToken_308 ?_
                exact kr_return d_X10_nextToken_339 rfl
              · refine kr_const (v := 4) d_X10_nextToken_300 ?_
                refine kr_goto d_X10_nextToken_301 ?_
                refine kr_putI d_X10_nextToken_305 fp_X10_249 sh_111 rfl rfl rfl ?_
                refine kr_hl (fun h26 => ?_)
                refine kr_goto d_X10_nextToken_308 ?_
                exact kr_return d_X10_nextToken_339 rfl
        · refine s_f_X10_nextToken_L128 y6 kv_fu  h9 _ (fun  h30 => ?_)
          refine kr_aload0 d_X10_nextToken_152 ?_
          refine kr_iload1 d_X10_nextToken_153 ?_
          refine kr_jn (P := fun J162 => ∀ (y31 : Int32), ∀ (h32 : kv_H), kv_S kv_u kK_X10_nextToken 162 [some (.ref 111), none, none] [.int y31, .ref 111] h32 (J162 y31 h32)) (fun y31 h32 => ?_) (fun J162 hJ162 => ?_)
          · refine kr_putI d_X10_nextToken_162 fp_X10_249 sh_111 rfl rfl rfl ?_
            refine kr_hl (fun h33 => ?_)
            refine kr_aload0 d_X10_nextToken_165 ?_
            refine kr_aload0 d_X10_nextToken_166 ?_
            refine kr_getI d_X10_nextToken_167 fl_X10_246 sh_111 rfl ?_
            refine kr_aload0 d_X10_nextToken_170 ?_
            refine kr_getI d_X10_nextToken_171 fl_X10_252 sh_111 rfl ?_
            refine kr_isub d_X10_nextToken_174 ?_
            refine kr_const (v := 1) d_X10_nextToken_175 ?_
            refine kr_icmp_ne d_X10_nextToken_176 ?_ ?_
            · refine kr_const (v := 0) d_X10_nextToken_191 ?_
              refine kr_putI d_X10_nextToken_192 fp_X10_258 sh_111 rfl rfl rfl ?_
              refine kr_hl (fun h34 => ?_)
              refine kr_goto d_X10_nextToken_195 ?_
              exact kr_return d_X10_nextToken_339 rfl
            · refine kr_aload0 d_X10_nextToken_179 ?_
              refine kr_getR (q := 130) d_X10_nextToken_180 fl_X10_64 sh_111 rfl ?_
              refine kr_aload0 d_X10_nextToken_183 ?_
              refine kr_getI d_X10_nextToken_184 fl_X10_252 sh_111 rfl ?_
              refine kr_iaload d_X10_nextToken_187 sh_130 ?_
              refine kr_goto d_X10_nextToken_188 ?_
              refine kr_putI d_X10_nextToken_192 fp_X10_258 sh_111 rfl rfl rfl ?_
              refine kr_hl (fun h35 => ?_)
              refine kr_goto d_X10_nextToken_195 ?_
              exact kr_return d_X10_nextToken_339 rfl
          refine kr_if_eq d_X10_nextToken_154 ?_ ?_
          · refine kr_const (v := 1) d_X10_nextToken_161 ?_
            refine kr_kill1 ?_
            exact hJ162 1 h30
          · refine kr_const (v := 4) d_X10_nextToken_157 ?_
            refine kr_goto d_X10_nextToken_158 ?_
            refine kr_kill1 ?_
            exact hJ162 4 h30
      · refine kr_aload0 d_X10_nextToken_109 ?_
        refine kr_const (v := 0) d_X10_nextToken_110 ?_
        refine kr_putI d_X10_nextToken_111 fp_X10_249 sh_111 rfl rfl rfl ?_
        refine kr_hl (fun h36 => ?_)
        refine kr_goto d_X10_nextToken_114 ?_
        exact kr_return d_X10_nextToken_339 rfl
    refine kr_jn (P := fun J88 =>  ∀ (h37 : kv_H), kv_S kv_u kK_X10_nextToken 88 [some (.ref 111), none, none] [] h37 (J88  h37)) (fun  h37 => ?_) (fun J88 hJ88 => ?_)
    · refine kr_const (v := 0) d_X10_nextToken_88 ?_
      exact hJ89 0 h37
    refine kr_if_eq d_X10_nextToken_73 ?_ ?_
    · refine kr_kill1 ?_
      refine kr_kill2 ?_
      exact hJ88 h5
    · refine kr_iload2 d_X10_nextToken_76 ?_
      refine kr_aload0 d_X10_nextToken_77 ?_
      refine kr_getI d_X10_nextToken_78 fl_X10_246 sh_111 rfl ?_
      refine kr_icmp_ne d_X10_nextToken_81 ?_ ?_
      · refine kr_kill1 ?_
        refine kr_kill2 ?_
        exact hJ88 h5
      · refine kr_const (v := 1) d_X10_nextToken_84 ?_
        refine kr_goto d_X10_nextToken_85 ?_
        refine kr_kill1 ?_
        refine kr_kill2 ?_
        exact hJ89 1 h5
  refine kr_jn (P := fun J27 =>  ∀ (h38 : kv_H), kv_S kv_u kK_X10_nextToken 27 [some (.ref 111), none, none] [] h38 (J27  h38)) (fun  h38 => ?_) (fun J27 hJ27 => ?_)
  · refine kr_const (v := 0) d_X10_nextToken_27 ?_
    exact hJ28 0 h38
  refine kr_if_le d_X10_nextToken_4 ?_ ?_
  · exact hJ27 h
  · refine kr_aload0 d_X10_nextToken_7 ?_
    refine kr_getI d_X10_nextToken_8 fl_X10_249 sh_111 rfl ?_
    refine kr_const (v := 1) d_X10_nextToken_11 ?_
    refine kr_icmp_eq d_X10_nextToken_12 ?_ ?_
    · refine kr_const (v := 1) d_X10_nextToken_23 ?_
      refine kr_goto d_X10_nextToken_24 ?_
      exact hJ28 1 h
    · refine kr_aload0 d_X10_nextToken_15 ?_
      refine kr_getI d_X10_nextToken_16 fl_X10_249 sh_111 rfl ?_
      refine kr_const (v := 2) d_X10_nextToken_19 ?_
      refine kr_icmp_ne d_X10_nextToken_20 ?_ ?_
      · exact hJ27 h
      · refine kr_const (v := 1) d_X10_nextToken_23 ?_
        refine kr_goto d_X10_nextToken_24 ?_
        exact hJ28 1 h

/-! X10_isSign -/
def f_X10_isSign (x1 : Int32) (h : kv_H) : Option (Int32 × kv_H) :=
  if (h 111 24) = (3 : Int32) then (if (h 111 26) = x1 then (some (1, h))
    else (some (0, h)))
  else (some (0, h))
set_option maxRecDepth 20000 in
theorem m_X10_isSign (x1 : Int32) (h : kv_H) : kv_M kv_i kK_X10_isSign [.ref 111, .int x1] h (f_X10_isSign x1 h) := by
  refine kv_met (ls := [some (.ref 111), some (.int x1)]) (show plainName RX10 = true by decide +kernel) (fun _ => rfl) (fun _ => Nat.le_of_ble_eq_true rfl) ?_
  unfold f_X10_isSign
  refine kr_aload0 d_X10_isSign_0 ?_
  refine kr_getI d_X10_isSign_1 fl_X10_249 sh_111 rfl ?_
  refine kr_const (v := 3) d_X10_isSign_4 ?_
  refine kr_icmp_ne d_X10_isSign_5 ?_ ?_
  · refine kr_const (v := 0) d_X10_isSign_20 ?_
    exact kr_zreturnK (by decide) d_X10_isSign_21 rfl
  · refine kr_aload0 d_X10_isSign_8 ?_
    refine kr_getI d_X10_isSign_9 fl_X10_258 sh_111 rfl ?_
    refine kr_iload1 d_X10_isSign_12 ?_
    refine kr_icmp_ne d_X10_isSign_13 ?_ ?_
    · refine kr_const (v := 0) d_X10_isSign_20 ?_
      exact kr_zreturnK (by decide) d_X10_isSign_21 rfl
    · refine kr_const (v := 1) d_X10_isSign_16 ?_
      refine kr_goto d_X10_isSign_17 ?_
      exact kr_zreturnK (by decide) d_X10_isSign_21 rfl

/-! X10_isWordAt -/
def f_X10_isWordAt (x1 : Int32) (x2 : Int32) (x3 : Int32) (x4 : Int32) (h : kv_H) : Option (Int32 × kv_H) :=
  kv_jn (fun (y1 : Int32) (h2 : kv_H) =>
  if (h2 111 24) = (1 : Int32) then (if ((h2 111 23) - (h2 111 22)) = y1 then (kv_k (h2 111 22) 96 (if (h2 130 (h2 111 22).toNatClampNeg) = x1 then (kv_k ((h2 111 22) + 1) 96 (if (h2 130 ((h2 111 22) + 1).toNatClampNeg) = x2 then (kv_k ((h2 111 22) + 2) 96 (if (h2 130 ((h2 111 22) + 2).toNatClampNeg) = x3 then (if x4 = 0 then (some (1, h2))
              else (kv_k ((h2 111 22) + 3) 96 (if (h2 130 ((h2 111 22) + 3).toNatClampNeg) = x4 then (some (1, h2))
                else (some (0, h2)))))
            else (some (0, h2))))
          else (some (0, h2))))
        else (some (0, h2))))
      else (some (0, h2)))
    else (some (0, h2))) (fun (J10 : Int32 → kv_H → Option (Int32 × kv_H)) =>
  if x4 = 0 then (J10 3 h)
  else (J10 4 h))
set_option maxRecDepth 20000 in
theorem m_X10_isWordAt (x1 : Int32) (x2 : Int32) (x3 : Int32) (x4 : Int32) (h : kv_H) : kv_M kv_i kK_X10_isWordAt [.ref 111, .int x1, .int x2, .int x3, .int x4] h (f_X10_isWordAt x1 x2 x3 x4 h) := by
  refine kv_met (ls := [some (.ref 111), some (.int x1), some (.int x2), some (.int x3), some (.int x4), none]) (show plainName RX10 = true by decide +kernel) (fun _ => rfl) (fun _ => Nat.le_of_ble_eq_true rfl) ?_
  unfold f_X10_isWordAt
  refine kr_iload4 d_X10_isWordAt_0 ?_
  refine kr_jn (P := fun J10 => ∀ (y1 : Int32), ∀ (h2 : kv_H), kv_S kv_i kK_X10_isWordAt 10 [some (.ref 111), some (.int x1), some (.int x2), some (.int x3), some (.int x4), none] [.int y1] h2 (J10 y1 h2)) (fun y1 h2 => ?_) (fun J10 hJ10 => ?_)
  · refine kr_istore5 d_X10_isWordAt_10 (Nat.le_of_ble_eq_true rfl) kv_c1i ?_
    refine kr_aload0 d_X10_isWordAt_12 ?_
    refine kr_getI d_X10_isWordAt_13 fl_X10_249 sh_111 rfl ?_
    refine kr_const (v := 1) d_X10_isWordAt_16 ?_
    refine kr_icmp_ne d_X10_isWordAt_17 ?_ ?_
    · refine kr_const (v := 0) d_X10_isWordAt_102 ?_
      exact kr_zreturnK (by decide) d_X10_isWordAt_103 rfl
    · refine kr_aload0 d_X10_isWordAt_20 ?_
      refine kr_getI d_X10_isWordAt_21 fl_X10_246 sh_111 rfl ?_
      refine kr_aload0 d_X10_isWordAt_24 ?_
      refine kr_getI d_X10_isWordAt_25 fl_X10_252 sh_111 rfl ?_
      refine kr_isub d_X10_isWordAt_28 ?_
      refine kr_iload5 d_X10_isWordAt_29 ?_
      refine kr_icmp_ne d_X10_isWordAt_31 ?_ ?_
      · refine kr_const (v := 0) d_X10_isWordAt_102 ?_
        exact kr_zreturnK (by decide) d_X10_isWordAt_103 rfl
      · refine kr_aload0 d_X10_isWordAt_34 ?_
        refine kr_getR (q := 130) d_X10_isWordAt_35 fl_X10_64 sh_111 rfl ?_
        refine kr_aload0 d_X10_isWordAt_38 ?_
        refine kr_getI d_X10_isWordAt_39 fl_X10_252 sh_111 rfl ?_
        refine kr_iaload d_X10_isWordAt_42 sh_130 ?_
        refine kr_iload1 d_X10_isWordAt_43 ?_
        refine kr_icmp_ne d_X10_isWordAt_44 ?_ ?_
        · refine kr_const (v := 0) d_X10_isWordAt_102 ?_
          exact kr_zreturnK (by decide) d_X10_isWordAt_103 rfl
        · refine kr_aload0 d_X10_isWordAt_47 ?_
          refine kr_getR (q := 130) d_X10_isWordAt_48 fl_X10_64 sh_111 rfl ?_
          refine kr_aload0 d_X10_isWordAt_51 ?_
          refine kr_getI d_X10_isWordAt_52 fl_X10_252 sh_111 rfl ?_
          refine kr_const (v := 1) d_X10_isWordAt_55 ?_
          refine kr_iadd d_X10_isWordAt_56 ?_
          refine kr_iaload d_X10_isWordAt_57 sh_130 ?_
          refine kr_iload2 d_X10_isWordAt_58 ?_
          refine kr_icmp_ne d_X10_isWordAt_59 ?_ ?_
          · refine kr_const (v := 0) d_X10_isWordAt_102 ?_
            exact kr_zreturnK (by decide) d_X10_isWordAt_103 rfl
          · refine kr_aload0 d_X10_isWordAt_62 ?_
            refine kr_getR (q := 130) d_X10_isWordAt_63 fl_X10_64 sh_111 rfl ?_
            refine kr_aload0 d_X10_isWordAt_66 ?_
            refine kr_getI d_X10_isWordAt_67 fl_X10_252 sh_111 rfl ?_
            refine kr_const (v := 2) d_X10_isWordAt_70 ?_
            refine kr_iadd d_X10_isWordAt_71 ?_
            refine kr_iaload d_X10_isWordAt_72 sh_130 ?_
            refine kr_iload3 d_X10_isWordAt_73 ?_
            refine kr_icmp_ne d_X10_isWordAt_74 ?_ ?_
            · refine kr_const (v := 0) d_X10_isWordAt_102 ?_
              exact kr_zreturnK (by decide) d_X10_isWordAt_103 rfl
            · refine kr_iload4 d_X10_isWordAt_77 ?_
              refine kr_if_eq d_X10_isWordAt_79 ?_ ?_
              · refine kr_const (v := 1) d_X10_isWordAt_98 ?_
                refine kr_goto d_X10_isWordAt_99 ?_
                exact kr_zreturnK (by decide) d_X10_isWordAt_103 rfl
              · refine kr_aload0 d_X10_isWordAt_82 ?_
                refine kr_getR (q := 130) d_X10_isWordAt_83 fl_X10_64 sh_111 rfl ?_
                refine kr_aload0 d_X10_isWordAt_86 ?_
                refine kr_getI d_X10_isWordAt_87 fl_X10_252 sh_111 rfl ?_
                refine kr_const (v := 3) d_X10_isWordAt_90 ?_
                refine kr_iadd d_X10_isWordAt_91 ?_
                refine kr_iaload d_X10_isWordAt_92 sh_130 ?_
                refine kr_iload4 d_X10_isWordAt_93 ?_
                refine kr_icmp_ne d_X10_isWordAt_95 ?_ ?_
                · refine kr_const (v := 0) d_X10_isWordAt_102 ?_
                  exact kr_zreturnK (by decide) d_X10_isWordAt_103 rfl
                · refine kr_const (v := 1) d_X10_isWordAt_98 ?_
                  refine kr_goto d_X10_isWordAt_99 ?_
                  exact kr_zreturnK (by decide) d_X10_isWordAt_103 rfl
  refine kr_if_ne d_X10_isWordAt_2 ?_ ?_
  · refine kr_const (v := 4) d_X10_isWordAt_9 ?_
    exact hJ10 4 h
  · refine kr_const (v := 3) d_X10_isWordAt_5 ?_
    refine kr_goto d_X10_isWordAt_6 ?_
    exact hJ10 3 h

/-! X10_isLong -/
def f_X10_isLong (x1 : Int32) (x2 : Int32) (x3 : Int32) (x4 : Int32) (x5 : Int32) (x6 : Int32) (h : kv_H) : Option (Int32 × kv_H) :=
  kv_jn (fun (y1 : Int32) (h2 : kv_H) =>
  if (h2 111 24) = (1 : Int32) then (if ((h2 111 23) - (h2 111 22)) = y1 then (kv_k (h2 111 22) 96 (if (h2 130 (h2 111 22).toNatClampNeg) = x1 then (kv_k ((h2 111 22) + 1) 96 (if (h2 130 ((h2 111 22) + 1).toNatClampNeg) = x2 then (kv_k ((h2 111 22) + 2) 96 (if (h2 130 ((h2 111 22) + 2).toNatClampNeg) = x3 then (kv_k ((h2 111 22) + 3) 96 (if (h2 130 ((h2 111 22) + 3).toNatClampNeg) = x4 then (kv_k ((h2 111 22) + 4) 96 (if (h2 130 ((h2 111 22) + 4).toNatClampNeg) = x5 then (if x6 = 0 then (some (1, h2))
                  else (kv_k ((h2 111 22) + 5) 96 (if (h2 130 ((h2 111 22) + 5).toNatClampNeg) = x6 then (some (1, h2))
                    else (some (0, h2)))))
                else (some (0, h2))))
              else (some (0, h2))))
            else (some (0, h2))))
          else (some (0, h2))))
        else (some (0, h2))))
      else (some (0, h2)))
    else (some (0, h2))) (fun (J11 : Int32 → kv_H → Option (Int32 × kv_H)) =>
  if x6 = 0 then (J11 5 h)
  else (J11 6 h))
set_option maxRecDepth 20000 in
theorem m_X10_isLong (x1 : Int32) (x2 : Int32) (x3 : Int32) (x4 : Int32) (x5 : Int32) (x6 : Int32) (h : kv_H) : kv_M kv_i kK_X10_isLong [.ref 111, .int x1, .int x2, .int x3, .int x4, .int x5, .int x6] h (f_X10_isLong x1 x2 x3 x4 x5 x6 h) := by
  refine kv_met (ls := [some (.ref 111), some (.int x1), some (.int x2), some (.int x3), some (.int x4), some (.int x5), some (.int x6), none]) (show plainName RX10 = true by decide +kernel) (fun _ => rfl) (fun _ => Nat.le_of_ble_eq_true rfl) ?_
  unfold f_X10_isLong
  refine kr_iload6 d_X10_isLong_0 ?_
  refine kr_jn (P := fun J11 => ∀ (y1 : Int32), ∀ (h2 : kv_H), kv_S kv_i kK_X10_isLong 11 [some (.ref 111), some (.int x1), some (.int x2), some (.int x3), some (.int x4), some (.int x5), some (.int x6), none] [.int y1] h2 (J11 y1 h2)) (fun y1 h2 => ?_) (fun J11 hJ11 => ?_)
  · refine kr_istore7 d_X10_isLong_11 (Nat.le_of_ble_eq_true rfl) kv_c1i ?_
    refine kr_aload0 d_X10_isLong_13 ?_
    refine kr_getI d_X10_isLong_14 fl_X10_249 sh_111 rfl ?_
    refine kr_const (v := 1) d_X10_isLong_17 ?_
    refine kr_icmp_ne d_X10_isLong_18 ?_ ?_
    · refine kr_const (v := 0) d_X10_isLong_135 ?_
      exact kr_zreturnK (by decide) d_X10_isLong_136 rfl
    · refine kr_aload0 d_X10_isLong_21 ?_
      refine kr_getI d_X10_isLong_22 fl_X10_246 sh_111 rfl ?_
      refine kr_aload0 d_X10_isLong_25 ?_
      refine kr_getI d_X10_isLong_26 fl_X10_252 sh_111 rfl ?_
      refine kr_isub d_X10_isLong_29 ?_
      refine kr_iload7 d_X10_isLong_30 ?_
      refine kr_icmp_ne d_X10_isLong_32 ?_ ?_
      · refine kr_const (v := 0) d_X10_isLong_135 ?_
        exact kr_zreturnK (by decide) d_X10_isLong_136 rfl
      · refine kr_aload0 d_X10_isLong_35 ?_
        refine kr_getR (q := 130) d_X10_isLong_36 fl_X10_64 sh_111 rfl ?_
        refine kr_aload0 d_X10_isLong_39 ?_
        refine kr_getI d_X10_isLong_40 fl_X10_252 sh_111 rfl ?_
        refine kr_iaload d_X10_isLong_43 sh_130 ?_
        refine kr_iload1 d_X10_isLong_44 ?_
        refine kr_icmp_ne d_X10_isLong_45 ?_ ?_
        · refine kr_const (v := 0) d_X10_isLong_135 ?_
          exact kr_zreturnK (by decide) d_X10_isLong_136 rfl
        · refine kr_aload0 d_X10_isLong_48 ?_
          refine kr_getR (q := 130) d_X10_isLong_49 fl_X10_64 sh_111 rfl ?_
          refine kr_aload0 d_X10_isLong_52 ?_
          refine kr_getI d_X10_isLong_53 fl_X10_252 sh_111 rfl ?_
          refine kr_const (v := 1) d_X10_isLong_56 ?_
          refine kr_iadd d_X10_isLong_57 ?_
          refine kr_iaload d_X10_isLong_58 sh_130 ?_
          refine kr_iload2 d_X10_isLong_59 ?_
          refine kr_icmp_ne d_X10_isLong_60 ?_ ?_
          · refine kr_const (v := 0) d_X10_isLong_135 ?_
            exact kr_zreturnK (by decide) d_X10_isLong_136 rfl
          · refine kr_aload0 d_X10_isLong_63 ?_
            refine kr_getR (q := 130) d_X10_isLong_64 fl_X10_64 sh_111 rfl ?_
            refine kr_aload0 d_X10_isLong_67 ?_
            refine kr_getI d_X10_isLong_68 fl_X10_252 sh_111 rfl ?_
            refine kr_const (v := 2) d_X10_isLong_71 ?_
            refine kr_iadd d_X10_isLong_72 ?_
            refine kr_iaload d_X10_isLong_73 sh_130 ?_
            refine kr_iload3 d_X10_isLong_74 ?_
            refine kr_icmp_ne d_X10_isLong_75 ?_ ?_
            · refine kr_const (v := 0) d_X10_isLong_135 ?_
              exact kr_zreturnK (by decide) d_X10_isLong_136 rfl
            · refine kr_aload0 d_X10_isLong_78 ?_
              refine kr_getR (q := 130) d_X10_isLong_79 fl_X10_64 sh_111 rfl ?_
              refine kr_aload0 d_X10_isLong_82 ?_
              refine kr_getI d_X10_isLong_83 fl_X10_252 sh_111 rfl ?_
              refine kr_const (v := 3) d_X10_isLong_86 ?_
              refine kr_iadd d_X10_isLong_87 ?_
              refine kr_iaload d_X10_isLong_88 sh_130 ?_
              refine kr_iload4 d_X10_isLong_89 ?_
              refine kr_icmp_ne d_X10_isLong_91 ?_ ?_
              · refine kr_const (v := 0) d_X10_isLong_135 ?_
                exact kr_zreturnK (by decide) d_X10_isLong_136 rfl
              · refine kr_aload0 d_X10_isLong_94 ?_
                refine kr_getR (q := 130) d_X10_isLong_95 fl_X10_64 sh_111 rfl ?_
                refine kr_aload0 d_X10_isLong_98 ?_
                refine kr_getI d_X10_isLong_99 fl_X10_252 sh_111 rfl ?_
                refine kr_const (v := 4) d_X10_isLong_102 ?_
                refine kr_iadd d_X10_isLong_103 ?_
                refine kr_iaload d_X10_isLong_104 sh_130 ?_
                refine kr_iload5 d_X10_isLong_105 ?_
                refine kr_icmp_ne d_X10_isLong_107 ?_ ?_
                · refine kr_const (v := 0) d_X10_isLong_135 ?_
                  exact kr_zreturnK (by decide) d_X10_isLong_136 rfl
                · refine kr_iload6 d_X10_isLong_110 ?_
                  refine kr_if_eq d_X10_isLong_112 ?_ ?_
                  · refine kr_const (v := 1) d_X10_isLong_131 ?_
                    refine kr_goto d_X10_isLong_132 ?_
                    exact kr_zreturnK (by decide) d_X10_isLong_136 rfl
                  · refine kr_aload0 d_X10_isLong_115 ?_
                    refine kr_getR (q := 130) d_X10_isLong_116 fl_X10_64 sh_111 rfl ?_
                    refine kr_aload0 d_X10_isLong_119 ?_
                    refine kr_getI d_X10_isLong_120 fl_X10_252 sh_111 rfl ?_
                    refine kr_const (v := 5) d_X10_isLong_123 ?_
                    refine kr_iadd d_X10_isLong_124 ?_
                    refine kr_iaload d_X10_isLong_125 sh_130 ?_
                    refine kr_iload6 d_X10_isLong_126 ?_
                    refine kr_icmp_ne d_X10_isLong_128 ?_ ?_
                    · refine kr_const (v := 0) d_X10_isLong_135 ?_
                      exact kr_zreturnK (by decide) d_X10_isLong_136 rfl
                    · refine kr_const (v := 1) d_X10_isLong_131 ?_
                      refine kr_goto d_X10_isLong_132 ?_
                      exact kr_zreturnK (by decide) d_X10_isLong_136 rfl
  refine kr_if_ne d_X10_isLong_2 ?_ ?_
  · refine kr_const (v := 6) d_X10_isLong_9 ?_
    exact hJ11 6 h
  · refine kr_const (v := 5) d_X10_isLong_5 ?_
    refine kr_goto d_X10_isLong_6 ?_
    exact hJ11 5 h

/-! X10_key -/
def f_X10_key (h : kv_H) : Option (Int32 × kv_H) :=
  kv_b (f_X10_isWordAt 114 111 111 109 h) (fun r2 h1 =>
  if r2 = 0 then (kv_b (f_X10_isWordAt 109 105 115 115 h1) (fun r4 h3 =>
    if r4 = 0 then (kv_b (f_X10_isLong 116 104 114 111 119 0 h3) (fun r6 h5 =>
      if r6 = 0 then (some ((-1), h5))
      else (some (2, h5))))
    else (some (1, h3))))
  else (some (0, h1)))
set_option maxRecDepth 20000 in
theorem m_X10_key (h : kv_H) : kv_M kv_i kK_X10_key [.ref 111] h (f_X10_key h) := by
  refine kv_met (ls := [some (.ref 111)]) (show plainName RX10 = true by decide +kernel) (fun _ => rfl) (fun _ => Nat.le_of_ble_eq_true rfl) ?_
  unfold f_X10_key
  refine kr_aload0 d_X10_key_0 ?_
  refine kr_const (v := 114) d_X10_key_1 ?_
  refine kr_const (v := 111) d_X10_key_3 ?_
  refine kr_const (v := 111) d_X10_key_5 ?_
  refine kr_const (v := 109) d_X10_key_7 ?_
  refine kr_iv_i (As := [.int 114, .int 111, .int 111, .int 109]) d_X10_key_9 cl_X10_267 (m_X10_isWordAt 114 111 111 109 h) sh_111 (Nat.le_of_ble_eq_true rfl) rfl (Nat.le_of_ble_eq_true rfl) (fun r2 h1 => ?_)
  refine kr_if_eq d_X10_key_12 ?_ ?_
  · refine kr_aload0 d_X10_key_17 ?_
    refine kr_const (v := 109) d_X10_key_18 ?_
    refine kr_const (v := 105) d_X10_key_20 ?_
    refine kr_const (v := 115) d_X10_key_22 ?_
    refine kr_const (v := 115) d_X10_key_24 ?_
    refine kr_iv_i (As := [.int 109, .int 105, .int 115, .int 115]) d_X10_key_26 cl_X10_267 (m_X10_isWordAt 109 105 115 115 h1) sh_111 (Nat.le_of_ble_eq_true rfl) rfl (Nat.le_of_ble_eq_true rfl) (fun r4 h3 => ?_)
    refine kr_if_eq d_X10_key_29 ?_ ?_
    · refine kr_aload0 d_X10_key_34 ?_
      refine kr_const (v := 116) d_X10_key_35 ?_
      refine kr_const (v := 104) d_X10_key_37 ?_
      refine kr_const (v := 114) d_X10_key_39 ?_
      refine kr_const (v := 111) d_X10_key_41 ?_
      refine kr_const (v := 119) d_X10_key_43 ?_
      refine kr_const (v := 0) d_X10_key_45 ?_
      refine kr_iv_i (As := [.int 116, .int 104, .int 114, .int 111, .int 119, .int 0]) d_X10_key_46 cl_X10_271 (m_X10_isLong 116 104 114 111 119 0 h3) sh_111 (Nat.le_of_ble_eq_true rfl) rfl (Nat.le_of_ble_eq_true rfl) (fun r6 h5 => ?_)
      refine kr_if_eq d_X10_key_49 ?_ ?_
      · refine kr_const (v := (-1)) d_X10_key_56 ?_
        exact kr_ireturn d_X10_key_57 rfl
      · refine kr_const (v := 2) d_X10_key_52 ?_
        refine kr_goto d_X10_key_53 ?_
        exact kr_ireturn d_X10_key_57 rfl
    · refine kr_const (v := 1) d_X10_key_32 ?_
      exact kr_ireturn d_X10_key_33 rfl
  · refine kr_const (v := 0) d_X10_key_15 ?_
    exact kr_ireturn d_X10_key_16 rfl

/-! X10_isName -/
def f_X10_isName (x1 : Int32) (x2 : Int32) (h : kv_H) : Option (Int32 × kv_H) :=
  kv_sw x1 [0, 1] [(if x2 = (115 : Int32) then (some (1, h))
    else (if x2 = (110 : Int32) then (some (1, h))
      else (some (0, h)))),
  (if x2 = (108 : Int32) then (some (1, h))
    else (if x2 = (110 : Int32) then (some (1, h))
      else (if x2 = (115 : Int32) then (some (1, h))
        else (some (0, h)))))] (if x2 = (97 : Int32) then (some (1, h))
    else (if x2 = (116 : Int32) then (some (1, h))
      else (if x2 = (114 : Int32) then (some (1, h))
        else (if x2 = (110 : Int32) then (some (1, h))
          else (some (0, h))))))
set_option maxRecDepth 20000 in
theorem m_X10_isName (x1 : Int32) (x2 : Int32) (h : kv_H) : kv_M kv_i kK_X10_isName [.int x1, .int x2] h (f_X10_isName x1 x2 h) := by
  refine kv_met (ls := [some (.int x1), some (.int x2)]) (show plainName RX10 = true by decide +kernel) (fun _ => rfl) (fun _ => Nat.le_of_ble_eq_true rfl) ?_
  unfold f_X10_isName
  refine kr_iload0 d_X10_isName_0 ?_
  refine kr_sw d_X10_isName_1 ?_ ⟨?_, ?_, trivial⟩
  · refine kr_iload1 d_X10_isName_70 ?_
    refine kr_const (v := 97) d_X10_isName_71 ?_
    refine kr_icmp_eq d_X10_isName_73 ?_ ?_
    · refine kr_const (v := 1) d_X10_isName_94 ?_
      refine kr_goto d_X10_isName_95 ?_
      exact kr_zreturnK (by decide) d_X10_isName_99 rfl
    · refine kr_iload1 d_X10_isName_76 ?_
      refine kr_const (v := 116) d_X10_isName_77 ?_
      refine kr_icmp_eq d_X10_isName_79 ?_ ?_
      · refine kr_const (v := 1) d_X10_isName_94 ?_
        refine kr_goto d_X10_isName_95 ?_
        exact kr_zreturnK (by decide) d_X10_isName_99 rfl
      · refine kr_iload1 d_X10_isName_82 ?_
        refine kr_const (v := 114) d_X10_isName_83 ?_
        refine kr_icmp_eq d_X10_isName_85 ?_ ?_
        · refine kr_const (v := 1) d_X10_isName_94 ?_
          refine kr_goto d_X10_isName_95 ?_
          exact kr_zreturnK (by decide) d_X10_isName_99 rfl
        · refine kr_iload1 d_X10_isName_88 ?_
          refine kr_const (v := 110) d_X10_isName_89 ?_
          refine kr_icmp_ne d_X10_isName_91 ?_ ?_
          · refine kr_const (v := 0) d_X10_isName_98 ?_
            exact kr_zreturnK (by decide) d_X10_isName_99 rfl
          · refine kr_const (v := 1) d_X10_isName_94 ?_
            refine kr_goto d_X10_isName_95 ?_
            exact kr_zreturnK (by decide) d_X10_isName_99 rfl
  · refine kr_iload1 d_X10_isName_28 ?_
    refine kr_const (v := 115) d_X10_isName_29 ?_
    refine kr_icmp_eq d_X10_isName_31 ?_ ?_
    · refine kr_const (v := 1) d_X10_isName_40 ?_
      refine kr_goto d_X10_isName_41 ?_
      exact kr_zreturnK (by decide) d_X10_isName_45 rfl
    · refine kr_iload1 d_X10_isName_34 ?_
      refine kr_const (v := 110) d_X10_isName_35 ?_
      refine kr_icmp_ne d_X10_isName_37 ?_ ?_
      · refine kr_const (v := 0) d_X10_isName_44 ?_
        exact kr_zreturnK (by decide) d_X10_isName_45 rfl
      · refine kr_const (v := 1) d_X10_isName_40 ?_
        refine kr_goto d_X10_isName_41 ?_
        exact kr_zreturnK (by decide) d_X10_isName_45 rfl
  · refine kr_iload1 d_X10_isName_46 ?_
    refine kr_const (v := 108) d_X10_isName_47 ?_
    refine kr_icmp_eq d_X10_isName_49 ?_ ?_
    · refine kr_const (v := 1) d_X10_isName_64 ?_
      refine kr_goto d_X10_isName_65 ?_
      exact kr_zreturnK (by decide) d_X10_isName_69 rfl
    · refine kr_iload1 d_X10_isName_52 ?_
      refine kr_const (v := 110) d_X10_isName_53 ?_
      refine kr_icmp_eq d_X10_isName_55 ?_ ?_
      · refine kr_const (v := 1) d_X10_isName_64 ?_
        refine kr_goto d_X10_isName_65 ?_
        exact kr_zreturnK (by decide) d_X10_isName_69 rfl
      · refine kr_iload1 d_X10_isName_58 ?_
        refine kr_const (v := 115) d_X10_isName_59 ?_
        refine kr_icmp_ne d_X10_isName_61 ?_ ?_
        · refine kr_const (v := 0) d_X10_isName_68 ?_
          exact kr_zreturnK (by decide) d_X10_isName_69 rfl
        · refine kr_const (v := 1) d_X10_isName_64 ?_
          refine kr_goto d_X10_isName_65 ?_
          exact kr_zreturnK (by decide) d_X10_isName_69 rfl

/-! X10_step -/
def f_X10_step (x1 : Int32) (x2 : Int32) (h : kv_H) : Option (Unit × kv_H) :=
  kv_k ((h 111 30) + (2 * (h 111 29))) 3098 (kv_hl (kv_up h 112 ((h 111 30) + (2 * (h 111 29))).toNatClampNeg x1) (fun h1 =>
  kv_k (((h1 111 30) + (2 * (h1 111 29))) + 1) 3098 (kv_hl (kv_up h1 112 (((h1 111 30) + (2 * (h1 111 29))) + 1).toNatClampNeg x2) (fun h2 =>
  kv_hl (kv_up h2 111 29 ((h2 111 29) + 1)) (fun h3 =>
  some ((), h3))))))
set_option maxRecDepth 20000 in
theorem m_X10_step (x1 : Int32) (x2 : Int32) (h : kv_H) : kv_M kv_u kK_X10_step [.ref 111, .int x1, .int x2] h (f_X10_step x1 x2 h) := by
  refine kv_met (ls := [some (.ref 111), some (.int x1), some (.int x2)]) (show plainName RX10 = true by decide +kernel) (fun _ => rfl) (fun _ => Nat.le_of_ble_eq_true rfl) ?_
  unfold f_X10_step
  refine kr_aload0 d_X10_step_0 ?_
  refine kr_getR (q := 112) d_X10_step_1 fl_X10_7 sh_111 rfl ?_
  refine kr_aload0 d_X10_step_4 ?_
  refine kr_getI d_X10_step_5 fl_X10_275 sh_111 rfl ?_
  refine kr_const (v := 2) d_X10_step_8 ?_
  refine kr_aload0 d_X10_step_9 ?_
  refine kr_getI d_X10_step_10 fl_X10_278 sh_111 rfl ?_
  refine kr_imul d_X10_step_13 ?_
  refine kr_iadd d_X10_step_14 ?_
  refine kr_iload1 d_X10_step_15 ?_
  refine kr_iastore d_X10_step_16 sh_112 ?_
  refine kr_hl (fun h1 => ?_)
  refine kr_aload0 d_X10_step_17 ?_
  refine kr_getR (q := 112) d_X10_step_18 fl_X10_7 sh_111 rfl ?_
  refine kr_aload0 d_X10_step_21 ?_
  refine kr_getI d_X10_step_22 fl_X10_275 sh_111 rfl ?_
  refine kr_const (v := 2) d_X10_step_25 ?_
  refine kr_aload0 d_X10_step_26 ?_
  refine kr_getI d_X10_step_27 fl_X10_278 sh_111 rfl ?_
  refine kr_imul d_X10_step_30 ?_
  refine kr_iadd d_X10_step_31 ?_
  refine kr_const (v := 1) d_X10_step_32 ?_
  refine kr_iadd d_X10_step_33 ?_
  refine kr_iload2 d_X10_step_34 ?_
  refine kr_iastore d_X10_step_35 sh_112 ?_
  refine kr_hl (fun h2 => ?_)
  refine kr_aload0 d_X10_step_36 ?_
  refine kr_dup d_X10_step_37 rfl ?_
  refine kr_getI d_X10_step_38 fl_X10_278 sh_111 rfl ?_
  refine kr_const (v := 1) d_X10_step_41 ?_
  refine kr_iadd d_X10_step_42 ?_
  refine kr_putI d_X10_step_43 fp_X10_278 sh_111 rfl rfl rfl ?_
  refine kr_hl (fun h3 => ?_)
  exact kr_return d_X10_step_46 rfl


/-! X10_isIn -/
def f_X10_isIn (x1 : Int64) (x2 : Int64) (x3 : Int64) (h : kv_H) : Option (Int32 × kv_H) :=
  if (lg_cmp x1 x2) < 0 then (some (0, h))
  else (if 0 < (lg_cmp x1 x3) then (some (0, h))
    else (some (1, h)))
set_option maxRecDepth 20000 in
theorem m_X10_isIn (x1 : Int64) (x2 : Int64) (x3 : Int64) (h : kv_H) : kv_M kv_i kK_X10_isIn [.long x1, .long x2, .long x3] h (f_X10_isIn x1 x2 x3 h) := by
  refine kv_met (ls := [some (.long x1), none, some (.long x2), none, some (.long x3), none]) (show plainName RX10 = true by decide +kernel) (fun _ => rfl) (fun _ => Nat.le_of_ble_eq_true rfl) ?_
  unfold f_X10_isIn
  refine kr_lload0 d_X10_isIn_0 ?_
  refine kr_lload2 d_X10_isIn_1 ?_
  refine kr_lcmp d_X10_isIn_2 ?_
  refine kr_if_lt d_X10_isIn_3 ?_ ?_
  · refine kr_const (v := 0) d_X10_isIn_17 ?_
    exact kr_zreturnK (by decide) d_X10_isIn_18 rfl
  · refine kr_lload0 d_X10_isIn_6 ?_
    refine kr_lload4 d_X10_isIn_7 ?_
    refine kr_lcmp d_X10_isIn_9 ?_
    refine kr_if_gt d_X10_isIn_10 ?_ ?_
    · refine kr_const (v := 0) d_X10_isIn_17 ?_
      exact kr_zreturnK (by decide) d_X10_isIn_18 rfl
    · refine kr_const (v := 1) d_X10_isIn_13 ?_
      refine kr_goto d_X10_isIn_14 ?_
      exact kr_zreturnK (by decide) d_X10_isIn_18 rfl

/-! X10_orNone -/
def f_X10_orNone (x1 : Int32) (h : kv_H) : Option (Int32 × kv_H) :=
  if 0 ≤ x1 then (some (x1, h))
  else (some ((-1000000005), h))
set_option maxRecDepth 20000 in
theorem m_X10_orNone (x1 : Int32) (h : kv_H) : kv_M kv_i kK_X10_orNone [.int x1] h (f_X10_orNone x1 h) := by
  refine kv_met (ls := [some (.int x1)]) (show plainName RX10 = true by decide +kernel) (fun _ => rfl) (fun _ => Nat.le_of_ble_eq_true rfl) ?_
  unfold f_X10_orNone
  refine kr_iload0 d_X10_orNone_0 ?_
  refine kr_if_ge d_X10_orNone_1 ?_ ?_
  · refine kr_iload0 d_X10_orNone_9 ?_
    exact kr_ireturn d_X10_orNone_10 rfl
  · refine kr_const (v := (-1000000005)) d_X10_orNone_4 ?_
    refine kr_goto d_X10_orNone_6 ?_
    exact kr_ireturn d_X10_orNone_10 rfl

/-! X10_becomes -/
def f_X10_becomes (x1 : Int32) (x2 : Int32) (h : kv_H) : Option (Int32 × kv_H) :=
  kv_k x1 3098 (kv_vl (h 112 x1.toNatClampNeg) (fun e1 =>
  kv_k x1 3098 (kv_hl (kv_up h 112 x1.toNatClampNeg x2) (fun h2 =>
  some (e1, h2)))))
set_option maxRecDepth 20000 in
theorem m_X10_becomes (x1 : Int32) (x2 : Int32) (h : kv_H) : kv_M kv_i kK_X10_becomes [.ref 111, .int x1, .int x2] h (f_X10_becomes x1 x2 h) := by
  refine kv_met (ls := [some (.ref 111), some (.int x1), some (.int x2), none]) (show plainName RX10 = true by decide +kernel) (fun _ => rfl) (fun _ => Nat.le_of_ble_eq_true rfl) ?_
  unfold f_X10_becomes
  refine kr_aload0 d_X10_becomes_0 ?_
  refine kr_getR (q := 112) d_X10_becomes_1 fl_X10_7 sh_111 rfl ?_
  refine kr_iload1 d_X10_becomes_4 ?_
  refine kr_iaload d_X10_becomes_5 sh_112 ?_
  refine kr_vl (fun e1 => ?_)
  refine kr_istore3 d_X10_becomes_6 (Nat.le_of_ble_eq_true rfl) kv_c1i ?_
  refine kr_aload0 d_X10_becomes_7 ?_
  refine kr_getR (q := 112) d_X10_becomes_8 fl_X10_7 sh_111 rfl ?_
  refine kr_iload1 d_X10_becomes_11 ?_
  refine kr_iload2 d_X10_becomes_12 ?_
  refine kr_iastore d_X10_becomes_13 sh_112 ?_
  refine kr_hl (fun h2 => ?_)
  refine kr_iload3 d_X10_becomes_14 ?_
  exact kr_ireturn d_X10_becomes_15 rfl

/-! X10_leafAt -/
def f_X10_leafAt (x1 : Int32) (h : kv_H) : Option (Int32 × kv_H) :=
  some ((10 + (7 * x1)), h)
set_option maxRecDepth 20000 in
theorem m_X10_leafAt (x1 : Int32) (h : kv_H) : kv_M kv_i kK_X10_leafAt [.ref 111, .int x1] h (f_X10_leafAt x1 h) := by
  refine kv_met (ls := [some (.ref 111), some (.int x1)]) (show plainName RX10 = true by decide +kernel) (fun _ => rfl) (fun _ => Nat.le_of_ble_eq_true rfl) ?_
  unfold f_X10_leafAt
  refine kr_const (v := 10) d_X10_leafAt_0 ?_
  refine kr_const (v := 7) d_X10_leafAt_2 ?_
  refine kr_iload1 d_X10_leafAt_4 ?_
  refine kr_imul d_X10_leafAt_5 ?_
  refine kr_iadd d_X10_leafAt_6 ?_
  exact kr_ireturn d_X10_leafAt_7 rfl

/-! X10_textAt -/
def f_X10_textAt (x1 : Int32) (h : kv_H) : Option (Int32 × kv_H) :=
  some ((98 + (200 * x1)), h)
set_option maxRecDepth 20000 in
theorem m_X10_textAt (x1 : Int32) (h : kv_H) : kv_M kv_i kK_X10_textAt [.ref 111, .int x1] h (f_X10_textAt x1 h) := by
  refine kv_met (ls := [some (.ref 111), some (.int x1)]) (show plainName RX10 = true by decide +kernel) (fun _ => rfl) (fun _ => Nat.le_of_ble_eq_true rfl) ?_
  unfold f_X10_textAt
  refine kr_const (v := 98) d_X10_textAt_0 ?_
  refine kr_const (v := 200) d_X10_textAt_2 ?_
  refine kr_iload1 d_X10_textAt_5 ?_
  refine kr_imul d_X10_textAt_6 ?_
  refine kr_iadd d_X10_textAt_7 ?_
  exact kr_ireturn d_X10_textAt_8 rfl

/-! X10_isLeaf -/
def f_X10_isLeaf (x1 : Int32) (h : kv_H) : Option (Int32 × kv_H) :=
  kv_b (f_X10_isIn (x1.toInt64) 0 (((h 112 0) - 1).toInt64) h) (fun r2 h1 =>
  kv_t .boolean r2 (some (r2, h1)))
set_option maxRecDepth 20000 in
theorem m_X10_isLeaf (x1 : Int32) (h : kv_H) : kv_M kv_i kK_X10_isLeaf [.ref 111, .int x1] h (f_X10_isLeaf x1 h) := by
  refine kv_met (ls := [some (.ref 111), some (.int x1)]) (show plainName RX10 = true by decide +kernel) (fun _ => rfl) (fun _ => Nat.le_of_ble_eq_true rfl) ?_
  unfold f_X10_isLeaf
  refine kr_iload1 d_X10_isLeaf_0 ?_
  refine kr_i2l d_X10_isLeaf_1 ?_
  refine kr_constL (v := 0) d_X10_isLeaf_2 ?_
  refine kr_aload0 d_X10_isLeaf_3 ?_
  refine kr_getR (q := 112) d_X10_isLeaf_4 fl_X10_7 sh_111 rfl ?_
  refine kr_const (v := 0) d_X10_isLeaf_7 ?_
  refine kr_ialoadC (j := 0) ⟨by decide, by decide, by decide⟩ d_X10_isLeaf_8 sh_112 ?_
  refine kr_const (v := 1) d_X10_isLeaf_9 ?_
  refine kr_isub d_X10_isLeaf_10 ?_
  refine kr_i2l d_X10_isLeaf_11 ?_
  refine kr_is_i (As := [.long (x1.toInt64), .long 0, .long (((h 112 0) - 1).toInt64)]) d_X10_isLeaf_12 cl_X10_83 (m_X10_isIn (x1.toInt64) 0 (((h 112 0) - 1).toInt64) h) (Nat.le_of_ble_eq_true rfl) rfl (Nat.le_of_ble_eq_true rfl) (fun r2 h1 => ?_)
  exact kr_zreturn d_X10_isLeaf_15 rfl

/-! X10_isText -/
def f_X10_isText (x1 : Int32) (h : kv_H) : Option (Int32 × kv_H) :=
  kv_b (f_X10_isIn (x1.toInt64) 0 (((h 112 1) - 1).toInt64) h) (fun r2 h1 =>
  kv_t .boolean r2 (some (r2, h1)))
set_option maxRecDepth 20000 in
theorem m_X10_isText (x1 : Int32) (h : kv_H) : kv_M kv_i kK_X10_isText [.ref 111, .int x1] h (f_X10_isText x1 h) := by
  refine kv_met (ls := [some (.ref 111), some (.int x1)]) (show plainName RX10 = true by decide +kernel) (fun _ => rfl) (fun _ => Nat.le_of_ble_eq_true rfl) ?_
  unfold f_X10_isText
  refine kr_iload1 d_X10_isText_0 ?_
  refine kr_i2l d_X10_isText_1 ?_
  refine kr_constL (v := 0) d_X10_isText_2 ?_
  refine kr_aload0 d_X10_isText_3 ?_
  refine kr_getR (q := 112) d_X10_isText_4 fl_X10_7 sh_111 rfl ?_
  refine kr_const (v := 1) d_X10_isText_7 ?_
  refine kr_ialoadC (j := 1) ⟨by decide, by decide, by decide⟩ d_X10_isText_8 sh_112 ?_
  refine kr_const (v := 1) d_X10_isText_9 ?_
  refine kr_isub d_X10_isText_10 ?_
  refine kr_i2l d_X10_isText_11 ?_
  refine kr_is_i (As := [.long (x1.toInt64), .long 0, .long (((h 112 1) - 1).toInt64)]) d_X10_isText_12 cl_X10_83 (m_X10_isIn (x1.toInt64) 0 (((h 112 1) - 1).toInt64) h) (Nat.le_of_ble_eq_true rfl) rfl (Nat.le_of_ble_eq_true rfl) (fun r2 h1 => ?_)
  exact kr_zreturn d_X10_isText_15 rfl

/-! X10_drawn -/
def f_X10_drawn (h : kv_H) : Option (Int32 × kv_H) :=
  kv_hl (kv_up h 112 9 (((h 112 9) * 1103515245) + 12345)) (fun h1 =>
  some (((h1 112 9).toUInt32 >>> (Int32.toUInt32 8 &&& Int32.toUInt32 31)).toInt32, h1))
set_option maxRecDepth 20000 in
theorem m_X10_drawn (h : kv_H) : kv_M kv_i kK_X10_drawn [.ref 111] h (f_X10_drawn h) := by
  refine kv_met (ls := [some (.ref 111)]) (show plainName RX10 = true by decide +kernel) (fun _ => rfl) (fun _ => Nat.le_of_ble_eq_true rfl) ?_
  unfold f_X10_drawn
  refine kr_aload0 d_X10_drawn_0 ?_
  refine kr_getR (q := 112) d_X10_drawn_1 fl_X10_7 sh_111 rfl ?_
  refine kr_const (v := 9) d_X10_drawn_4 ?_
  refine kr_aload0 d_X10_drawn_6 ?_
  refine kr_getR (q := 112) d_X10_drawn_7 fl_X10_7 sh_111 rfl ?_
  refine kr_const (v := 9) d_X10_drawn_10 ?_
  refine kr_ialoadC (j := 9) ⟨by decide, by decide, by decide⟩ d_X10_drawn_12 sh_112 ?_
  refine kr_const (v := 1103515245) d_X10_drawn_13 ?_
  refine kr_imul d_X10_drawn_15 ?_
  refine kr_const (v := 12345) d_X10_drawn_16 ?_
  refine kr_iadd d_X10_drawn_19 ?_
  refine kr_iastoreC (j := 9) ⟨by decide, by decide, by decide⟩ d_X10_drawn_20 sh_112 ?_
  refine kr_hl (fun h1 => ?_)
  refine kr_aload0 d_X10_drawn_21 ?_
  refine kr_getR (q := 112) d_X10_drawn_22 fl_X10_7 sh_111 rfl ?_
  refine kr_const (v := 9) d_X10_drawn_25 ?_
  refine kr_ialoadC (j := 9) ⟨by decide, by decide, by decide⟩ d_X10_drawn_27 sh_112 ?_
  refine kr_const (v := 8) d_X10_drawn_28 ?_
  refine kr_iushr d_X10_drawn_30 ?_
  exact kr_ireturn d_X10_drawn_31 rfl

/-! X10_counts -/
def f_X10_counts_L4 (c1 : Int32) : Nat → Int32 → Int32 → kv_H → (Int32 → kv_H → Option (Int32 × kv_H)) → Option (Int32 × kv_H)
  | 0, _, _, _, _ => none
  | n + 1, v2, v3, h, C => if (h 112 1) ≤ v3 then (C v2 h)
    else (kv_b (f_X10_textAt v3 h) (fun r2 h1 =>
      kv_k r2 3098 (if (h1 112 r2.toNatClampNeg) = c1 then (f_X10_counts_L4 c1 n v3 (v3 + 1) h1 C)
      else (f_X10_counts_L4 c1 n v2 (v3 + 1) h1 C))))
def f_X10_counts (x1 : Int32) (h : kv_H) : Option (Int32 × kv_H) :=
  f_X10_counts_L4 x1 kv_fu (-1) 0 h (fun z3 h4 =>
  some (z3, h4))
set_option maxRecDepth 20000 in
theorem s_f_X10_counts_L4 (c1 : Int32) : ∀ (n : Nat) (v2 : Int32) (v3 : Int32) (h : kv_H) (C : Int32 → kv_H → Option (Int32 × kv_H)), (∀ (w2 : Int32) (h : kv_H), kv_S kv_i kK_X10_counts 40 [none, none, some (.int w2), none] [] h (C w2 h)) → kv_S kv_i kK_X10_counts 4 [some (.ref 111), some (.int c1), some (.int v2), some (.int v3)] [] h (f_X10_counts_L4 c1 n v2 v3 h C) := by
  intro n
  induction n with
  | zero => intros; exact kv_none
  | succ n ih =>
    intro v2 v3 h C hC
    unfold f_X10_counts_L4
    refine kr_iload3 d_X10_counts_4 ?_
    refine kr_aload0 d_X10_counts_5 ?_
    refine kr_getR (q := 112) d_X10_counts_6 fl_X10_7 sh_111 rfl ?_
    refine kr_const (v := 1) d_X10_counts_9 ?_
    refine kr_ialoadC (j := 1) ⟨by decide, by decide, by decide⟩ d_X10_counts_10 sh_112 ?_
    refine kr_icmp_ge d_X10_counts_11 ?_ ?_
    · refine kr_kill0 ?_
      refine kr_kill1 ?_
      refine kr_kill3 ?_
      exact hC v2 h
    · refine kr_aload0 d_X10_counts_14 ?_
      refine kr_getR (q := 112) d_X10_counts_15 fl_X10_7 sh_111 rfl ?_
      refine kr_aload0 d_X10_counts_18 ?_
      refine kr_iload3 d_X10_counts_19 ?_
      refine kr_iv_i (As := [.int v3]) d_X10_counts_20 cl_X10_320 (m_X10_textAt v3 h) sh_111 (Nat.le_of_ble_eq_true rfl) rfl (Nat.le_of_ble_eq_true rfl) (fun r2 h1 => ?_)
      refine kr_iaload d_X10_counts_23 sh_112 ?_
      refine kr_iload1 d_X10_counts_24 ?_
      refine kr_icmp_ne d_X10_counts_25 ?_ ?_
      · refine kr_iload2 d_X10_counts_32 ?_
        refine kr_istore2 d_X10_counts_33 (Nat.le_of_ble_eq_true rfl) kv_c1i ?_
        refine kr_iinc3 d_X10_counts_34 (Nat.le_of_ble_eq_true rfl) kv_c1i ?_
        refine kr_goto d_X10_counts_37 ?_
        exact ih v2 (v3 + 1) h1 C hC
      · refine kr_iload3 d_X10_counts_28 ?_
        refine kr_goto d_X10_counts_29 ?_
        refine kr_istore2 d_X10_counts_33 (Nat.le_of_ble_eq_true rfl) kv_c1i ?_
        refine kr_iinc3 d_X10_counts_34 (Nat.le_of_ble_eq_true rfl) kv_c1i ?_
        refine kr_goto d_X10_counts_37 ?_
        exact ih v3 (v3 + 1) h1 C hC

set_option maxRecDepth 20000 in
theorem m_X10_counts (x1 : Int32) (h : kv_H) : kv_M kv_i kK_X10_counts [.ref 111, .int x1] h (f_X10_counts x1 h) := by
  refine kv_met (ls := [some (.ref 111), some (.int x1), none, none]) (show plainName RX10 = true by decide +kernel) (fun _ => rfl) (fun _ => Nat.le_of_ble_eq_true rfl) ?_
  unfold f_X10_counts
  refine kr_const (v := (-1)) d_X10_counts_0 ?_
  refine kr_istore2 d_X10_counts_1 (Nat.le_of_ble_eq_true rfl) kv_c1i ?_
  refine kr_const (v := 0) d_X10_counts_2 ?_
  refine kr_istore3 d_X10_counts_3 (Nat.le_of_ble_eq_true rfl) kv_c1i ?_
  refine s_f_X10_counts_L4 x1 kv_fu (-1) 0 h _ (fun z3 h4 => ?_)
  refine kr_iload2 d_X10_counts_40 ?_
  exact kr_ireturn d_X10_counts_41 rfl

/-! X10_joined -/
def f_X10_joined (x1 : Int32) (x2 : Int32) (x3 : Int32) (h : kv_H) : Option (Int32 × kv_H) :=
  kv_sw x1 [38, 39, 40, 41, 42, 43, 44, 45, 46, 47, 48, 49, 50, 51, 52, 53, 54, 55, 56, 57, 58, 59, 60, 61, 62] [(if x2 = 0 then (some (0, h))
    else (if x3 = 0 then (some (0, h))
      else (some (1, h)))),
  (if x2 = 0 then (if x3 = 0 then (some (0, h))
      else (some (1, h)))
    else (some (1, h))),
  (if x2 = 0 then (if x3 = 0 then (some (0, h))
      else (some (1, h)))
    else (some (1, h))),
  (if x2 = 0 then (if x3 = 0 then (some (0, h))
      else (some (1, h)))
    else (some (1, h))),
  (some ((x2 * x3), h)),
  (some ((x2 + x3), h)),
  (if x2 = 0 then (if x3 = 0 then (some (0, h))
      else (some (1, h)))
    else (some (1, h))),
  (some ((x2 - x3), h)),
  (if x2 = 0 then (if x3 = 0 then (some (0, h))
      else (some (1, h)))
    else (some (1, h))),
  (if x3 = 0 then (some (0, h))
    else (if x3 = (-1 : Int32) then (some ((-x2), h))
      else (kv_z x3 (some ((x2 / x3), h))))),
  (if x2 = 0 then (if x3 = 0 then (some (0, h))
      else (some (1, h)))
    else (some (1, h))),
  (if x2 = 0 then (if x3 = 0 then (some (0, h))
      else (some (1, h)))
    else (some (1, h))),
  (if x2 = 0 then (if x3 = 0 then (some (0, h))
      else (some (1, h)))
    else (some (1, h))),
  (if x2 = 0 then (if x3 = 0 then (some (0, h))
      else (some (1, h)))
    else (some (1, h))),
  (if x2 = 0 then (if x3 = 0 then (some (0, h))
      else (some (1, h)))
    else (some (1, h))),
  (if x2 = 0 then (if x3 = 0 then (some (0, h))
      else (some (1, h)))
    else (some (1, h))),
  (if x2 = 0 then (if x3 = 0 then (some (0, h))
      else (some (1, h)))
    else (some (1, h))),
  (if x2 = 0 then (if x3 = 0 then (some (0, h))
      else (some (1, h)))
    else (some (1, h))),
  (if x2 = 0 then (if x3 = 0 then (some (0, h))
      else (some (1, h)))
    else (some (1, h))),
  (if x2 = 0 then (if x3 = 0 then (some (0, h))
      else (some (1, h)))
    else (some (1, h))),
  (if x2 = 0 then (if x3 = 0 then (some (0, h))
      else (some (1, h)))
    else (some (1, h))),
  (if x2 = 0 then (if x3 = 0 then (some (0, h))
      else (some (1, h)))
    else (some (1, h))),
  (if x3 ≤ x2 then (some (0, h))
    else (some (1, h))),
  (if x2 = x3 then (some (1, h))
    else (some (0, h))),
  (if x2 ≤ x3 then (some (0, h))
    else (some (1, h)))] (if x2 = 0 then (if x3 = 0 then (some (0, h))
      else (some (1, h)))
    else (some (1, h)))
set_option maxRecDepth 20000 in
theorem m_X10_joined (x1 : Int32) (x2 : Int32) (x3 : Int32) (h : kv_H) : kv_M kv_i kK_X10_joined [.int x1, .int x2, .int x3] h (f_X10_joined x1 x2 x3 h) := by
  refine kv_met (ls := [some (.int x1), some (.int x2), some (.int x3)]) (show plainName RX10 = true by decide +kernel) (fun _ => rfl) (fun _ => Nat.le_of_ble_eq_true rfl) ?_
  unfold f_X10_joined
  refine kr_iload0 d_X10_joined_0 ?_
  refine kr_sw d_X10_joined_1 ?_ ⟨?_, ?_, ?_, ?_, ?_, ?_, ?_, ?_, ?_, ?_, ?_, ?_, ?_, ?_, ?_, ?_, ?_, ?_, ?_, ?_, ?_, ?_, ?_, ?_, ?_, trivial⟩
  · refine kr_iload1 d_X10_joined_197 ?_
    refine kr_if_ne d_X10_joined_198 ?_ ?_
    · refine kr_const (v := 1) d_X10_joined_205 ?_
      refine kr_goto d_X10_joined_206 ?_
      exact kr_ireturn d_X10_joined_210 rfl
    · refine kr_iload2 d_X10_joined_201 ?_
      refine kr_if_eq d_X10_joined_202 ?_ ?_
      · refine kr_const (v := 0) d_X10_joined_209 ?_
        exact kr_ireturn d_X10_joined_210 rfl
      · refine kr_const (v := 1) d_X10_joined_205 ?_
        refine kr_goto d_X10_joined_206 ?_
        exact kr_ireturn d_X10_joined_210 rfl
  · refine kr_iload1 d_X10_joined_183 ?_
    refine kr_if_eq d_X10_joined_184 ?_ ?_
    · refine kr_const (v := 0) d_X10_joined_195 ?_
      exact kr_ireturn d_X10_joined_196 rfl
    · refine kr_iload2 d_X10_joined_187 ?_
      refine kr_if_eq d_X10_joined_188 ?_ ?_
      · refine kr_const (v := 0) d_X10_joined_195 ?_
        exact kr_ireturn d_X10_joined_196 rfl
      · refine kr_const (v := 1) d_X10_joined_191 ?_
        refine kr_goto d_X10_joined_192 ?_
        exact kr_ireturn d_X10_joined_196 rfl
  · refine kr_iload1 d_X10_joined_197 ?_
    refine kr_if_ne d_X10_joined_198 ?_ ?_
    · refine kr_const (v := 1) d_X10_joined_205 ?_
      refine kr_goto d_X10_joined_206 ?_
      exact kr_ireturn d_X10_joined_210 rfl
    · refine kr_iload2 d_X10_joined_201 ?_
      refine kr_if_eq d_X10_joined_202 ?_ ?_
      · refine kr_const (v := 0) d_X10_joined_209 ?_
        exact kr_ireturn d_X10_joined_210 rfl
      · refine kr_const (v := 1) d_X10_joined_205 ?_
        refine kr_goto d_X10_joined_206 ?_
        exact kr_ireturn d_X10_joined_210 rfl
  · refine kr_iload1 d_X10_joined_197 ?_
    refine kr_if_ne d_X10_joined_198 ?_ ?_
    · refine kr_const (v := 1) d_X10_joined_205 ?_
      refine kr_goto d_X10_joined_206 ?_
      exact kr_ireturn d_X10_joined_210 rfl
    · refine kr_iload2 d_X10_joined_201 ?_
      refine kr_if_eq d_X10_joined_202 ?_ ?_
      · refine kr_const (v := 0) d_X10_joined_209 ?_
        exact kr_ireturn d_X10_joined_210 rfl
      · refine kr_const (v := 1) d_X10_joined_205 ?_
        refine kr_goto d_X10_joined_206 ?_
        exact kr_ireturn d_X10_joined_210 rfl
  · refine kr_iload1 d_X10_joined_197 ?_
    refine kr_if_ne d_X10_joined_198 ?_ ?_
    · refine kr_const (v := 1) d_X10_joined_205 ?_
      refine kr_goto d_X10_joined_206 ?_
      exact kr_ireturn d_X10_joined_210 rfl
    · refine kr_iload2 d_X10_joined_201 ?_
      refine kr_if_eq d_X10_joined_202 ?_ ?_
      · refine kr_const (v := 0) d_X10_joined_209 ?_
        exact kr_ireturn d_X10_joined_210 rfl
      · refine kr_const (v := 1) d_X10_joined_205 ?_
        refine kr_goto d_X10_joined_206 ?_
        exact kr_ireturn d_X10_joined_210 rfl
  · refine kr_iload1 d_X10_joined_124 ?_
    refine kr_iload2 d_X10_joined_125 ?_
    refine kr_imul d_X10_joined_126 ?_
    exact kr_ireturn d_X10_joined_127 rfl
  · refine kr_iload1 d_X10_joined_116 ?_
    refine kr_iload2 d_X10_joined_117 ?_
    refine kr_iadd d_X10_joined_118 ?_
    exact kr_ireturn d_X10_joined_119 rfl
  · refine kr_iload1 d_X10_joined_197 ?_
    refine kr_if_ne d_X10_joined_198 ?_ ?_
    · refine kr_const (v := 1) d_X10_joined_205 ?_
      refine kr_goto d_X10_joined_206 ?_
      exact kr_ireturn d_X10_joined_210 rfl
    · refine kr_iload2 d_X10_joined_201 ?_
      refine kr_if_eq d_X10_joined_202 ?_ ?_
      · refine kr_const (v := 0) d_X10_joined_209 ?_
        exact kr_ireturn d_X10_joined_210 rfl
      · refine kr_const (v := 1) d_X10_joined_205 ?_
        refine kr_goto d_X10_joined_206 ?_
        exact kr_ireturn d_X10_joined_210 rfl
  · refine kr_iload1 d_X10_joined_120 ?_
    refine kr_iload2 d_X10_joined_121 ?_
    refine kr_isub d_X10_joined_122 ?_
    exact kr_ireturn d_X10_joined_123 rfl
  · refine kr_iload1 d_X10_joined_197 ?_
    refine kr_if_ne d_X10_joined_198 ?_ ?_
    · refine kr_const (v := 1) d_X10_joined_205 ?_
      refine kr_goto d_X10_joined_206 ?_
      exact kr_ireturn d_X10_joined_210 rfl
    · refine kr_iload2 d_X10_joined_201 ?_
      refine kr_if_eq d_X10_joined_202 ?_ ?_
      · refine kr_const (v := 0) d_X10_joined_209 ?_
        exact kr_ireturn d_X10_joined_210 rfl
      · refine kr_const (v := 1) d_X10_joined_205 ?_
        refine kr_goto d_X10_joined_206 ?_
        exact kr_ireturn d_X10_joined_210 rfl
  · refine kr_iload2 d_X10_joined_128 ?_
    refine kr_if_ne d_X10_joined_129 ?_ ?_
    · refine kr_iload2 d_X10_joined_136 ?_
      refine kr_const (v := (-1)) d_X10_joined_137 ?_
      refine kr_icmp_ne d_X10_joined_138 ?_ ?_
      · refine kr_iload1 d_X10_joined_146 ?_
        refine kr_iload2 d_X10_joined_147 ?_
        refine kr_idiv d_X10_joined_148 ?_
        exact kr_ireturn d_X10_joined_149 rfl
      · refine kr_iload1 d_X10_joined_141 ?_
        refine kr_ineg d_X10_joined_142 ?_
        refine kr_goto d_X10_joined_143 ?_
        exact kr_ireturn d_X10_joined_149 rfl
    · refine kr_const (v := 0) d_X10_joined_132 ?_
      refine kr_goto d_X10_joined_133 ?_
      exact kr_ireturn d_X10_joined_149 rfl
  · refine kr_iload1 d_X10_joined_197 ?_
    refine kr_if_ne d_X10_joined_198 ?_ ?_
    · refine kr_const (v := 1) d_X10_joined_205 ?_
      refine kr_goto d_X10_joined_206 ?_
      exact kr_ireturn d_X10_joined_210 rfl
    · refine kr_iload2 d_X10_joined_201 ?_
      refine kr_if_eq d_X10_joined_202 ?_ ?_
      · refine kr_const (v := 0) d_X10_joined_209 ?_
        exact kr_ireturn d_X10_joined_210 rfl
      · refine kr_const (v := 1) d_X10_joined_205 ?_
        refine kr_goto d_X10_joined_206 ?_
        exact kr_ireturn d_X10_joined_210 rfl
  · refine kr_iload1 d_X10_joined_197 ?_
    refine kr_if_ne d_X10_joined_198 ?_ ?_
    · refine kr_const (v := 1) d_X10_joined_205 ?_
      refine kr_goto d_X10_joined_206 ?_
      exact kr_ireturn d_X10_joined_210 rfl
    · refine kr_iload2 d_X10_joined_201 ?_
      refine kr_if_eq d_X10_joined_202 ?_ ?_
      · refine kr_const (v := 0) d_X10_joined_209 ?_
        exact kr_ireturn d_X10_joined_210 rfl
      · refine kr_const (v := 1) d_X10_joined_205 ?_
        refine kr_goto d_X10_joined_206 ?_
        exact kr_ireturn d_X10_joined_210 rfl
  · refine kr_iload1 d_X10_joined_197 ?_
    refine kr_if_ne d_X10_joined_198 ?_ ?_
    · refine kr_const (v := 1) d_X10_joined_205 ?_
      refine kr_goto d_X10_joined_206 ?_
      exact kr_ireturn d_X10_joined_210 rfl
    · refine kr_iload2 d_X10_joined_201 ?_
      refine kr_if_eq d_X10_joined_202 ?_ ?_
      · refine kr_const (v := 0) d_X10_joined_209 ?_
        exact kr_ireturn d_X10_joined_210 rfl
      · refine kr_const (v := 1) d_X10_joined_205 ?_
        refine kr_goto d_X10_joined_206 ?_
        exact kr_ireturn d_X10_joined_210 rfl
  · refine kr_iload1 d_X10_joined_197 ?_
    refine kr_if_ne d_X10_joined_198 ?_ ?_
    · refine kr_const (v := 1) d_X10_joined_205 ?_
      refine kr_goto d_X10_joined_206 ?_
      exact kr_ireturn d_X10_joined_210 rfl
    · refine kr_iload2 d_X10_joined_201 ?_
      refine kr_if_eq d_X10_joined_202 ?_ ?_
      · refine kr_const (v := 0) d_X10_joined_209 ?_
        exact kr_ireturn d_X10_joined_210 rfl
      · refine kr_const (v := 1) d_X10_joined_205 ?_
        refine kr_goto d_X10_joined_206 ?_
        exact kr_ireturn d_X10_joined_210 rfl
  · refine kr_iload1 d_X10_joined_197 ?_
    refine kr_if_ne d_X10_joined_198 ?_ ?_
    · refine kr_const (v := 1) d_X10_joined_205 ?_
      refine kr_goto d_X10_joined_206 ?_
      exact kr_ireturn d_X10_joined_210 rfl
    · refine kr_iload2 d_X10_joined_201 ?_
      refine kr_if_eq d_X10_joined_202 ?_ ?_
      · refine kr_const (v := 0) d_X10_joined_209 ?_
        exact kr_ireturn d_X10_joined_210 rfl
      · refine kr_const (v := 1) d_X10_joined_205 ?_
        refine kr_goto d_X10_joined_206 ?_
        exact kr_ireturn d_X10_joined_210 rfl
  · refine kr_iload1 d_X10_joined_197 ?_
    refine kr_if_ne d_X10_joined_198 ?_ ?_
    · refine kr_const (v := 1) d_X10_joined_205 ?_
      refine kr_goto d_X10_joined_206 ?_
      exact kr_ireturn d_X10_joined_210 rfl
    · refine kr_iload2 d_X10_joined_201 ?_
      refine kr_if_eq d_X10_joined_202 ?_ ?_
      · refine kr_const (v := 0) d_X10_joined_209 ?_
        exact kr_ireturn d_X10_joined_210 rfl
      · refine kr_const (v := 1) d_X10_joined_205 ?_
        refine kr_goto d_X10_joined_206 ?_
        exact kr_ireturn d_X10_joined_210 rfl
  · refine kr_iload1 d_X10_joined_197 ?_
    refine kr_if_ne d_X10_joined_198 ?_ ?_
    · refine kr_const (v := 1) d_X10_joined_205 ?_
      refine kr_goto d_X10_joined_206 ?_
      exact kr_ireturn d_X10_joined_210 rfl
    · refine kr_iload2 d_X10_joined_201 ?_
      refine kr_if_eq d_X10_joined_202 ?_ ?_
      · refine kr_const (v := 0) d_X10_joined_209 ?_
        exact kr_ireturn d_X10_joined_210 rfl
      · refine kr_const (v := 1) d_X10_joined_205 ?_
        refine kr_goto d_X10_joined_206 ?_
        exact kr_ireturn d_X10_joined_210 rfl
  · refine kr_iload1 d_X10_joined_197 ?_
    refine kr_if_ne d_X10_joined_198 ?_ ?_
    · refine kr_const (v := 1) d_X10_joined_205 ?_
      refine kr_goto d_X10_joined_206 ?_
      exact kr_ireturn d_X10_joined_210 rfl
    · refine kr_iload2 d_X10_joined_201 ?_
      refine kr_if_eq d_X10_joined_202 ?_ ?_
      · refine kr_const (v := 0) d_X10_joined_209 ?_
        exact kr_ireturn d_X10_joined_210 rfl
      · refine kr_const (v := 1) d_X10_joined_205 ?_
        refine kr_goto d_X10_joined_206 ?_
        exact kr_ireturn d_X10_joined_210 rfl
  · refine kr_iload1 d_X10_joined_197 ?_
    refine kr_if_ne d_X10_joined_198 ?_ ?_
    · refine kr_const (v := 1) d_X10_joined_205 ?_
      refine kr_goto d_X10_joined_206 ?_
      exact kr_ireturn d_X10_joined_210 rfl
    · refine kr_iload2 d_X10_joined_201 ?_
      refine kr_if_eq d_X10_joined_202 ?_ ?_
      · refine kr_const (v := 0) d_X10_joined_209 ?_
        exact kr_ireturn d_X10_joined_210 rfl
      · refine kr_const (v := 1) d_X10_joined_205 ?_
        refine kr_goto d_X10_joined_206 ?_
        exact kr_ireturn d_X10_joined_210 rfl
  · refine kr_iload1 d_X10_joined_197 ?_
    refine kr_if_ne d_X10_joined_198 ?_ ?_
    · refine kr_const (v := 1) d_X10_joined_205 ?_
      refine kr_goto d_X10_joined_206 ?_
      exact kr_ireturn d_X10_joined_210 rfl
    · refine kr_iload2 d_X10_joined_201 ?_
      refine kr_if_eq d_X10_joined_202 ?_ ?_
      · refine kr_const (v := 0) d_X10_joined_209 ?_
        exact kr_ireturn d_X10_joined_210 rfl
      · refine kr_const (v := 1) d_X10_joined_205 ?_
        refine kr_goto d_X10_joined_206 ?_
        exact kr_ireturn d_X10_joined_210 rfl
  · refine kr_iload1 d_X10_joined_197 ?_
    refine kr_if_ne d_X10_joined_198 ?_ ?_
    · refine kr_const (v := 1) d_X10_joined_205 ?_
      refine kr_goto d_X10_joined_206 ?_
      exact kr_ireturn d_X10_joined_210 rfl
    · refine kr_iload2 d_X10_joined_201 ?_
      refine kr_if_eq d_X10_joined_202 ?_ ?_
      · refine kr_const (v := 0) d_X10_joined_209 ?_
        exact kr_ireturn d_X10_joined_210 rfl
      · refine kr_const (v := 1) d_X10_joined_205 ?_
        refine kr_goto d_X10_joined_206 ?_
        exact kr_ireturn d_X10_joined_210 rfl
  · refine kr_iload1 d_X10_joined_197 ?_
    refine kr_if_ne d_X10_joined_198 ?_ ?_
    · refine kr_const (v := 1) d_X10_joined_205 ?_
      refine kr_goto d_X10_joined_206 ?_
      exact kr_ireturn d_X10_joined_210 rfl
    · refine kr_iload2 d_X10_joined_201 ?_
      refine kr_if_eq d_X10_joined_202 ?_ ?_
      · refine kr_const (v := 0) d_X10_joined_209 ?_
        exact kr_ireturn d_X10_joined_210 rfl
      · refine kr_const (v := 1) d_X10_joined_205 ?_
        refine kr_goto d_X10_joined_206 ?_
        exact kr_ireturn d_X10_joined_210 rfl
  · refine kr_iload1 d_X10_joined_150 ?_
    refine kr_iload2 d_X10_joined_151 ?_
    refine kr_icmp_ge d_X10_joined_152 ?_ ?_
    · refine kr_const (v := 0) d_X10_joined_159 ?_
      exact kr_ireturn d_X10_joined_160 rfl
    · refine kr_const (v := 1) d_X10_joined_155 ?_
      refine kr_goto d_X10_joined_156 ?_
      exact kr_ireturn d_X10_joined_160 rfl
  · refine kr_iload1 d_X10_joined_172 ?_
    refine kr_iload2 d_X10_joined_173 ?_
    refine kr_icmp_ne d_X10_joined_174 ?_ ?_
    · refine kr_const (v := 0) d_X10_joined_181 ?_
      exact kr_ireturn d_X10_joined_182 rfl
    · refine kr_const (v := 1) d_X10_joined_177 ?_
      refine kr_goto d_X10_joined_178 ?_
      exact kr_ireturn d_X10_joined_182 rfl
  · refine kr_iload1 d_X10_joined_161 ?_
    refine kr_iload2 d_X10_joined_162 ?_
    refine kr_icmp_le d_X10_joined_163 ?_ ?_
    · refine kr_const (v := 0) d_X10_joined_170 ?_
      exact kr_ireturn d_X10_joined_171 rfl
    · refine kr_const (v := 1) d_X10_joined_166 ?_
      refine kr_goto d_X10_joined_167 ?_
      exact kr_ireturn d_X10_joined_171 rfl

/-! X10_worked -/
def f_X10_worked_L4 (c1 : Int32) : Nat → Int32 → Int32 → kv_H → (kv_H → Option (Int32 × kv_H)) → Option (Int32 × kv_H)
  | 0, _, _, _, _ => none
  | n + 1, v2, v3, h, C => kv_b (f_X10_textAt c1 h) (fun r2 h1 =>
    kv_k (r2 + 2) 3098 (if (h1 112 (r2 + 2).toNatClampNeg) ≤ v3 then (C h1)
    else (kv_b (f_X10_textAt c1 h1) (fun r4 h3 =>
      kv_k ((r4 + 4) + (2 * v3)) 3098 (kv_vl (h3 112 ((r4 + 4) + (2 * v3)).toNatClampNeg) (fun e5 =>
      kv_b (f_X10_textAt c1 h3) (fun r7 h6 =>
      kv_k (((r7 + 4) + (2 * v3)) + 1) 3098 (kv_vl (h6 112 (((r7 + 4) + (2 * v3)) + 1).toNatClampNeg) (fun e8 =>
      if e5 = (2 : Int32) then (if e8 = (33 : Int32) then (kv_k (v2 - 1) 100 (if (h6 132 (v2 - 1).toNatClampNeg) = 0 then (kv_k (v2 - 1) 100 (kv_hl (kv_up h6 132 (v2 - 1).toNatClampNeg 1) (fun h13 =>
            f_X10_worked_L4 c1 n v2 (v3 + 1) h13 C)))
          else (kv_k (v2 - 1) 100 (kv_hl (kv_up h6 132 (v2 - 1).toNatClampNeg 0) (fun h12 =>
            f_X10_worked_L4 c1 n v2 (v3 + 1) h12 C)))))
        else (kv_k ((v2 + (-1)) - 1) 100 (kv_k (v2 + (-1)) 100 (kv_b (f_X10_joined e8 (h6 132 ((v2 + (-1)) - 1).toNatClampNeg) (h6 132 (v2 + (-1)).toNatClampNeg) h6) (fun r10 h9 =>
          kv_k ((v2 + (-1)) - 1) 100 (kv_hl (kv_up h9 132 ((v2 + (-1)) - 1).toNatClampNeg r10) (fun h11 =>
          f_X10_worked_L4 c1 n (v2 + (-1)) (v3 + 1) h11 C)))))))
      else (if e5 = 0 then (kv_k v2 100 (kv_hl (kv_up h6 132 v2.toNatClampNeg e8) (fun h15 =>
          f_X10_worked_L4 c1 n (v2 + 1) (v3 + 1) h15 C)))
        else (kv_k e8 128 (kv_k v2 100 (kv_hl (kv_up h6 132 v2.toNatClampNeg (h6 131 e8.toNatClampNeg)) (fun h14 =>
          f_X10_worked_L4 c1 n (v2 + 1) (v3 + 1) h14 C))))))))))))))
def f_X10_worked (x1 : Int32) (h : kv_H) : Option (Int32 × kv_H) :=
  f_X10_worked_L4 x1 kv_fu 0 0 h (fun  h16 =>
  some ((h16 132 0), h16))
set_option maxRecDepth 20000 in
theorem s_f_X10_worked_L4 (c1 : Int32) : ∀ (n : Nat) (v2 : Int32) (v3 : Int32) (h : kv_H) (C : kv_H → Option (Int32 × kv_H)), (∀  (h : kv_H), kv_S kv_i kK_X10_worked 163 [some (.ref 111), none, none, none, none, none] [] h (C h)) → kv_S kv_i kK_X10_worked 4 [some (.ref 111), some (.int c1), some (.int v2), some (.int v3), none, none] [] h (f_X10_worked_L4 c1 n v2 v3 h C) := by
  intro n
  induction n with
  | zero => intros; exact kv_none
  | succ n ih =>
    intro v2 v3 h C hC
    unfold f_X10_worked_L4
    refine kr_iload3 d_X10_worked_4 ?_
    refine kr_aload0 d_X10_worked_5 ?_
    refine kr_getR (q := 112) d_X10_worked_6 fl_X10_7 sh_111 rfl ?_
    refine kr_aload0 d_X10_worked_9 ?_
    refine kr_iload1 d_X10_worked_10 ?_
    refine kr_iv_i (As := [.int c1]) d_X10_worked_11 cl_X10_320 (m_X10_textAt c1 h) sh_111 (Nat.le_of_ble_eq_true rfl) rfl (Nat.le_of_ble_eq_true rfl) (fun r2 h1 => ?_)
    refine kr_const (v := 2) d_X10_worked_14 ?_
    refine kr_iadd d_X10_worked_15 ?_
    refine kr_iaload d_X10_worked_16 sh_112 ?_
    refine kr_icmp_ge d_X10_worked_17 ?_ ?_
    · refine kr_kill1 ?_
      refine kr_kill2 ?_
      refine kr_kill3 ?_
      exact hC h1
    · refine kr_aload0 d_X10_worked_20 ?_
      refine kr_getR (q := 112) d_X10_worked_21 fl_X10_7 sh_111 rfl ?_
      refine kr_aload0 d_X10_worked_24 ?_
      refine kr_iload1 d_X10_worked_25 ?_
      refine kr_iv_i (As := [.int c1]) d_X10_worked_26 cl_X10_320 (m_X10_textAt c1 h1) sh_111 (Nat.le_of_ble_eq_true rfl) rfl (Nat.le_of_ble_eq_true rfl) (fun r4 h3 => ?_)
      refine kr_const (v := 4) d_X10_worked_29 ?_
      refine kr_iadd d_X10_worked_30 ?_
      refine kr_const (v := 2) d_X10_worked_31 ?_
      refine kr_iload3 d_X10_worked_32 ?_
      refine kr_imul d_X10_worked_33 ?_
      refine kr_iadd d_X10_worked_34 ?_
      refine kr_iaload d_X10_worked_35 sh_112 ?_
      refine kr_vl (fun e5 => ?_)
      refine kr_istore4 d_X10_worked_36 (Nat.le_of_ble_eq_true rfl) kv_c1i ?_
      refine kr_aload0 d_X10_worked_38 ?_
      refine kr_getR (q := 112) d_X10_worked_39 fl_X10_7 sh_111 rfl ?_
      refine kr_aload0 d_X10_worked_42 ?_
      refine kr_iload1 d_X10_worked_43 ?_
      refine kr_iv_i (As := [.int c1]) d_X10_worked_44 cl_X10_320 (m_X10_textAt c1 h3) sh_111 (Nat.le_of_ble_eq_true rfl) rfl (Nat.le_of_ble_eq_true rfl) (fun r7 h6 => ?_)
      refine kr_const (v := 4) d_X10_worked_47 ?_
      refine kr_iadd d_X10_worked_48 ?_
      refine kr_const (v := 2) d_X10_worked_49 ?_
      refine kr_iload3 d_X10_worked_50 ?_
      refine kr_imul d_X10_worked_51 ?_
      refine kr_iadd d_X10_worked_52 ?_
      refine kr_const (v := 1) d_X10_worked_53 ?_
      refine kr_iadd d_X10_worked_54 ?_
      refine kr_iaload d_X10_worked_55 sh_112 ?_
      refine kr_vl (fun e8 => ?_)
      refine kr_istore5 d_X10_worked_56 (Nat.le_of_ble_eq_true rfl) kv_c1i ?_
      refine kr_iload4 d_X10_worked_58 ?_
      refine kr_const (v := 2) d_X10_worked_60 ?_
      refine kr_icmp_eq d_X10_worked_61 ?_ ?_
      · refine kr_iload5 d_X10_worked_93 ?_
        refine kr_const (v := 33) d_X10_worked_95 ?_
        refine kr_icmp_ne d_X10_worked_97 ?_ ?_
        · refine kr_iinc2 d_X10_worked_127 (Nat.le_of_ble_eq_true rfl) kv_c1i ?_
          refine kr_aload0 d_X10_worked_130 ?_
          refine kr_getR (q := 132) d_X10_worked_131 fl_X10_70 sh_111 rfl ?_
          refine kr_iload2 d_X10_worked_134 ?_
          refine kr_const (v := 1) d_X10_worked_135 ?_
          refine kr_isub d_X10_worked_136 ?_
          refine kr_iload5 d_X10_worked_137 ?_
          refine kr_aload0 d_X10_worked_139 ?_
          refine kr_getR (q := 132) d_X10_worked_140 fl_X10_70 sh_111 rfl ?_
          refine kr_iload2 d_X10_worked_143 ?_
          refine kr_const (v := 1) d_X10_worked_144 ?_
          refine kr_isub d_X10_worked_145 ?_
          refine kr_iaload d_X10_worked_146 sh_132 ?_
          refine kr_aload0 d_X10_worked_147 ?_
          refine kr_getR (q := 132) d_X10_worked_148 fl_X10_70 sh_111 rfl ?_
          refine kr_iload2 d_X10_worked_151 ?_
          refine kr_iaload d_X10_worked_152 sh_132 ?_
          refine kr_is_i (As := [.int e8, .int (h6 132 ((v2 + (-1)) - 1).toNatClampNeg), .int (h6 132 (v2 + (-1)).toNatClampNeg)]) d_X10_worked_153 cl_X10_332 (m_X10_joined e8 (h6 132 ((v2 + (-1)) - 1).toNatClampNeg) (h6 132 (v2 + (-1)).toNatClampNeg) h6) (Nat.le_of_ble_eq_true rfl) rfl (Nat.le_of_ble_eq_true rfl) (fun r10 h9 => ?_)
          refine kr_iastore d_X10_worked_156 sh_132 ?_
          refine kr_hl (fun h11 => ?_)
          refine kr_iinc3 d_X10_worked_157 (Nat.le_of_ble_eq_true rfl) kv_c1i ?_
          refine kr_goto d_X10_worked_160 ?_
          refine kr_kill4 ?_
          refine kr_kill5 ?_
          exact ih (v2 + (-1)) (v3 + 1) h11 C hC
        · refine kr_aload0 d_X10_worked_100 ?_
          refine kr_getR (q := 132) d_X10_worked_101 fl_X10_70 sh_111 rfl ?_
          refine kr_iload2 d_X10_worked_104 ?_
          refine kr_const (v := 1) d_X10_worked_105 ?_
          refine kr_isub d_X10_worked_106 ?_
          refine kr_aload0 d_X10_worked_107 ?_
          refine kr_getR (q := 132) d_X10_worked_108 fl_X10_70 sh_111 rfl ?_
          refine kr_iload2 d_X10_worked_111 ?_
          refine kr_const (v := 1) d_X10_worked_112 ?_
          refine kr_isub d_X10_worked_113 ?_
          refine kr_iaload d_X10_worked_114 sh_132 ?_
          refine kr_if_ne d_X10_worked_115 ?_ ?_
          · refine kr_const (v := 0) d_X10_worked_122 ?_
            refine kr_iastore d_X10_worked_123 sh_132 ?_
            refine kr_hl (fun h12 => ?_)
            refine kr_goto d_X10_worked_124 ?_
            refine kr_iinc3 d_X10_worked_157 (Nat.le_of_ble_eq_true rfl) kv_c1i ?_
            refine kr_goto d_X10_worked_160 ?_
            refine kr_kill4 ?_
            refine kr_kill5 ?_
            exact ih v2 (v3 + 1) h12 C hC
          · refine kr_const (v := 1) d_X10_worked_118 ?_
            refine kr_goto d_X10_worked_119 ?_
            refine kr_iastore d_X10_worked_123 sh_132 ?_
            refine kr_hl (fun h13 => ?_)
            refine kr_goto d_X10_worked_124 ?_
            refine kr_iinc3 d_X10_worked_157 (Nat.le_of_ble_eq_true rfl) kv_c1i ?_
            refine kr_goto d_X10_worked_160 ?_
            refine kr_kill4 ?_
            refine kr_kill5 ?_
            exact ih v2 (v3 + 1) h13 C hC
      · refine kr_aload0 d_X10_worked_64 ?_
        refine kr_getR (q := 132) d_X10_worked_65 fl_X10_70 sh_111 rfl ?_
        refine kr_iload2 d_X10_worked_68 ?_
        refine kr_iload4 d_X10_worked_69 ?_
        refine kr_if_ne d_X10_worked_71 ?_ ?_
        · refine kr_aload0 d_X10_worked_79 ?_
          refine kr_getR (q := 131) d_X10_worked_80 fl_X10_67 sh_111 rfl ?_
          refine kr_iload5 d_X10_worked_83 ?_
          refine kr_iaload d_X10_worked_85 sh_131 ?_
          refine kr_iastore d_X10_worked_86 sh_132 ?_
          refine kr_hl (fun h14 => ?_)
          refine kr_iinc2 d_X10_worked_87 (Nat.le_of_ble_eq_true rfl) kv_c1i ?_
          refine kr_goto d_X10_worked_90 ?_
          refine kr_iinc3 d_X10_worked_157 (Nat.le_of_ble_eq_true rfl) kv_c1i ?_
          refine kr_goto d_X10_worked_160 ?_
          refine kr_kill4 ?_
          refine kr_kill5 ?_
          exact ih (v2 + 1) (v3 + 1) h14 C hC
        · refine kr_iload5 d_X10_worked_74 ?_
          refine kr_goto d_X10_worked_76 ?_
          refine kr_iastore d_X10_worked_86 sh_132 ?_
          refine kr_hl (fun h15 => ?_)
          refine kr_iinc2 d_X10_worked_87 (Nat.le_of_ble_eq_true rfl) kv_c1i ?_
          refine kr_goto d_X10_worked_90 ?_
          refine kr_iinc3 d_X10_worked_157 (Nat.le_of_ble_eq_true rfl) kv_c1i ?_
          refine kr_goto d_X10_worked_160 ?_
          refine kr_kill4 ?_
          refine kr_kill5 ?_
          exact ih (v2 + 1) (v3 + 1) h15 C hC

set_option maxRecDepth 20000 in
theorem m_X10_worked (x1 : Int32) (h : kv_H) : kv_M kv_i kK_X10_worked [.ref 111, .int x1] h (f_X10_worked x1 h) := by
  refine kv_met (ls := [some (.ref 111), some (.int x1), none, none, none, none]) (show plainName RX10 = true by decide +kernel) (fun _ => rfl) (fun _ => Nat.le_of_ble_eq_true rfl) ?_
  unfold f_X10_worked
  refine kr_const (v := 0) d_X10_worked_0 ?_
  refine kr_istore2 d_X10_worked_1 (Nat.le_of_ble_eq_true rfl) kv_c1i ?_
  refine kr_const (v := 0) d_X10_worked_2 ?_
  refine kr_istore3 d_X10_worked_3 (Nat.le_of_ble_eq_true rfl) kv_c1i ?_
  refine s_f_X10_worked_L4 x1 kv_fu 0 0 h _ (fun  h16 => ?_)
  refine kr_aload0 d_X10_worked_163 ?_
  refine kr_getR (q := 132) d_X10_worked_164 fl_X10_70 sh_111 rfl ?_
  refine kr_const (v := 0) d_X10_worked_167 ?_
  refine kr_ialoadC (j := 0) ⟨by decide, by decide, by decide⟩ d_X10_worked_168 sh_132 ?_
  exact kr_ireturn d_X10_worked_169 rfl

/-! X10_plainRoom -/
def f_X10_plainRoom (x1 : Int32) (h : kv_H) : Option (Int32 × kv_H) :=
  kv_b (f_X10_counts 0 h) (fun r2 h1 =>
  kv_b (f_X10_leafAt x1 h1) (fun r4 h3 =>
  kv_k (r4 + 1) 3098 (kv_vl (h3 112 (r4 + 1).toNatClampNeg) (fun e5 =>
  if 0 ≤ r2 then (kv_hl (kv_up h3 131 115 e5) (fun h6 =>
    kv_hl (kv_up h6 131 110 x1) (fun h7 =>
    kv_b (f_X10_worked r2 h7) (fun r9 h8 =>
    if (1 : Int32) ≤ r9 then (if r9 ≤ (9 : Int32) then (some (r9, h8))
      else (some (9, h8)))
    else (some (1, h8))))))
  else (some (e5, h3))))))
set_option maxRecDepth 20000 in
theorem m_X10_plainRoom (x1 : Int32) (h : kv_H) : kv_M kv_i kK_X10_plainRoom [.ref 111, .int x1] h (f_X10_plainRoom x1 h) := by
  refine kv_met (ls := [some (.ref 111), some (.int x1), none, none, none]) (show plainName RX10 = true by decide +kernel) (fun _ => rfl) (fun _ => Nat.le_of_ble_eq_true rfl) ?_
  unfold f_X10_plainRoom
  refine kr_aload0 d_X10_plainRoom_0 ?_
  refine kr_const (v := 0) d_X10_plainRoom_1 ?_
  refine kr_iv_i (As := [.int 0]) d_X10_plainRoom_2 cl_X10_88 (m_X10_counts 0 h) sh_111 (Nat.le_of_ble_eq_true rfl) rfl (Nat.le_of_ble_eq_true rfl) (fun r2 h1 => ?_)
  refine kr_istore2 d_X10_plainRoom_5 (Nat.le_of_ble_eq_true rfl) kv_c1i ?_
  refine kr_aload0 d_X10_plainRoom_6 ?_
  refine kr_getR (q := 112) d_X10_plainRoom_7 fl_X10_7 sh_111 rfl ?_
  refine kr_aload0 d_X10_plainRoom_10 ?_
  refine kr_iload1 d_X10_plainRoom_11 ?_
  refine kr_iv_i (As := [.int x1]) d_X10_plainRoom_12 cl_X10_92 (m_X10_leafAt x1 h1) sh_111 (Nat.le_of_ble_eq_true rfl) rfl (Nat.le_of_ble_eq_true rfl) (fun r4 h3 => ?_)
  refine kr_const (v := 1) d_X10_plainRoom_15 ?_
  refine kr_iadd d_X10_plainRoom_16 ?_
  refine kr_iaload d_X10_plainRoom_17 sh_112 ?_
  refine kr_vl (fun e5 => ?_)
  refine kr_istore3 d_X10_plainRoom_18 (Nat.le_of_ble_eq_true rfl) kv_c1i ?_
  refine kr_iload2 d_X10_plainRoom_19 ?_
  refine kr_if_ge d_X10_plainRoom_20 ?_ ?_
  · refine kr_aload0 d_X10_plainRoom_25 ?_
    refine kr_getR (q := 131) d_X10_plainRoom_26 fl_X10_67 sh_111 rfl ?_
    refine kr_const (v := 115) d_X10_plainRoom_29 ?_
    refine kr_iload3 d_X10_plainRoom_31 ?_
    refine kr_iastoreC (j := 115) ⟨by decide, by decide, by decide⟩ d_X10_plainRoom_32 sh_131 ?_
    refine kr_hl (fun h6 => ?_)
    refine kr_aload0 d_X10_plainRoom_33 ?_
    refine kr_getR (q := 131) d_X10_plainRoom_34 fl_X10_67 sh_111 rfl ?_
    refine kr_const (v := 110) d_X10_plainRoom_37 ?_
    refine kr_iload1 d_X10_plainRoom_39 ?_
    refine kr_iastoreC (j := 110) ⟨by decide, by decide, by decide⟩ d_X10_plainRoom_40 sh_131 ?_
    refine kr_hl (fun h7 => ?_)
    refine kr_aload0 d_X10_plainRoom_41 ?_
    refine kr_iload2 d_X10_plainRoom_42 ?_
    refine kr_iv_i (As := [.int r2]) d_X10_plainRoom_43 cl_X10_95 (m_X10_worked r2 h7) sh_111 (Nat.le_of_ble_eq_true rfl) rfl (Nat.le_of_ble_eq_true rfl) (fun r9 h8 => ?_)
    refine kr_istore4 d_X10_plainRoom_46 (Nat.le_of_ble_eq_true rfl) kv_c1i ?_
    refine kr_iload4 d_X10_plainRoom_48 ?_
    refine kr_const (v := 1) d_X10_plainRoom_50 ?_
    refine kr_icmp_ge d_X10_plainRoom_51 ?_ ?_
    · refine kr_iload4 d_X10_plainRoom_58 ?_
      refine kr_const (v := 9) d_X10_plainRoom_60 ?_
      refine kr_icmp_le d_X10_plainRoom_62 ?_ ?_
      · refine kr_iload4 d_X10_plainRoom_70 ?_
        exact kr_ireturn d_X10_plainRoom_72 rfl
      · refine kr_const (v := 9) d_X10_plainRoom_65 ?_
        refine kr_goto d_X10_plainRoom_67 ?_
        exact kr_ireturn d_X10_plainRoom_72 rfl
    · refine kr_const (v := 1) d_X10_plainRoom_54 ?_
      refine kr_goto d_X10_plainRoom_55 ?_
      exact kr_ireturn d_X10_plainRoom_72 rfl
  · refine kr_iload3 d_X10_plainRoom_23 ?_
    exact kr_ireturn d_X10_plainRoom_24 rfl

/-! X10_room -/
def f_X10_room (x1 : Int32) (h : kv_H) : Option (Int32 × kv_H) :=
  kv_b (f_X10_leafAt x1 h) (fun r2 h1 =>
  kv_k r2 3098 (kv_vl (h1 112 r2.toNatClampNeg) (fun e3 =>
  if e3 = (5 : Int32) then (some (1, h1))
  else (kv_b (f_X10_plainRoom x1 h1) (fun r5 h4 =>
    if e3 = (1 : Int32) then (some ((r5 + 1), h4))
    else (if e3 = (3 : Int32) then (some (((r5 + 2) / 2), h4))
      else (if e3 = (2 : Int32) then (some (((r5 + 1) / 2), h4))
        else (if e3 = (4 : Int32) then (some ((((r5 + 1) / 2) + 1), h4))
          else (some (r5, h4))))))))))
set_option maxRecDepth 20000 in
theorem m_X10_room (x1 : Int32) (h : kv_H) : kv_M kv_i kK_X10_room [.ref 111, .int x1] h (f_X10_room x1 h) := by
  refine kv_met (ls := [some (.ref 111), some (.int x1), none, none]) (show plainName RX10 = true by decide +kernel) (fun _ => rfl) (fun _ => Nat.le_of_ble_eq_true rfl) ?_
  unfold f_X10_room
  refine kr_aload0 d_X10_room_0 ?_
  refine kr_getR (q := 112) d_X10_room_1 fl_X10_7 sh_111 rfl ?_
  refine kr_aload0 d_X10_room_4 ?_
  refine kr_iload1 d_X10_room_5 ?_
  refine kr_iv_i (As := [.int x1]) d_X10_room_6 cl_X10_92 (m_X10_leafAt x1 h) sh_111 (Nat.le_of_ble_eq_true rfl) rfl (Nat.le_of_ble_eq_true rfl) (fun r2 h1 => ?_)
  refine kr_iaload d_X10_room_9 sh_112 ?_
  refine kr_vl (fun e3 => ?_)
  refine kr_istore2 d_X10_room_10 (Nat.le_of_ble_eq_true rfl) kv_c1i ?_
  refine kr_iload2 d_X10_room_11 ?_
  refine kr_const (v := 5) d_X10_room_12 ?_
  refine kr_icmp_ne d_X10_room_13 ?_ ?_
  · refine kr_aload0 d_X10_room_18 ?_
    refine kr_iload1 d_X10_room_19 ?_
    refine kr_iv_i (As := [.int x1]) d_X10_room_20 cl_X10_98 (m_X10_plainRoom x1 h1) sh_111 (Nat.le_of_ble_eq_true rfl) rfl (Nat.le_of_ble_eq_true rfl) (fun r5 h4 => ?_)
    refine kr_istore3 d_X10_room_23 (Nat.le_of_ble_eq_true rfl) kv_c1i ?_
    refine kr_iload2 d_X10_room_24 ?_
    refine kr_const (v := 1) d_X10_room_25 ?_
    refine kr_icmp_ne d_X10_room_26 ?_ ?_
    · refine kr_iload2 d_X10_room_35 ?_
      refine kr_const (v := 3) d_X10_room_36 ?_
      refine kr_icmp_ne d_X10_room_37 ?_ ?_
      · refine kr_iload2 d_X10_room_48 ?_
        refine kr_const (v := 2) d_X10_room_49 ?_
        refine kr_icmp_ne d_X10_room_50 ?_ ?_
        · refine kr_iload2 d_X10_room_61 ?_
          refine kr_const (v := 4) d_X10_room_62 ?_
          refine kr_icmp_ne d_X10_room_63 ?_ ?_
          · refine kr_iload3 d_X10_room_76 ?_
            exact kr_ireturn d_X10_room_77 rfl
          · refine kr_iload3 d_X10_room_66 ?_
            refine kr_const (v := 1) d_X10_room_67 ?_
            refine kr_iadd d_X10_room_68 ?_
            refine kr_const (v := 2) d_X10_room_69 ?_
            refine kr_idivK (by decide) d_X10_room_70 ?_
            refine kr_const (v := 1) d_X10_room_71 ?_
            refine kr_iadd d_X10_room_72 ?_
            refine kr_goto d_X10_room_73 ?_
            exact kr_ireturn d_X10_room_77 rfl
        · refine kr_iload3 d_X10_room_53 ?_
          refine kr_const (v := 1) d_X10_room_54 ?_
          refine kr_iadd d_X10_room_55 ?_
          refine kr_const (v := 2) d_X10_room_56 ?_
          refine kr_idivK (by decide) d_X10_room_57 ?_
          refine kr_goto d_X10_room_58 ?_
          exact kr_ireturn d_X10_room_77 rfl
      · refine kr_iload3 d_X10_room_40 ?_
        refine kr_const (v := 2) d_X10_room_41 ?_
        refine kr_iadd d_X10_room_42 ?_
        refine kr_const (v := 2) d_X10_room_43 ?_
        refine kr_idivK (by decide) d_X10_room_44 ?_
        refine kr_goto d_X10_room_45 ?_
        exact kr_ireturn d_X10_room_77 rfl
    · refine kr_iload3 d_X10_room_29 ?_
      refine kr_const (v := 1) d_X10_room_30 ?_
      refine kr_iadd d_X10_room_31 ?_
      refine kr_goto d_X10_room_32 ?_
      exact kr_ireturn d_X10_room_77 rfl
  · refine kr_const (v := 1) d_X10_room_16 ?_
    exact kr_ireturn d_X10_room_17 rfl

/-! X10_leaners -/
def f_X10_leaners_L4 (c1 : Int32) : Nat → Int32 → Int32 → kv_H → (Int32 → kv_H → Option (Int32 × kv_H)) → Option (Int32 × kv_H)
  | 0, _, _, _, _ => none
  | n + 1, v2, v3, h, C => if (h 112 0) ≤ v3 then (C v2 h)
    else (kv_b (f_X10_leafAt v3 h) (fun r2 h1 =>
      kv_k (r2 + 4) 3098 (if (h1 112 (r2 + 4).toNatClampNeg) = c1 then (kv_vl (v2 + 1) (fun e4 =>
        f_X10_leaners_L4 c1 n e4 (v3 + 1) h1 C))
      else (kv_vl (v2 + 0) (fun e3 =>
        f_X10_leaners_L4 c1 n e3 (v3 + 1) h1 C)))))
def f_X10_leaners (x1 : Int32) (h : kv_H) : Option (Int32 × kv_H) :=
  f_X10_leaners_L4 x1 kv_fu 0 0 h (fun z5 h6 =>
  some (z5, h6))
set_option maxRecDepth 20000 in
theorem s_f_X10_leaners_L4 (c1 : Int32) : ∀ (n : Nat) (v2 : Int32) (v3 : Int32) (h : kv_H) (C : Int32 → kv_H → Option (Int32 × kv_H)), (∀ (w2 : Int32) (h : kv_H), kv_S kv_i kK_X10_leaners 44 [none, none, some (.int w2), none] [] h (C w2 h)) → kv_S kv_i kK_X10_leaners 4 [some (.ref 111), some (.int c1), some (.int v2), some (.int v3)] [] h (f_X10_leaners_L4 c1 n v2 v3 h C) := by
  intro n
  induction n with
  | zero => intros; exact kv_none
  | succ n ih =>
    intro v2 v3 h C hC
    unfold f_X10_leaners_L4
    refine kr_iload3 d_X10_leaners_4 ?_
    refine kr_aload0 d_X10_leaners_5 ?_
    refine kr_getR (q := 112) d_X10_leaners_6 fl_X10_7 sh_111 rfl ?_
    refine kr_const (v := 0) d_X10_leaners_9 ?_
    refine kr_ialoadC (j := 0) ⟨by decide, by decide, by decide⟩ d_X10_leaners_10 sh_112 ?_
    refine kr_icmp_ge d_X10_leaners_11 ?_ ?_
    · refine kr_kill0 ?_
      refine kr_kill1 ?_
      refine kr_kill3 ?_
      exact hC v2 h
    · refine kr_iload2 d_X10_leaners_14 ?_
      refine kr_aload0 d_X10_leaners_15 ?_
      refine kr_getR (q := 112) d_X10_leaners_16 fl_X10_7 sh_111 rfl ?_
      refine kr_aload0 d_X10_leaners_19 ?_
      refine kr_iload3 d_X10_leaners_20 ?_
      refine kr_iv_i (As := [.int v3]) d_X10_leaners_21 cl_X10_92 (m_X10_leafAt v3 h) sh_111 (Nat.le_of_ble_eq_true rfl) rfl (Nat.le_of_ble_eq_true rfl) (fun r2 h1 => ?_)
      refine kr_const (v := 4) d_X10_leaners_24 ?_
      refine kr_iadd d_X10_leaners_25 ?_
      refine kr_iaload d_X10_leaners_26 sh_112 ?_
      refine kr_iload1 d_X10_leaners_27 ?_
      refine kr_icmp_ne d_X10_leaners_28 ?_ ?_
      · refine kr_const (v := 0) d_X10_leaners_35 ?_
        refine kr_iadd d_X10_leaners_36 ?_
        refine kr_vl (fun e3 => ?_)
        refine kr_istore2 d_X10_leaners_37 (Nat.le_of_ble_eq_true rfl) kv_c1i ?_
        refine kr_iinc3 d_X10_leaners_38 (Nat.le_of_ble_eq_true rfl) kv_c1i ?_
        refine kr_goto d_X10_leaners_41 ?_
        exact ih e3 (v3 + 1) h1 C hC
      · refine kr_const (v := 1) d_X10_leaners_31 ?_
        refine kr_goto d_X10_leaners_32 ?_
        refine kr_iadd d_X10_leaners_36 ?_
        refine kr_vl (fun e4 => ?_)
        refine kr_istore2 d_X10_leaners_37 (Nat.le_of_ble_eq_true rfl) kv_c1i ?_
        refine kr_iinc3 d_X10_leaners_38 (Nat.le_of_ble_eq_true rfl) kv_c1i ?_
        refine kr_goto d_X10_leaners_41 ?_
        exact ih e4 (v3 + 1) h1 C hC

set_option maxRecDepth 20000 in
theorem m_X10_leaners (x1 : Int32) (h : kv_H) : kv_M kv_i kK_X10_leaners [.ref 111, .int x1] h (f_X10_leaners x1 h) := by
  refine kv_met (ls := [some (.ref 111), some (.int x1), none, none]) (show plainName RX10 = true by decide +kernel) (fun _ => rfl) (fun _ => Nat.le_of_ble_eq_true rfl) ?_
  unfold f_X10_leaners
  refine kr_const (v := 0) d_X10_leaners_0 ?_
  refine kr_istore2 d_X10_leaners_1 (Nat.le_of_ble_eq_true rfl) kv_c1i ?_
  refine kr_const (v := 0) d_X10_leaners_2 ?_
  refine kr_istore3 d_X10_leaners_3 (Nat.le_of_ble_eq_true rfl) kv_c1i ?_
  refine s_f_X10_leaners_L4 x1 kv_fu 0 0 h _ (fun z5 h6 => ?_)
  refine kr_iload2 d_X10_leaners_44 ?_
  exact kr_ireturn d_X10_leaners_45 rfl

/-! X10_miss -/
def f_X10_miss (x1 : Int32) (h : kv_H) : Option (Int32 × kv_H) :=
  kv_b (f_X10_leafAt x1 h) (fun r2 h1 =>
  kv_k (r2 + 2) 3098 (kv_vl (h1 112 (r2 + 2).toNatClampNeg) (fun e3 =>
  kv_b (f_X10_counts 1 h1) (fun r5 h4 =>
  kv_jn (fun (x6 : Int32) (h7 : kv_H) =>
  kv_k r2 3098 (kv_sw (h7 112 r2.toNatClampNeg) [1, 2, 3, 4, 5] [(some ((x6 + 5), h7)),
    (some ((x6 / 2), h7)),
    (kv_k (r2 + 1) 3098 (some (((x6 + 5) + (h7 112 (r2 + 1).toNatClampNeg)), h7))),
    (some (((x6 / 2) * 2), h7)),
    (kv_b (f_X10_leaners x1 h7) (fun r9 h8 =>
      some ((x6 + r9), h8)))] (some (x6, h7)))) (fun (J88 : Int32 → kv_H → Option (Int32 × kv_H)) =>
  if r5 < 0 then (J88 e3 h4)
  else (kv_hl (kv_up h4 131 108 e3) (fun h10 =>
    kv_hl (kv_up h10 131 110 x1) (fun h11 =>
    kv_k (r2 + 1) 3098 (kv_hl (kv_up h11 131 115 (h11 112 (r2 + 1).toNatClampNeg)) (fun h12 =>
    kv_b (f_X10_worked r5 h12) (fun r14 h13 =>
    if 0 ≤ r14 then (if r14 ≤ (999 : Int32) then (J88 r14 h13)
      else (J88 999 h13))
    else (J88 0 h13))))))))))))
set_option maxRecDepth 20000 in
theorem m_X10_miss (x1 : Int32) (h : kv_H) : kv_M kv_i kK_X10_miss [.ref 111, .int x1] h (f_X10_miss x1 h) := by
  refine kv_met (ls := [some (.ref 111), some (.int x1), none, none, none]) (show plainName RX10 = true by decide +kernel) (fun _ => rfl) (fun _ => Nat.le_of_ble_eq_true rfl) ?_
  unfold f_X10_miss
  refine kr_aload0 d_X10_miss_0 ?_
  refine kr_iload1 d_X10_miss_1 ?_
  refine kr_iv_i (As := [.int x1]) d_X10_miss_2 cl_X10_92 (m_X10_leafAt x1 h) sh_111 (Nat.le_of_ble_eq_true rfl) rfl (Nat.le_of_ble_eq_true rfl) (fun r2 h1 => ?_)
  refine kr_istore2 d_X10_miss_5 (Nat.le_of_ble_eq_true rfl) kv_c1i ?_
  refine kr_aload0 d_X10_miss_6 ?_
  refine kr_getR (q := 112) d_X10_miss_7 fl_X10_7 sh_111 rfl ?_
  refine kr_iload2 d_X10_miss_10 ?_
  refine kr_const (v := 2) d_X10_miss_11 ?_
  refine kr_iadd d_X10_miss_12 ?_
  refine kr_iaload d_X10_miss_13 sh_112 ?_
  refine kr_vl (fun e3 => ?_)
  refine kr_istore3 d_X10_miss_14 (Nat.le_of_ble_eq_true rfl) kv_c1i ?_
  refine kr_aload0 d_X10_miss_15 ?_
  refine kr_const (v := 1) d_X10_miss_16 ?_
  refine kr_iv_i (As := [.int 1]) d_X10_miss_17 cl_X10_88 (m_X10_counts 1 h1) sh_111 (Nat.le_of_ble_eq_true rfl) rfl (Nat.le_of_ble_eq_true rfl) (fun r5 h4 => ?_)
  refine kr_istore4 d_X10_miss_20 (Nat.le_of_ble_eq_true rfl) kv_c1i ?_
  refine kr_iload4 d_X10_miss_22 ?_
  refine kr_jn (P := fun J88 => ∀ (x6 : Int32), ∀ (h7 : kv_H), kv_S kv_i kK_X10_miss 88 [some (.ref 111), some (.int x1), some (.int r2), some (.int x6), none] [] h7 (J88 x6 h7)) (fun x6 h7 => ?_) (fun J88 hJ88 => ?_)
  · refine kr_aload0 d_X10_miss_88 ?_
    refine kr_getR (q := 112) d_X10_miss_89 fl_X10_7 sh_111 rfl ?_
    refine kr_iload2 d_X10_miss_92 ?_
    refine kr_iaload d_X10_miss_93 sh_112 ?_
    refine kr_sw d_X10_miss_94 ?_ ⟨?_, ?_, ?_, ?_, ?_, trivial⟩
    · refine kr_iload3 d_X10_miss_163 ?_
      exact kr_ireturn d_X10_miss_164 rfl
    · refine kr_iload3 d_X10_miss_128 ?_
      refine kr_const (v := 5) d_X10_miss_129 ?_
      refine kr_iadd d_X10_miss_130 ?_
      exact kr_ireturn d_X10_miss_131 rfl
    · refine kr_iload3 d_X10_miss_132 ?_
      refine kr_const (v := 2) d_X10_miss_133 ?_
      refine kr_idivK (by decide) d_X10_miss_134 ?_
      exact kr_ireturn d_X10_miss_135 rfl
    · refine kr_iload3 d_X10_miss_136 ?_
      refine kr_const (v := 5) d_X10_miss_137 ?_
      refine kr_iadd d_X10_miss_138 ?_
      refine kr_aload0 d_X10_miss_139 ?_
      refine kr_getR (q := 112) d_X10_miss_140 fl_X10_7 sh_111 rfl ?_
      refine kr_iload2 d_X10_miss_143 ?_
      refine kr_const (v := 1) d_X10_miss_144 ?_
      refine kr_iadd d_X10_miss_145 ?_
      refine kr_iaload d_X10_miss_146 sh_112 ?_
      refine kr_iadd d_X10_miss_147 ?_
      exact kr_ireturn d_X10_miss_148 rfl
    · refine kr_iload3 d_X10_miss_149 ?_
      refine kr_const (v := 2) d_X10_miss_150 ?_
      refine kr_idivK (by decide) d_X10_miss_151 ?_
      refine kr_const (v := 2) d_X10_miss_152 ?_
      refine kr_imul d_X10_miss_153 ?_
      exact kr_ireturn d_X10_miss_154 rfl
    · refine kr_iload3 d_X10_miss_155 ?_
      refine kr_aload0 d_X10_miss_156 ?_
      refine kr_iload1 d_X10_miss_157 ?_
      refine kr_iv_i (As := [.int x1]) d_X10_miss_158 cl_X10_101 (m_X10_leaners x1 h7) sh_111 (Nat.le_of_ble_eq_true rfl) rfl (Nat.le_of_ble_eq_true rfl) (fun r9 h8 => ?_)
      refine kr_iadd d_X10_miss_161 ?_
      exact kr_ireturn d_X10_miss_162 rfl
  refine kr_if_lt d_X10_miss_24 ?_ ?_
  · refine kr_kill4 ?_
    exact hJ88 e3 h4
  · refine kr_aload0 d_X10_miss_27 ?_
    refine kr_getR (q := 131) d_X10_miss_28 fl_X10_67 sh_111 rfl ?_
    refine kr_const (v := 108) d_X10_miss_31 ?_
    refine kr_iload3 d_X10_miss_33 ?_
    refine kr_iastoreC (j := 108) ⟨by decide, by decide, by decide⟩ d_X10_miss_34 sh_131 ?_
    refine kr_hl (fun h10 => ?_)
    refine kr_aload0 d_X10_miss_35 ?_
    refine kr_getR (q := 131) d_X10_miss_36 fl_X10_67 sh_111 rfl ?_
    refine kr_const (v := 110) d_X10_miss_39 ?_
    refine kr_iload1 d_X10_miss_41 ?_
    refine kr_iastoreC (j := 110) ⟨by decide, by decide, by decide⟩ d_X10_miss_42 sh_131 ?_
    refine kr_hl (fun h11 => ?_)
    refine kr_aload0 d_X10_miss_43 ?_
    refine kr_getR (q := 131) d_X10_miss_44 fl_X10_67 sh_111 rfl ?_
    refine kr_const (v := 115) d_X10_miss_47 ?_
    refine kr_aload0 d_X10_miss_49 ?_
    refine kr_getR (q := 112) d_X10_miss_50 fl_X10_7 sh_111 rfl ?_
    refine kr_iload2 d_X10_miss_53 ?_
    refine kr_const (v := 1) d_X10_miss_54 ?_
    refine kr_iadd d_X10_miss_55 ?_
    refine kr_iaload d_X10_miss_56 sh_112 ?_
    refine kr_iastoreC (j := 115) ⟨by decide, by decide, by decide⟩ d_X10_miss_57 sh_131 ?_
    refine kr_hl (fun h12 => ?_)
    refine kr_aload0 d_X10_miss_58 ?_
    refine kr_iload4 d_X10_miss_59 ?_
    refine kr_iv_i (As := [.int r5]) d_X10_miss_61 cl_X10_95 (m_X10_worked r5 h12) sh_111 (Nat.le_of_ble_eq_true rfl) rfl (Nat.le_of_ble_eq_true rfl) (fun r14 h13 => ?_)
    refine kr_istore3 d_X10_miss_64 (Nat.le_of_ble_eq_true rfl) kv_c1i ?_
    refine kr_iload3 d_X10_miss_65 ?_
    refine kr_if_ge d_X10_miss_66 ?_ ?_
    · refine kr_iload3 d_X10_miss_73 ?_
      refine kr_const (v := 999) d_X10_miss_74 ?_
      refine kr_icmp_le d_X10_miss_77 ?_ ?_
      · refine kr_iload3 d_X10_miss_86 ?_
        refine kr_istore3 d_X10_miss_87 (Nat.le_of_ble_eq_true rfl) kv_c1i ?_
        refine kr_kill4 ?_
        exact hJ88 r14 h13
      · refine kr_const (v := 999) d_X10_miss_80 ?_
        refine kr_goto d_X10_miss_83 ?_
        refine kr_istore3 d_X10_miss_87 (Nat.le_of_ble_eq_true rfl) kv_c1i ?_
        refine kr_kill4 ?_
        exact hJ88 999 h13
    · refine kr_const (v := 0) d_X10_miss_69 ?_
      refine kr_goto d_X10_miss_70 ?_
      refine kr_istore3 d_X10_miss_87 (Nat.le_of_ble_eq_true rfl) kv_c1i ?_
      refine kr_kill4 ?_
      exact hJ88 0 h13

/-! X10_worth -/
def f_X10_worth (x1 : Int32) (h : kv_H) : Option (Int32 × kv_H) :=
  kv_b (f_X10_leafAt x1 h) (fun r2 h1 =>
  kv_k (r2 + 2) 3098 (kv_k (r2 + 1) 3098 (kv_vl ((h1 112 (r2 + 2).toNatClampNeg) + (h1 112 (r2 + 1).toNatClampNeg)) (fun e3 =>
  kv_k r2 3098 (kv_sw (h1 112 r2.toNatClampNeg) [1, 2, 3, 4, 5] [(some ((e3 + 10), h1)),
  (some ((e3 / 2), h1)),
  (kv_k (r2 + 2) 3098 (some (((h1 112 (r2 + 2).toNatClampNeg) + 10), h1))),
  (kv_k (r2 + 3) 3098 (some (((e3 / 2) + (h1 112 (r2 + 3).toNatClampNeg)), h1))),
  (some (7, h1))] (some (e3, h1)))))))
set_option maxRecDepth 20000 in
theorem m_X10_worth (x1 : Int32) (h : kv_H) : kv_M kv_i kK_X10_worth [.ref 111, .int x1] h (f_X10_worth x1 h) := by
  refine kv_met (ls := [some (.ref 111), some (.int x1), none, none]) (show plainName RX10 = true by decide +kernel) (fun _ => rfl) (fun _ => Nat.le_of_ble_eq_true rfl) ?_
  unfold f_X10_worth
  refine kr_aload0 d_X10_worth_0 ?_
  refine kr_iload1 d_X10_worth_1 ?_
  refine kr_iv_i (As := [.int x1]) d_X10_worth_2 cl_X10_92 (m_X10_leafAt x1 h) sh_111 (Nat.le_of_ble_eq_true rfl) rfl (Nat.le_of_ble_eq_true rfl) (fun r2 h1 => ?_)
  refine kr_istore2 d_X10_worth_5 (Nat.le_of_ble_eq_true rfl) kv_c1i ?_
  refine kr_aload0 d_X10_worth_6 ?_
  refine kr_getR (q := 112) d_X10_worth_7 fl_X10_7 sh_111 rfl ?_
  refine kr_iload2 d_X10_worth_10 ?_
  refine kr_const (v := 2) d_X10_worth_11 ?_
  refine kr_iadd d_X10_worth_12 ?_
  refine kr_iaload d_X10_worth_13 sh_112 ?_
  refine kr_aload0 d_X10_worth_14 ?_
  refine kr_getR (q := 112) d_X10_worth_15 fl_X10_7 sh_111 rfl ?_
  refine kr_iload2 d_X10_worth_18 ?_
  refine kr_const (v := 1) d_X10_worth_19 ?_
  refine kr_iadd d_X10_worth_20 ?_
  refine kr_iaload d_X10_worth_21 sh_112 ?_
  refine kr_iadd d_X10_worth_22 ?_
  refine kr_vl (fun e3 => ?_)
  refine kr_istore3 d_X10_worth_23 (Nat.le_of_ble_eq_true rfl) kv_c1i ?_
  refine kr_aload0 d_X10_worth_24 ?_
  refine kr_getR (q := 112) d_X10_worth_25 fl_X10_7 sh_111 rfl ?_
  refine kr_iload2 d_X10_worth_28 ?_
  refine kr_iaload d_X10_worth_29 sh_112 ?_
  refine kr_sw d_X10_worth_30 ?_ ⟨?_, ?_, ?_, ?_, ?_, trivial⟩
  · refine kr_iload3 d_X10_worth_101 ?_
    exact kr_ireturn d_X10_worth_102 rfl
  · refine kr_iload3 d_X10_worth_64 ?_
    refine kr_const (v := 10) d_X10_worth_65 ?_
    refine kr_iadd d_X10_worth_67 ?_
    exact kr_ireturn d_X10_worth_68 rfl
  · refine kr_iload3 d_X10_worth_69 ?_
    refine kr_const (v := 2) d_X10_worth_70 ?_
    refine kr_idivK (by decide) d_X10_worth_71 ?_
    exact kr_ireturn d_X10_worth_72 rfl
  · refine kr_aload0 d_X10_worth_73 ?_
    refine kr_getR (q := 112) d_X10_worth_74 fl_X10_7 sh_111 rfl ?_
    refine kr_iload2 d_X10_worth_77 ?_
    refine kr_const (v := 2) d_X10_worth_78 ?_
    refine kr_iadd d_X10_worth_79 ?_
    refine kr_iaload d_X10_worth_80 sh_112 ?_
    refine kr_const (v := 10) d_X10_worth_81 ?_
    refine kr_iadd d_X10_worth_83 ?_
    exact kr_ireturn d_X10_worth_84 rfl
  · refine kr_iload3 d_X10_worth_85 ?_
    refine kr_const (v := 2) d_X10_worth_86 ?_
    refine kr_idivK (by decide) d_X10_worth_87 ?_
    refine kr_aload0 d_X10_worth_88 ?_
    refine kr_getR (q := 112) d_X10_worth_89 fl_X10_7 sh_111 rfl ?_
    refine kr_iload2 d_X10_worth_92 ?_
    refine kr_const (v := 3) d_X10_worth_93 ?_
    refine kr_iadd d_X10_worth_94 ?_
    refine kr_iaload d_X10_worth_95 sh_112 ?_
    refine kr_iadd d_X10_worth_96 ?_
    exact kr_ireturn d_X10_worth_97 rfl
  · refine kr_const (v := 7) d_X10_worth_98 ?_
    exact kr_ireturn d_X10_worth_100 rfl

/-! X10_knows -/
def f_X10_knows_L2 : Nat → Int32 → kv_H → (kv_H → Option (Unit × kv_H)) → Option (Unit × kv_H)
  | 0, _, _, _ => none
  | n + 1, v1, h, C => if (h 112 0) ≤ v1 then (C h)
    else (kv_b (f_X10_room v1 h) (fun r2 h1 =>
      kv_k v1 8 (kv_hl (kv_up h1 123 v1.toNatClampNeg r2) (fun h3 =>
      kv_b (f_X10_miss v1 h3) (fun r5 h4 =>
      kv_k v1 8 (kv_hl (kv_up h4 124 v1.toNatClampNeg r5) (fun h6 =>
      f_X10_knows_L2 n (v1 + 1) h6 C)))))))
def f_X10_knows (h : kv_H) : Option (Unit × kv_H) :=
  f_X10_knows_L2 kv_fu 0 h (fun  h7 =>
  some ((), h7))
set_option maxRecDepth 20000 in
theorem s_f_X10_knows_L2 : ∀ (n : Nat) (v1 : Int32) (h : kv_H) (C : kv_H → Option (Unit × kv_H)), (∀  (h : kv_H), kv_S kv_u kK_X10_knows 40 [none, none] [] h (C h)) → kv_S kv_u kK_X10_knows 2 [some (.ref 111), some (.int v1)] [] h (f_X10_knows_L2 n v1 h C) := by
  intro n
  induction n with
  | zero => intros; exact kv_none
  | succ n ih =>
    intro v1 h C hC
    unfold f_X10_knows_L2
    refine kr_iload1 d_X10_knows_2 ?_
    refine kr_aload0 d_X10_knows_3 ?_
    refine kr_getR (q := 112) d_X10_knows_4 fl_X10_7 sh_111 rfl ?_
    refine kr_const (v := 0) d_X10_knows_7 ?_
    refine kr_ialoadC (j := 0) ⟨by decide, by decide, by decide⟩ d_X10_knows_8 sh_112 ?_
    refine kr_icmp_ge d_X10_knows_9 ?_ ?_
    · refine kr_kill0 ?_
      refine kr_kill1 ?_
      exact hC h
    · refine kr_aload0 d_X10_knows_12 ?_
      refine kr_getR (q := 123) d_X10_knows_13 fl_X10_43 sh_111 rfl ?_
      refine kr_iload1 d_X10_knows_16 ?_
      refine kr_aload0 d_X10_knows_17 ?_
      refine kr_iload1 d_X10_knows_18 ?_
      refine kr_iv_i (As := [.int v1]) d_X10_knows_19 cl_X10_104 (m_X10_room v1 h) sh_111 (Nat.le_of_ble_eq_true rfl) rfl (Nat.le_of_ble_eq_true rfl) (fun r2 h1 => ?_)
      refine kr_iastore d_X10_knows_22 sh_123 ?_
      refine kr_hl (fun h3 => ?_)
      refine kr_aload0 d_X10_knows_23 ?_
      refine kr_getR (q := 124) d_X10_knows_24 fl_X10_46 sh_111 rfl ?_
      refine kr_iload1 d_X10_knows_27 ?_
      refine kr_aload0 d_X10_knows_28 ?_
      refine kr_iload1 d_X10_knows_29 ?_
      refine kr_iv_i (As := [.int v1]) d_X10_knows_30 cl_X10_107 (m_X10_miss v1 h3) sh_111 (Nat.le_of_ble_eq_true rfl) rfl (Nat.le_of_ble_eq_true rfl) (fun r5 h4 => ?_)
      refine kr_iastore d_X10_knows_33 sh_124 ?_
      refine kr_hl (fun h6 => ?_)
      refine kr_iinc1 d_X10_knows_34 (Nat.le_of_ble_eq_true rfl) kv_c1a ?_
      refine kr_goto d_X10_knows_37 ?_
      exact ih (v1 + 1) h6 C hC

set_option maxRecDepth 20000 in
theorem m_X10_knows (h : kv_H) : kv_M kv_u kK_X10_knows [.ref 111] h (f_X10_knows h) := by
  refine kv_met (ls := [some (.ref 111), none]) (show plainName RX10 = true by decide +kernel) (fun _ => rfl) (fun _ => Nat.le_of_ble_eq_true rfl) ?_
  unfold f_X10_knows
  refine kr_const (v := 0) d_X10_knows_0 ?_
  refine kr_istore1 d_X10_knows_1 (Nat.le_of_ble_eq_true rfl) kv_c1a ?_
  refine s_f_X10_knows_L2 kv_fu 0 h _ (fun  h7 => ?_)
  exact kr_return d_X10_knows_40 rfl

/-! X10_comes -/
def f_X10_comes (x1 : Int32) (x2 : Int32) (x3 : Int32) (x4 : Int32) (h : kv_H) : Option (Unit × kv_H) :=
  kv_b (f_X10_leafAt (h 112 0) h) (fun r2 h1 =>
  kv_k r2 3098 (kv_hl (kv_up h1 112 r2.toNatClampNeg x1) (fun h3 =>
  kv_k (r2 + 1) 3098 (kv_hl (kv_up h3 112 (r2 + 1).toNatClampNeg x2) (fun h4 =>
  kv_k (r2 + 2) 3098 (kv_hl (kv_up h4 112 (r2 + 2).toNatClampNeg x3) (fun h5 =>
  kv_k (r2 + 3) 3098 (kv_hl (kv_up h5 112 (r2 + 3).toNatClampNeg 1) (fun h6 =>
  kv_k (r2 + 4) 3098 (kv_hl (kv_up h6 112 (r2 + 4).toNatClampNeg x4) (fun h7 =>
  kv_k (r2 + 5) 3098 (kv_hl (kv_up h7 112 (r2 + 5).toNatClampNeg 0) (fun h8 =>
  kv_k (r2 + 6) 3098 (kv_hl (kv_up h8 112 (r2 + 6).toNatClampNeg 0) (fun h9 =>
  kv_hl (kv_up h9 112 0 ((h9 112 0) + 1)) (fun h10 =>
  some ((), h10)))))))))))))))))
set_option maxRecDepth 20000 in
theorem m_X10_comes (x1 : Int32) (x2 : Int32) (x3 : Int32) (x4 : Int32) (h : kv_H) : kv_M kv_u kK_X10_comes [.ref 111, .int x1, .int x2, .int x3, .int x4] h (f_X10_comes x1 x2 x3 x4 h) := by
  refine kv_met (ls := [some (.ref 111), some (.int x1), some (.int x2), some (.int x3), some (.int x4), none]) (show plainName RX10 = true by decide +kernel) (fun _ => rfl) (fun _ => Nat.le_of_ble_eq_true rfl) ?_
  unfold f_X10_comes
  refine kr_aload0 d_X10_comes_0 ?_
  refine kr_aload0 d_X10_comes_1 ?_
  refine kr_getR (q := 112) d_X10_comes_2 fl_X10_7 sh_111 rfl ?_
  refine kr_const (v := 0) d_X10_comes_5 ?_
  refine kr_ialoadC (j := 0) ⟨by decide, by decide, by decide⟩ d_X10_comes_6 sh_112 ?_
  refine kr_iv_i (As := [.int (h 112 0)]) d_X10_comes_7 cl_X10_92 (m_X10_leafAt (h 112 0) h) sh_111 (Nat.le_of_ble_eq_true rfl) rfl (Nat.le_of_ble_eq_true rfl) (fun r2 h1 => ?_)
  refine kr_istore5 d_X10_comes_10 (Nat.le_of_ble_eq_true rfl) kv_c1i ?_
  refine kr_aload0 d_X10_comes_12 ?_
  refine kr_getR (q := 112) d_X10_comes_13 fl_X10_7 sh_111 rfl ?_
  refine kr_iload5 d_X10_comes_16 ?_
  refine kr_iload1 d_X10_comes_18 ?_
  refine kr_iastore d_X10_comes_19 sh_112 ?_
  refine kr_hl (fun h3 => ?_)
  refine kr_aload0 d_X10_comes_20 ?_
  refine kr_getR (q := 112) d_X10_comes_21 fl_X10_7 sh_111 rfl ?_
  refine kr_iload5 d_X10_comes_24 ?_
  refine kr_const (v := 1) d_X10_comes_26 ?_
  refine kr_iadd d_X10_comes_27 ?_
  refine kr_iload2 d_X10_comes_28 ?_
  refine kr_iastore d_X10_comes_29 sh_112 ?_
  refine kr_hl (fun h4 => ?_)
  refine kr_aload0 d_X10_comes_30 ?_
  refine kr_getR (q := 112) d_X10_comes_31 fl_X10_7 sh_111 rfl ?_
  refine kr_iload5 d_X10_comes_34 ?_
  refine kr_const (v := 2) d_X10_comes_36 ?_
  refine kr_iadd d_X10_comes_37 ?_
  refine kr_iload3 d_X10_comes_38 ?_
  refine kr_iastore d_X10_comes_39 sh_112 ?_
  refine kr_hl (fun h5 => ?_)
  refine kr_aload0 d_X10_comes_40 ?_
  refine kr_getR (q := 112) d_X10_comes_41 fl_X10_7 sh_111 rfl ?_
  refine kr_iload5 d_X10_comes_44 ?_
  refine kr_const (v := 3) d_X10_comes_46 ?_
  refine kr_iadd d_X10_comes_47 ?_
  refine kr_const (v := 1) d_X10_comes_48 ?_
  refine kr_iastore d_X10_comes_49 sh_112 ?_
  refine kr_hl (fun h6 => ?_)
  refine kr_aload0 d_X10_comes_50 ?_
  refine kr_getR (q := 112) d_X10_comes_51 fl_X10_7 sh_111 rfl ?_
  refine kr_iload5 d_X10_comes_54 ?_
  refine kr_const (v := 4) d_X10_comes_56 ?_
  refine kr_iadd d_X10_comes_57 ?_
  refine kr_iload4 d_X10_comes_58 ?_
  refine kr_iastore d_X10_comes_60 sh_112 ?_
  refine kr_hl (fun h7 => ?_)
  refine kr_aload0 d_X10_comes_61 ?_
  refine kr_getR (q := 112) d_X10_comes_62 fl_X10_7 sh_111 rfl ?_
  refine kr_iload5 d_X10_comes_65 ?_
  refine kr_const (v := 5) d_X10_comes_67 ?_
  refine kr_iadd d_X10_comes_68 ?_
  refine kr_const (v := 0) d_X10_comes_69 ?_
  refine kr_iastore d_X10_comes_70 sh_112 ?_
  refine kr_hl (fun h8 => ?_)
  refine kr_aload0 d_X10_comes_71 ?_
  refine kr_getR (q := 112) d_X10_comes_72 fl_X10_7 sh_111 rfl ?_
  refine kr_iload5 d_X10_comes_75 ?_
  refine kr_const (v := 6) d_X10_comes_77 ?_
  refine kr_iadd d_X10_comes_79 ?_
  refine kr_const (v := 0) d_X10_comes_80 ?_
  refine kr_iastore d_X10_comes_81 sh_112 ?_
  refine kr_hl (fun h9 => ?_)
  refine kr_aload0 d_X10_comes_82 ?_
  refine kr_getR (q := 112) d_X10_comes_83 fl_X10_7 sh_111 rfl ?_
  refine kr_const (v := 0) d_X10_comes_86 ?_
  refine kr_dup2 d_X10_comes_87 rfl rfl ?_
  refine kr_ialoadC (j := 0) ⟨by decide, by decide, by decide⟩ d_X10_comes_88 sh_112 ?_
  refine kr_const (v := 1) d_X10_comes_89 ?_
  refine kr_iadd d_X10_comes_90 ?_
  refine kr_iastoreC (j := 0) ⟨by decide, by decide, by decide⟩ d_X10_comes_91 sh_112 ?_
  refine kr_hl (fun h10 => ?_)
  exact kr_return d_X10_comes_92 rfl

/-! X10_leaf -/
def f_X10_leaf (x1 : Int32) (x2 : Int32) (x3 : Int32) (x4 : Int32) (h : kv_H) : Option (Int32 × kv_H) :=
  kv_b (f_X10_isIn (x1.toInt64) 0 5 h) (fun r2 h1 =>
  if r2 = 0 then (some ((-1000000001), h1))
  else (kv_b (f_X10_isIn (x2.toInt64) 1 9 h1) (fun r4 h3 =>
    if r4 = 0 then (some ((-1000000001), h3))
    else (kv_b (f_X10_isIn (x3.toInt64) 0 99 h3) (fun r6 h5 =>
      if r6 = 0 then (some ((-1000000001), h5))
      else (kv_jn (fun  (h7 : kv_H) =>
        if (h7 112 0) = (8 : Int32) then (some ((-1000000003), h7))
          else (kv_jn (fun (y8 : Int32) (h9 : kv_H) =>
            kv_b (f_X10_comes x1 x2 x3 y8 h9) (fun _ h10 =>
              some (((h10 112 0) - 1), h10))) (fun (J86 : Int32 → kv_H → Option (Int32 × kv_H)) =>
            if x4 = (-1000000005 : Int32) then (J86 (-1) h7)
            else (J86 x4 h7)))) (fun (J55 : kv_H → Option (Int32 × kv_H)) =>
        if x4 = (-1000000005 : Int32) then (J55 h5)
        else (kv_b (f_X10_isLeaf x4 h5) (fun r12 h11 =>
          if r12 = 0 then (some ((-1000000001), h11))
          else (J55 h11))))))))))
set_option maxRecDepth 20000 in
theorem m_X10_leaf (x1 : Int32) (x2 : Int32) (x3 : Int32) (x4 : Int32) (h : kv_H) : kv_M kv_i kK_X10_leaf [.ref 111, .int x1, .int x2, .int x3, .int x4] h (f_X10_leaf x1 x2 x3 x4 h) := by
  refine kv_met (ls := [some (.ref 111), some (.int x1), some (.int x2), some (.int x3), some (.int x4)]) (show plainName RX10 = true by decide +kernel) (fun _ => rfl) (fun _ => Nat.le_of_ble_eq_true rfl) ?_
  unfold f_X10_leaf
  refine kr_iload1 d_X10_leaf_0 ?_
  refine kr_i2l d_X10_leaf_1 ?_
  refine kr_constL (v := 0) d_X10_leaf_2 ?_
  refine kr_constL (v := 5) d_X10_leaf_3 ?_
  refine kr_is_i (As := [.long (x1.toInt64), .long 0, .long 5]) d_X10_leaf_6 cl_X10_83 (m_X10_isIn (x1.toInt64) 0 5 h) (Nat.le_of_ble_eq_true rfl) rfl (Nat.le_of_ble_eq_true rfl) (fun r2 h1 => ?_)
  refine kr_if_eq d_X10_leaf_9 ?_ ?_
  · refine kr_const (v := (-1000000001)) d_X10_leaf_52 ?_
    exact kr_ireturn d_X10_leaf_54 rfl
  · refine kr_iload2 d_X10_leaf_12 ?_
    refine kr_i2l d_X10_leaf_13 ?_
    refine kr_constL (v := 1) d_X10_leaf_14 ?_
    refine kr_constL (v := 9) d_X10_leaf_15 ?_
    refine kr_is_i (As := [.long (x2.toInt64), .long 1, .long 9]) d_X10_leaf_18 cl_X10_83 (m_X10_isIn (x2.toInt64) 1 9 h1) (Nat.le_of_ble_eq_true rfl) rfl (Nat.le_of_ble_eq_true rfl) (fun r4 h3 => ?_)
    refine kr_if_eq d_X10_leaf_21 ?_ ?_
    · refine kr_const (v := (-1000000001)) d_X10_leaf_52 ?_
      exact kr_ireturn d_X10_leaf_54 rfl
    · refine kr_iload3 d_X10_leaf_24 ?_
      refine kr_i2l d_X10_leaf_25 ?_
      refine kr_constL (v := 0) d_X10_leaf_26 ?_
      refine kr_constL (v := 99) d_X10_leaf_27 ?_
      refine kr_is_i (As := [.long (x3.toInt64), .long 0, .long 99]) d_X10_leaf_30 cl_X10_83 (m_X10_isIn (x3.toInt64) 0 99 h3) (Nat.le_of_ble_eq_true rfl) rfl (Nat.le_of_ble_eq_true rfl) (fun r6 h5 => ?_)
      refine kr_if_eq d_X10_leaf_33 ?_ ?_
      · refine kr_const (v := (-1000000001)) d_X10_leaf_52 ?_
        exact kr_ireturn d_X10_leaf_54 rfl
      · refine kr_iload4 d_X10_leaf_36 ?_
        refine kr_const (v := (-1000000005)) d_X10_leaf_38 ?_
        refine kr_jn (P := fun J55 =>  ∀ (h7 : kv_H), kv_S kv_i kK_X10_leaf 55 [some (.ref 111), some (.int x1), some (.int x2), some (.int x3), some (.int x4)] [] h7 (J55  h7)) (fun  h7 => ?_) (fun J55 hJ55 => ?_)
        · refine kr_aload0 d_X10_leaf_55 ?_
          refine kr_getR (q := 112) d_X10_leaf_56 fl_X10_7 sh_111 rfl ?_
          refine kr_const (v := 0) d_X10_leaf_59 ?_
          refine kr_ialoadC (j := 0) ⟨by decide, by decide, by decide⟩ d_X10_leaf_60 sh_112 ?_
          refine kr_const (v := 8) d_X10_leaf_61 ?_
          refine kr_icmp_ne d_X10_leaf_63 ?_ ?_
          · refine kr_aload0 d_X10_leaf_69 ?_
            refine kr_iload1 d_X10_leaf_70 ?_
            refine kr_iload2 d_X10_leaf_71 ?_
            refine kr_iload3 d_X10_leaf_72 ?_
            refine kr_iload4 d_X10_leaf_73 ?_
            refine kr_const (v := (-1000000005)) d_X10_leaf_75 ?_
            refine kr_jn (P := fun J86 => ∀ (y8 : Int32), ∀ (h9 : kv_H), kv_S kv_i kK_X10_leaf 86 [some (.ref 111), none, none, none, none] [.int y8, .int x3, .int x2, .int x1, .ref 111] h9 (J86 y8 h9)) (fun y8 h9 => ?_) (fun J86 hJ86 => ?_)
            · refine kr_iv_u (As := [.int x1, .int x2, .int x3, .int y8]) d_X10_leaf_86 cl_X10_122 (m_X10_comes x1 x2 x3 y8 h9) sh_111 (Nat.le_of_ble_eq_true rfl) rfl (Nat.le_of_ble_eq_true rfl) (fun h10 => ?_)
              refine kr_aload0 d_X10_leaf_89 ?_
              refine kr_getR (q := 112) d_X10_leaf_90 fl_X10_7 sh_111 rfl ?_
              refine kr_const (v := 0) d_X10_leaf_93 ?_
              refine kr_ialoadC (j := 0) ⟨by decide, by decide, by decide⟩ d_X10_leaf_94 sh_112 ?_
              refine kr_const (v := 1) d_X10_leaf_95 ?_
              refine kr_isub d_X10_leaf_96 ?_
              exact kr_ireturn d_X10_leaf_97 rfl
            refine kr_icmp_ne d_X10_leaf_77 ?_ ?_
            · refine kr_iload4 d_X10_leaf_84 ?_
              refine kr_kill1 ?_
              refine kr_kill2 ?_
              refine kr_kill3 ?_
              refine kr_kill4 ?_
              exact hJ86 x4 h7
            · refine kr_const (v := (-1)) d_X10_leaf_80 ?_
              refine kr_goto d_X10_leaf_81 ?_
              refine kr_kill1 ?_
              refine kr_kill2 ?_
              refine kr_kill3 ?_
              refine kr_kill4 ?_
              exact hJ86 (-1) h7
          · refine kr_const (v := (-1000000003)) d_X10_leaf_66 ?_
            exact kr_ireturn d_X10_leaf_68 rfl
        refine kr_icmp_eq d_X10_leaf_40 ?_ ?_
        · exact hJ55 h5
        · refine kr_aload0 d_X10_leaf_43 ?_
          refine kr_iload4 d_X10_leaf_44 ?_
          refine kr_iv_i (As := [.int x4]) d_X10_leaf_46 cl_X10_116 (m_X10_isLeaf x4 h5) sh_111 (Nat.le_of_ble_eq_true rfl) rfl (Nat.le_of_ble_eq_true rfl) (fun r12 h11 => ?_)
          refine kr_if_ne d_X10_leaf_49 ?_ ?_
          · exact hJ55 h11
          · refine kr_const (v := (-1000000001)) d_X10_leaf_52 ?_
            exact kr_ireturn d_X10_leaf_54 rfl

/-! X10_placeOf -/
def f_X10_placeOf_L4 (c1 : Int32) : Nat → Int32 → Int32 → kv_H → (Int32 → kv_H → Option (Int32 × kv_H)) → Option (Int32 × kv_H)
  | 0, _, _, _, _ => none
  | n + 1, v2, v3, h, C => if (h 112 2) ≤ v3 then (C v2 h)
    else (kv_k (66 + v3) 3098 (if (h 112 (66 + v3).toNatClampNeg) = c1 then (f_X10_placeOf_L4 c1 n v3 (v3 + 1) h C)
      else (f_X10_placeOf_L4 c1 n v2 (v3 + 1) h C)))
def f_X10_placeOf (x1 : Int32) (h : kv_H) : Option (Int32 × kv_H) :=
  f_X10_placeOf_L4 x1 kv_fu (-1) 0 h (fun z1 h2 =>
  some (z1, h2))
set_option maxRecDepth 20000 in
theorem s_f_X10_placeOf_L4 (c1 : Int32) : ∀ (n : Nat) (v2 : Int32) (v3 : Int32) (h : kv_H) (C : Int32 → kv_H → Option (Int32 × kv_H)), (∀ (w2 : Int32) (h : kv_H), kv_S kv_i kK_X10_placeOf 39 [none, none, some (.int w2), none] [] h (C w2 h)) → kv_S kv_i kK_X10_placeOf 4 [some (.ref 111), some (.int c1), some (.int v2), some (.int v3)] [] h (f_X10_placeOf_L4 c1 n v2 v3 h C) := by
  intro n
  induction n with
  | zero => intros; exact kv_none
  | succ n ih =>
    intro v2 v3 h C hC
    unfold f_X10_placeOf_L4
    refine kr_iload3 d_X10_placeOf_4 ?_
    refine kr_aload0 d_X10_placeOf_5 ?_
    refine kr_getR (q := 112) d_X10_placeOf_6 fl_X10_7 sh_111 rfl ?_
    refine kr_const (v := 2) d_X10_placeOf_9 ?_
    refine kr_ialoadC (j := 2) ⟨by decide, by decide, by decide⟩ d_X10_placeOf_10 sh_112 ?_
    refine kr_icmp_ge d_X10_placeOf_11 ?_ ?_
    · refine kr_kill0 ?_
      refine kr_kill1 ?_
      refine kr_kill3 ?_
      exact hC v2 h
    · refine kr_aload0 d_X10_placeOf_14 ?_
      refine kr_getR (q := 112) d_X10_placeOf_15 fl_X10_7 sh_111 rfl ?_
      refine kr_const (v := 66) d_X10_placeOf_18 ?_
      refine kr_iload3 d_X10_placeOf_20 ?_
      refine kr_iadd d_X10_placeOf_21 ?_
      refine kr_iaload d_X10_placeOf_22 sh_112 ?_
      refine kr_iload1 d_X10_placeOf_23 ?_
      refine kr_icmp_ne d_X10_placeOf_24 ?_ ?_
      · refine kr_iload2 d_X10_placeOf_31 ?_
        refine kr_istore2 d_X10_placeOf_32 (Nat.le_of_ble_eq_true rfl) kv_c1i ?_
        refine kr_iinc3 d_X10_placeOf_33 (Nat.le_of_ble_eq_true rfl) kv_c1i ?_
        refine kr_goto d_X10_placeOf_36 ?_
        exact ih v2 (v3 + 1) h C hC
      · refine kr_iload3 d_X10_placeOf_27 ?_
        refine kr_goto d_X10_placeOf_28 ?_
        refine kr_istore2 d_X10_placeOf_32 (Nat.le_of_ble_eq_true rfl) kv_c1i ?_
        refine kr_iinc3 d_X10_placeOf_33 (Nat.le_of_ble_eq_true rfl) kv_c1i ?_
        refine kr_goto d_X10_placeOf_36 ?_
        exact ih v3 (v3 + 1) h C hC

set_option maxRecDepth 20000 in
theorem m_X10_placeOf (x1 : Int32) (h : kv_H) : kv_M kv_i kK_X10_placeOf [.ref 111, .int x1] h (f_X10_placeOf x1 h) := by
  refine kv_met (ls := [some (.ref 111), some (.int x1), none, none]) (show plainName RX10 = true by decide +kernel) (fun _ => rfl) (fun _ => Nat.le_of_ble_eq_true rfl) ?_
  unfold f_X10_placeOf
  refine kr_const (v := (-1)) d_X10_placeOf_0 ?_
  refine kr_istore2 d_X10_placeOf_1 (Nat.le_of_ble_eq_true rfl) kv_c1i ?_
  refine kr_const (v := 0) d_X10_placeOf_2 ?_
  refine kr_istore3 d_X10_placeOf_3 (Nat.le_of_ble_eq_true rfl) kv_c1i ?_
  refine s_f_X10_placeOf_L4 x1 kv_fu (-1) 0 h _ (fun z1 h2 => ?_)
  refine kr_iload2 d_X10_placeOf_39 ?_
  exact kr_ireturn d_X10_placeOf_40 rfl

/-! X10_vaultBits -/
def f_X10_vaultBits_L4 : Nat → Int32 → Int32 → kv_H → (Int32 → kv_H → Option (Int32 × kv_H)) → Option (Int32 × kv_H)
  | 0, _, _, _, _ => none
  | n + 1, v1, v2, h, C => if (h 112 2) ≤ v2 then (C v1 h)
    else (kv_k (66 + v2) 3098 (kv_vl (v1 ||| (1 <<< ((h 112 (66 + v2).toNatClampNeg) &&& 31))) (fun e1 =>
      f_X10_vaultBits_L4 n e1 (v2 + 1) h C)))
def f_X10_vaultBits (h : kv_H) : Option (Int32 × kv_H) :=
  f_X10_vaultBits_L4 kv_fu 0 0 h (fun z2 h3 =>
  some (z2, h3))
set_option maxRecDepth 20000 in
theorem s_f_X10_vaultBits_L4 : ∀ (n : Nat) (v1 : Int32) (v2 : Int32) (h : kv_H) (C : Int32 → kv_H → Option (Int32 × kv_H)), (∀ (w1 : Int32) (h : kv_H), kv_S kv_i kK_X10_vaultBits 34 [none, some (.int w1), none] [] h (C w1 h)) → kv_S kv_i kK_X10_vaultBits 4 [some (.ref 111), some (.int v1), some (.int v2)] [] h (f_X10_vaultBits_L4 n v1 v2 h C) := by
  intro n
  induction n with
  | zero => intros; exact kv_none
  | succ n ih =>
    intro v1 v2 h C hC
    unfold f_X10_vaultBits_L4
    refine kr_iload2 d_X10_vaultBits_4 ?_
    refine kr_aload0 d_X10_vaultBits_5 ?_
    refine kr_getR (q := 112) d_X10_vaultBits_6 fl_X10_7 sh_111 rfl ?_
    refine kr_const (v := 2) d_X10_vaultBits_9 ?_
    refine kr_ialoadC (j := 2) ⟨by decide, by decide, by decide⟩ d_X10_vaultBits_10 sh_112 ?_
    refine kr_icmp_ge d_X10_vaultBits_11 ?_ ?_
    · refine kr_kill0 ?_
      refine kr_kill2 ?_
      exact hC v1 h
    · refine kr_iload1 d_X10_vaultBits_14 ?_
      refine kr_const (v := 1) d_X10_vaultBits_15 ?_
      refine kr_aload0 d_X10_vaultBits_16 ?_
      refine kr_getR (q := 112) d_X10_vaultBits_17 fl_X10_7 sh_111 rfl ?_
      refine kr_const (v := 66) d_X10_vaultBits_20 ?_
      refine kr_iload2 d_X10_vaultBits_22 ?_
      refine kr_iadd d_X10_vaultBits_23 ?_
      refine kr_iaload d_X10_vaultBits_24 sh_112 ?_
      refine kr_ishl d_X10_vaultBits_25 ?_
      refine kr_ior d_X10_vaultBits_26 ?_
      refine kr_vl (fun e1 => ?_)
      refine kr_istore1 d_X10_vaultBits_27 (Nat.le_of_ble_eq_true rfl) kv_c1a ?_
      refine kr_iinc2 d_X10_vaultBits_28 (Nat.le_of_ble_eq_true rfl) kv_c1i ?_
      refine kr_goto d_X10_vaultBits_31 ?_
      exact ih e1 (v2 + 1) h C hC

set_option maxRecDepth 20000 in
theorem m_X10_vaultBits (h : kv_H) : kv_M kv_i kK_X10_vaultBits [.ref 111] h (f_X10_vaultBits h) := by
  refine kv_met (ls := [some (.ref 111), none, none]) (show plainName RX10 = true by decide +kernel) (fun _ => rfl) (fun _ => Nat.le_of_ble_eq_true rfl) ?_
  unfold f_X10_vaultBits
  refine kr_const (v := 0) d_X10_vaultBits_0 ?_
  refine kr_istore1 d_X10_vaultBits_1 (Nat.le_of_ble_eq_true rfl) kv_c1a ?_
  refine kr_const (v := 0) d_X10_vaultBits_2 ?_
  refine kr_istore2 d_X10_vaultBits_3 (Nat.le_of_ble_eq_true rfl) kv_c1i ?_
  refine s_f_X10_vaultBits_L4 kv_fu 0 0 h _ (fun z2 h3 => ?_)
  refine kr_iload1 d_X10_vaultBits_34 ?_
  exact kr_ireturn d_X10_vaultBits_35 rfl

/-! X10_isRead -/
def f_X10_isRead_L2 (c1 : Int32) : Nat → Int32 → kv_H → (Int32 → kv_H → Option (Int32 × kv_H)) → Option (Int32 × kv_H)
  | 0, _, _, _ => none
  | n + 1, v3, h, C => if v3 < 0 then (C v3 h)
    else (if ((c1 >>> (v3 &&& 31)) &&& 1) = (1 : Int32) then (kv_b (f_X10_leafAt v3 h) (fun r2 h1 =>
        kv_k (r2 + 4) 3098 (kv_vl (h1 112 (r2 + 4).toNatClampNeg) (fun e3 =>
        f_X10_isRead_L2 c1 n e3 h1 C))))
      else (C v3 h))
def f_X10_isRead (x1 : Int32) (x2 : Int32) (h : kv_H) : Option (Int32 × kv_H) :=
  f_X10_isRead_L2 x1 kv_fu x2 h (fun z4 h5 =>
  if 0 ≤ z4 then (some (0, h5))
    else (some (1, h5)))
set_option maxRecDepth 20000 in
theorem s_f_X10_isRead_L2 (c1 : Int32) : ∀ (n : Nat) (v3 : Int32) (h : kv_H) (C : Int32 → kv_H → Option (Int32 × kv_H)), (∀ (w3 : Int32) (h : kv_H), kv_S kv_i kK_X10_isRead 31 [none, none, none, some (.int w3)] [] h (C w3 h)) → kv_S kv_i kK_X10_isRead 2 [some (.ref 111), some (.int c1), none, some (.int v3)] [] h (f_X10_isRead_L2 c1 n v3 h C) := by
  intro n
  induction n with
  | zero => intros; exact kv_none
  | succ n ih =>
    intro v3 h C hC
    unfold f_X10_isRead_L2
    refine kr_iload3 d_X10_isRead_2 ?_
    refine kr_if_lt d_X10_isRead_3 ?_ ?_
    · refine kr_kill0 ?_
      refine kr_kill1 ?_
      exact hC v3 h
    · refine kr_iload1 d_X10_isRead_6 ?_
      refine kr_iload3 d_X10_isRead_7 ?_
      refine kr_ishr d_X10_isRead_8 ?_
      refine kr_const (v := 1) d_X10_isRead_9 ?_
      refine kr_iand d_X10_isRead_10 ?_
      refine kr_const (v := 1) d_X10_isRead_11 ?_
      refine kr_icmp_ne d_X10_isRead_12 ?_ ?_
      · refine kr_kill0 ?_
        refine kr_kill1 ?_
        exact hC v3 h
      · refine kr_aload0 d_X10_isRead_15 ?_
        refine kr_getR (q := 112) d_X10_isRead_16 fl_X10_7 sh_111 rfl ?_
        refine kr_aload0 d_X10_isRead_19 ?_
        refine kr_iload3 d_X10_isRead_20 ?_
        refine kr_iv_i (As := [.int v3]) d_X10_isRead_21 cl_X10_92 (m_X10_leafAt v3 h) sh_111 (Nat.le_of_ble_eq_true rfl) rfl (Nat.le_of_ble_eq_true rfl) (fun r2 h1 => ?_)
        refine kr_const (v := 4) d_X10_isRead_24 ?_
        refine kr_iadd d_X10_isRead_25 ?_
        refine kr_iaload d_X10_isRead_26 sh_112 ?_
        refine kr_vl (fun e3 => ?_)
        refine kr_istore3 d_X10_isRead_27 (Nat.le_of_ble_eq_true rfl) kv_c1n ?_
        refine kr_goto d_X10_isRead_28 ?_
        exact ih e3 h1 C hC

set_option maxRecDepth 20000 in
theorem m_X10_isRead (x1 : Int32) (x2 : Int32) (h : kv_H) : kv_M kv_i kK_X10_isRead [.ref 111, .int x1, .int x2] h (f_X10_isRead x1 x2 h) := by
  refine kv_met (ls := [some (.ref 111), some (.int x1), some (.int x2), none]) (show plainName RX10 = true by decide +kernel) (fun _ => rfl) (fun _ => Nat.le_of_ble_eq_true rfl) ?_
  unfold f_X10_isRead
  refine kr_iload2 d_X10_isRead_0 ?_
  refine kr_istore3 d_X10_isRead_1 (Nat.le_of_ble_eq_true rfl) kv_c1i ?_
  refine kr_kill2 ?_
  refine s_f_X10_isRead_L2 x1 kv_fu x2 h _ (fun z4 h5 => ?_)
  refine kr_iload3 d_X10_isRead_31 ?_
  refine kr_if_ge d_X10_isRead_32 ?_ ?_
  · refine kr_const (v := 0) d_X10_isRead_39 ?_
    exact kr_zreturnK (by decide) d_X10_isRead_40 rfl
  · refine kr_const (v := 1) d_X10_isRead_35 ?_
    refine kr_goto d_X10_isRead_36 ?_
    exact kr_zreturnK (by decide) d_X10_isRead_40 rfl


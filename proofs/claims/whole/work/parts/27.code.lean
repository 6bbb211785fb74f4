/-! X10_fire -/
def f_X10_fire_L19 (c1 : Int32) : Nat → Int32 → Int32 → kv_H → (Int32 → kv_H → Option (Int32 × kv_H)) → Option (Int32 × kv_H)
  | 0, _, _, _, _ => none
  | n + 1, v2, v3, h, C => if c1 ≤ v3 then (C v2 h)
    else (kv_b (f_X10_drawn h) (fun r4 h3 =>
      kv_b (f_X10_placeOf (r4 - r4 / 8 * 8) h3) (fun r6 h5 =>
      if r6 < 0 then (f_X10_fire_L19 c1 n v2 (v3 + 1) h5 C)
      else (kv_b (f_X10_leaves r6 h5) (fun _ h7 =>
        f_X10_fire_L19 c1 n (v2 + 1) (v3 + 1) h7 C)))))
def f_X10_fire (x1 : Int32) (h : kv_H) : Option (Int32 × kv_H) :=
  kv_b (f_X10_isIn (x1.toInt64) 1 20 h) (fun r2 h1 =>
  if r2 = 0 then (some ((-1000000001), h1))
  else (f_X10_fire_L19 x1 kv_fu 0 0 h1 (fun z8 h9 =>
    some (z8, h9))))
set_option maxRecDepth 20000 in
theorem s_f_X10_fire_L19 (c1 : Int32) : ∀ (n : Nat) (v2 : Int32) (v3 : Int32) (h : kv_H) (C : Int32 → kv_H → Option (Int32 × kv_H)), (∀ (w2 : Int32) (h : kv_H), kv_S kv_i kK_X10_fire 57 [none, none, some (.int w2), none, none] [] h (C w2 h)) → kv_S kv_i kK_X10_fire 19 [some (.ref 111), some (.int c1), some (.int v2), some (.int v3), none] [] h (f_X10_fire_L19 c1 n v2 v3 h C) := by
  intro n
  induction n with
  | zero => intros; exact kv_none
  | succ n ih =>
    intro v2 v3 h C hC
    unfold f_X10_fire_L19
    refine kr_iload3 d_X10_fire_19 ?_
    refine kr_iload1 d_X10_fire_20 ?_
    refine kr_icmp_ge d_X10_fire_21 ?_ ?_
    · refine kr_kill0 ?_
      refine kr_kill1 ?_
      refine kr_kill3 ?_
      exact hC v2 h
    · refine kr_aload0 d_X10_fire_24 ?_
      refine kr_aload0 d_X10_fire_25 ?_
      refine kr_iv_i (As := []) d_X10_fire_26 cl_X10_155 (m_X10_drawn h) sh_111 (Nat.le_of_ble_eq_true rfl) rfl (Nat.le_of_ble_eq_true rfl) (fun r4 h3 => ?_)
      refine kr_const (v := 8) d_X10_fire_29 ?_
      refine kr_iremK (by decide) d_X10_fire_31 ?_
      refine kr_iv_i (As := [.int (r4 - r4 / 8 * 8)]) d_X10_fire_32 cl_X10_129 (m_X10_placeOf (r4 - r4 / 8 * 8) h3) sh_111 (Nat.le_of_ble_eq_true rfl) rfl (Nat.le_of_ble_eq_true rfl) (fun r6 h5 => ?_)
      refine kr_istore4 d_X10_fire_35 (Nat.le_of_ble_eq_true rfl) kv_c1i ?_
      refine kr_iload4 d_X10_fire_37 ?_
      refine kr_if_lt d_X10_fire_39 ?_ ?_
      · refine kr_iinc3 d_X10_fire_51 (Nat.le_of_ble_eq_true rfl) kv_c1i ?_
        refine kr_goto d_X10_fire_54 ?_
        refine kr_kill4 ?_
        exact ih v2 (v3 + 1) h5 C hC
      · refine kr_aload0 d_X10_fire_42 ?_
        refine kr_iload4 d_X10_fire_43 ?_
        refine kr_iv_u (As := [.int r6]) d_X10_fire_45 cl_X10_173 (m_X10_leaves r6 h5) sh_111 (Nat.le_of_ble_eq_true rfl) rfl (Nat.le_of_ble_eq_true rfl) (fun h7 => ?_)
        refine kr_iinc2 d_X10_fire_48 (Nat.le_of_ble_eq_true rfl) kv_c1i ?_
        refine kr_iinc3 d_X10_fire_51 (Nat.le_of_ble_eq_true rfl) kv_c1i ?_
        refine kr_goto d_X10_fire_54 ?_
        refine kr_kill4 ?_
        exact ih (v2 + 1) (v3 + 1) h7 C hC

set_option maxRecDepth 20000 in
theorem m_X10_fire (x1 : Int32) (h : kv_H) : kv_M kv_i kK_X10_fire [.ref 111, .int x1] h (f_X10_fire x1 h) := by
  refine kv_met (ls := [some (.ref 111), some (.int x1), none, none, none]) (show plainName RX10 = true by decide +kernel) (fun _ => rfl) (fun _ => Nat.le_of_ble_eq_true rfl) ?_
  unfold f_X10_fire
  refine kr_iload1 d_X10_fire_0 ?_
  refine kr_i2l d_X10_fire_1 ?_
  refine kr_constL (v := 1) d_X10_fire_2 ?_
  refine kr_constL (v := 20) d_X10_fire_3 ?_
  refine kr_is_i (As := [.long (x1.toInt64), .long 1, .long 20]) d_X10_fire_6 cl_X10_83 (m_X10_isIn (x1.toInt64) 1 20 h) (Nat.le_of_ble_eq_true rfl) rfl (Nat.le_of_ble_eq_true rfl) (fun r2 h1 => ?_)
  refine kr_if_ne d_X10_fire_9 ?_ ?_
  · refine kr_const (v := 0) d_X10_fire_15 ?_
    refine kr_istore2 d_X10_fire_16 (Nat.le_of_ble_eq_true rfl) kv_c1i ?_
    refine kr_const (v := 0) d_X10_fire_17 ?_
    refine kr_istore3 d_X10_fire_18 (Nat.le_of_ble_eq_true rfl) kv_c1i ?_
    refine s_f_X10_fire_L19 x1 kv_fu 0 0 h1 _ (fun z8 h9 => ?_)
    refine kr_iload2 d_X10_fire_57 ?_
    exact kr_ireturn d_X10_fire_58 rfl
  · refine kr_const (v := (-1000000001)) d_X10_fire_12 ?_
    exact kr_ireturn d_X10_fire_14 rfl

/-! X10_seed -/
def f_X10_seed (x1 : Int32) (h : kv_H) : Option (Int32 × kv_H) :=
  kv_b (f_X10_becomes 9 x1 h) (fun r2 h1 =>
  some (r2, h1))
set_option maxRecDepth 20000 in
theorem m_X10_seed (x1 : Int32) (h : kv_H) : kv_M kv_i kK_X10_seed [.ref 111, .int x1] h (f_X10_seed x1 h) := by
  refine kv_met (ls := [some (.ref 111), some (.int x1)]) (show plainName RX10 = true by decide +kernel) (fun _ => rfl) (fun _ => Nat.le_of_ble_eq_true rfl) ?_
  unfold f_X10_seed
  refine kr_aload0 d_X10_seed_0 ?_
  refine kr_const (v := 9) d_X10_seed_1 ?_
  refine kr_iload1 d_X10_seed_3 ?_
  refine kr_iv_i (As := [.int 9, .int x1]) d_X10_seed_4 cl_X10_147 (m_X10_becomes 9 x1 h) sh_111 (Nat.le_of_ble_eq_true rfl) rfl (Nat.le_of_ble_eq_true rfl) (fun r2 h1 => ?_)
  exact kr_ireturn d_X10_seed_7 rfl

/-! X10_plan -/
def f_X10_plan (x1 : Int32) (h : kv_H) : Option (Int32 × kv_H) :=
  kv_b (f_X10_isLeaf x1 h) (fun r2 h1 =>
  if r2 = 0 then (some ((-1000000001), h1))
  else (if (h1 112 8) = (24 : Int32) then (some ((-1000000003), h1))
    else (kv_k (74 + (h1 112 8)) 3098 (kv_hl (kv_up h1 112 (74 + (h1 112 8)).toNatClampNeg x1) (fun h3 =>
      kv_hl (kv_up h3 112 8 ((h3 112 8) + 1)) (fun h4 =>
      some ((h4 112 8), h4)))))))
set_option maxRecDepth 20000 in
theorem m_X10_plan (x1 : Int32) (h : kv_H) : kv_M kv_i kK_X10_plan [.ref 111, .int x1] h (f_X10_plan x1 h) := by
  refine kv_met (ls := [some (.ref 111), some (.int x1)]) (show plainName RX10 = true by decide +kernel) (fun _ => rfl) (fun _ => Nat.le_of_ble_eq_true rfl) ?_
  unfold f_X10_plan
  refine kr_aload0 d_X10_plan_0 ?_
  refine kr_iload1 d_X10_plan_1 ?_
  refine kr_iv_i (As := [.int x1]) d_X10_plan_2 cl_X10_116 (m_X10_isLeaf x1 h) sh_111 (Nat.le_of_ble_eq_true rfl) rfl (Nat.le_of_ble_eq_true rfl) (fun r2 h1 => ?_)
  refine kr_if_ne d_X10_plan_5 ?_ ?_
  · refine kr_aload0 d_X10_plan_11 ?_
    refine kr_getR (q := 112) d_X10_plan_12 fl_X10_7 sh_111 rfl ?_
    refine kr_const (v := 8) d_X10_plan_15 ?_
    refine kr_ialoadC (j := 8) ⟨by decide, by decide, by decide⟩ d_X10_plan_17 sh_112 ?_
    refine kr_const (v := 24) d_X10_plan_18 ?_
    refine kr_icmp_ne d_X10_plan_20 ?_ ?_
    · refine kr_aload0 d_X10_plan_26 ?_
      refine kr_getR (q := 112) d_X10_plan_27 fl_X10_7 sh_111 rfl ?_
      refine kr_const (v := 74) d_X10_plan_30 ?_
      refine kr_aload0 d_X10_plan_32 ?_
      refine kr_getR (q := 112) d_X10_plan_33 fl_X10_7 sh_111 rfl ?_
      refine kr_const (v := 8) d_X10_plan_36 ?_
      refine kr_ialoadC (j := 8) ⟨by decide, by decide, by decide⟩ d_X10_plan_38 sh_112 ?_
      refine kr_iadd d_X10_plan_39 ?_
      refine kr_iload1 d_X10_plan_40 ?_
      refine kr_iastore d_X10_plan_41 sh_112 ?_
      refine kr_hl (fun h3 => ?_)
      refine kr_aload0 d_X10_plan_42 ?_
      refine kr_getR (q := 112) d_X10_plan_43 fl_X10_7 sh_111 rfl ?_
      refine kr_const (v := 8) d_X10_plan_46 ?_
      refine kr_dup2 d_X10_plan_48 rfl rfl ?_
      refine kr_ialoadC (j := 8) ⟨by decide, by decide, by decide⟩ d_X10_plan_49 sh_112 ?_
      refine kr_const (v := 1) d_X10_plan_50 ?_
      refine kr_iadd d_X10_plan_51 ?_
      refine kr_iastoreC (j := 8) ⟨by decide, by decide, by decide⟩ d_X10_plan_52 sh_112 ?_
      refine kr_hl (fun h4 => ?_)
      refine kr_aload0 d_X10_plan_53 ?_
      refine kr_getR (q := 112) d_X10_plan_54 fl_X10_7 sh_111 rfl ?_
      refine kr_const (v := 8) d_X10_plan_57 ?_
      refine kr_ialoadC (j := 8) ⟨by decide, by decide, by decide⟩ d_X10_plan_59 sh_112 ?_
      exact kr_ireturn d_X10_plan_60 rfl
    · refine kr_const (v := (-1000000003)) d_X10_plan_23 ?_
      exact kr_ireturn d_X10_plan_25 rfl
  · refine kr_const (v := (-1000000001)) d_X10_plan_8 ?_
    exact kr_ireturn d_X10_plan_10 rfl

/-! X10_clear -/
def f_X10_clear (h : kv_H) : Option (Int32 × kv_H) :=
  kv_b (f_X10_becomes 8 0 h) (fun r2 h1 =>
  some (r2, h1))
set_option maxRecDepth 20000 in
theorem m_X10_clear (h : kv_H) : kv_M kv_i kK_X10_clear [.ref 111] h (f_X10_clear h) := by
  refine kv_met (ls := [some (.ref 111)]) (show plainName RX10 = true by decide +kernel) (fun _ => rfl) (fun _ => Nat.le_of_ble_eq_true rfl) ?_
  unfold f_X10_clear
  refine kr_aload0 d_X10_clear_0 ?_
  refine kr_const (v := 8) d_X10_clear_1 ?_
  refine kr_const (v := 0) d_X10_clear_3 ?_
  refine kr_iv_i (As := [.int 8, .int 0]) d_X10_clear_4 cl_X10_147 (m_X10_becomes 8 0 h) sh_111 (Nat.le_of_ble_eq_true rfl) rfl (Nat.le_of_ble_eq_true rfl) (fun r2 h1 => ?_)
  exact kr_ireturn d_X10_clear_7 rfl

/-! X10_run -/
def f_X10_run_L43 (c1 : Int32) (c2 : Int32) : Nat → Int32 → kv_H → (kv_H → Option (Int32 × kv_H)) → Option (Int32 × kv_H)
  | 0, _, _, _ => none
  | n + 1, v3, h, C => if c1 ≤ v3 then (C h)
    else (kv_k (74 + v3) 3098 (kv_b (f_X10_asks (h 112 (74 + v3).toNatClampNeg) h) (fun r6 h5 =>
      f_X10_run_L43 c1 c2 n (v3 + 1) h5 C)))
def f_X10_run (x1 : Int32) (h : kv_H) : Option (Int32 × kv_H) :=
  kv_b (f_X10_isIn (x1.toInt64) 1 24 h) (fun r2 h1 =>
  if r2 = 0 then (some ((-1000000001), h1))
  else (if x1 ≤ (h1 112 8) then (kv_b (f_X10_knows h1) (fun _ h3 =>
      kv_vl (h3 112 7) (fun e4 =>
      f_X10_run_L43 x1 e4 kv_fu 0 h3 (fun  h7 =>
      some (((h7 112 7) - e4), h7)))))
    else (some ((-1000000002), h1))))
set_option maxRecDepth 20000 in
theorem s_f_X10_run_L43 (c1 : Int32) (c2 : Int32) : ∀ (n : Nat) (v3 : Int32) (h : kv_H) (C : kv_H → Option (Int32 × kv_H)), (∀  (h : kv_H), kv_S kv_i kK_X10_run 69 [some (.ref 111), none, some (.int c2), none, none] [] h (C h)) → kv_S kv_i kK_X10_run 43 [some (.ref 111), some (.int c1), some (.int c2), some (.int v3), none] [] h (f_X10_run_L43 c1 c2 n v3 h C) := by
  intro n
  induction n with
  | zero => intros; exact kv_none
  | succ n ih =>
    intro v3 h C hC
    unfold f_X10_run_L43
    refine kr_iload3 d_X10_run_43 ?_
    refine kr_iload1 d_X10_run_44 ?_
    refine kr_icmp_ge d_X10_run_45 ?_ ?_
    · refine kr_kill1 ?_
      refine kr_kill3 ?_
      exact hC h
    · refine kr_aload0 d_X10_run_48 ?_
      refine kr_aload0 d_X10_run_49 ?_
      refine kr_getR (q := 112) d_X10_run_50 fl_X10_7 sh_111 rfl ?_
      refine kr_const (v := 74) d_X10_run_53 ?_
      refine kr_iload3 d_X10_run_55 ?_
      refine kr_iadd d_X10_run_56 ?_
      refine kr_iaload d_X10_run_57 sh_112 ?_
      refine kr_iv_i (As := [.int (h 112 (74 + v3).toNatClampNeg)]) d_X10_run_58 cl_X10_187 (m_X10_asks (h 112 (74 + v3).toNatClampNeg) h) sh_111 (Nat.le_of_ble_eq_true rfl) rfl (Nat.le_of_ble_eq_true rfl) (fun r6 h5 => ?_)
      refine kr_istore4 d_X10_run_61 (Nat.le_of_ble_eq_true rfl) kv_c1i ?_
      refine kr_iinc3 d_X10_run_63 (Nat.le_of_ble_eq_true rfl) kv_c1i ?_
      refine kr_goto d_X10_run_66 ?_
      refine kr_kill4 ?_
      exact ih (v3 + 1) h5 C hC

set_option maxRecDepth 20000 in
theorem m_X10_run (x1 : Int32) (h : kv_H) : kv_M kv_i kK_X10_run [.ref 111, .int x1] h (f_X10_run x1 h) := by
  refine kv_met (ls := [some (.ref 111), some (.int x1), none, none, none]) (show plainName RX10 = true by decide +kernel) (fun _ => rfl) (fun _ => Nat.le_of_ble_eq_true rfl) ?_
  unfold f_X10_run
  refine kr_iload1 d_X10_run_0 ?_
  refine kr_i2l d_X10_run_1 ?_
  refine kr_constL (v := 1) d_X10_run_2 ?_
  refine kr_constL (v := 24) d_X10_run_3 ?_
  refine kr_is_i (As := [.long (x1.toInt64), .long 1, .long 24]) d_X10_run_6 cl_X10_83 (m_X10_isIn (x1.toInt64) 1 24 h) (Nat.le_of_ble_eq_true rfl) rfl (Nat.le_of_ble_eq_true rfl) (fun r2 h1 => ?_)
  refine kr_if_ne d_X10_run_9 ?_ ?_
  · refine kr_iload1 d_X10_run_15 ?_
    refine kr_aload0 d_X10_run_16 ?_
    refine kr_getR (q := 112) d_X10_run_17 fl_X10_7 sh_111 rfl ?_
    refine kr_const (v := 8) d_X10_run_20 ?_
    refine kr_ialoadC (j := 8) ⟨by decide, by decide, by decide⟩ d_X10_run_22 sh_112 ?_
    refine kr_icmp_le d_X10_run_23 ?_ ?_
    · refine kr_aload0 d_X10_run_29 ?_
      refine kr_iv_u (As := []) d_X10_run_30 cl_X10_182 (m_X10_knows h1) sh_111 (Nat.le_of_ble_eq_true rfl) rfl (Nat.le_of_ble_eq_true rfl) (fun h3 => ?_)
      refine kr_aload0 d_X10_run_33 ?_
      refine kr_getR (q := 112) d_X10_run_34 fl_X10_7 sh_111 rfl ?_
      refine kr_const (v := 7) d_X10_run_37 ?_
      refine kr_ialoadC (j := 7) ⟨by decide, by decide, by decide⟩ d_X10_run_39 sh_112 ?_
      refine kr_vl (fun e4 => ?_)
      refine kr_istore2 d_X10_run_40 (Nat.le_of_ble_eq_true rfl) kv_c1i ?_
      refine kr_const (v := 0) d_X10_run_41 ?_
      refine kr_istore3 d_X10_run_42 (Nat.le_of_ble_eq_true rfl) kv_c1i ?_
      refine s_f_X10_run_L43 x1 e4 kv_fu 0 h3 _ (fun  h7 => ?_)
      refine kr_aload0 d_X10_run_69 ?_
      refine kr_getR (q := 112) d_X10_run_70 fl_X10_7 sh_111 rfl ?_
      refine kr_const (v := 7) d_X10_run_73 ?_
      refine kr_ialoadC (j := 7) ⟨by decide, by decide, by decide⟩ d_X10_run_75 sh_112 ?_
      refine kr_iload2 d_X10_run_76 ?_
      refine kr_isub d_X10_run_77 ?_
      exact kr_ireturn d_X10_run_78 rfl
    · refine kr_const (v := (-1000000002)) d_X10_run_26 ?_
      exact kr_ireturn d_X10_run_28 rfl
  · refine kr_const (v := (-1000000001)) d_X10_run_12 ?_
    exact kr_ireturn d_X10_run_14 rfl

/-! X10_wouldCost -/
def f_X10_wouldCost_L2 (c1 : Int32) : Nat → Int32 → kv_H → (kv_H → Option (Int32 × kv_H)) → Option (Int32 × kv_H)
  | 0, _, _, _ => none
  | n + 1, v2, h, C => if (98 : Int32) ≤ v2 then (C h)
    else (kv_k v2 3098 (kv_k v2 98 (kv_hl (kv_up h 126 v2.toNatClampNeg (h 112 v2.toNatClampNeg)) (fun h1 =>
      f_X10_wouldCost_L2 c1 n (v2 + 1) h1 C))))
def f_X10_wouldCost_L28 (c1 : Int32) : Nat → Int32 → kv_H → (kv_H → Option (Int32 × kv_H)) → Option (Int32 × kv_H)
  | 0, _, _, _ => none
  | n + 1, v2, h, C => if c1 ≤ v2 then (C h)
    else (kv_k v2 24 (kv_b (f_X10_asks (h 127 v2.toNatClampNeg) h) (fun r4 h3 =>
      f_X10_wouldCost_L28 c1 n (v2 + 1) h3 C)))
def f_X10_wouldCost_L68 (c2 : Int32) : Nat → Int32 → kv_H → (kv_H → Option (Int32 × kv_H)) → Option (Int32 × kv_H)
  | 0, _, _, _ => none
  | n + 1, v3, h, C => if (98 : Int32) ≤ v3 then (C h)
    else (kv_k v3 98 (kv_k v3 3098 (kv_hl (kv_up h 112 v3.toNatClampNeg (h 126 v3.toNatClampNeg)) (fun h7 =>
      f_X10_wouldCost_L68 c2 n (v3 + 1) h7 C))))
def f_X10_wouldCost (x1 : Int32) (h : kv_H) : Option (Int32 × kv_H) :=
  f_X10_wouldCost_L2 x1 kv_fu 0 h (fun  h2 =>
  f_X10_wouldCost_L28 x1 kv_fu 0 h2 (fun  h5 =>
    kv_vl ((h5 112 7) - (h5 126 7)) (fun e6 =>
      f_X10_wouldCost_L68 e6 kv_fu 0 h5 (fun  h8 =>
      some (e6, h8)))))
set_option maxRecDepth 20000 in
theorem s_f_X10_wouldCost_L2 (c1 : Int32) : ∀ (n : Nat) (v2 : Int32) (h : kv_H) (C : kv_H → Option (Int32 × kv_H)), (∀  (h : kv_H), kv_S kv_i kK_X10_wouldCost 26 [some (.ref 111), some (.int c1), none, none] [] h (C h)) → kv_S kv_i kK_X10_wouldCost 2 [some (.ref 111), some (.int c1), some (.int v2), none] [] h (f_X10_wouldCost_L2 c1 n v2 h C) := by
  intro n
  induction n with
  | zero => intros; exact kv_none
  | succ n ih =>
    intro v2 h C hC
    unfold f_X10_wouldCost_L2
    refine kr_iload2 d_X10_wouldCost_2 ?_
    refine kr_const (v := 98) d_X10_wouldCost_3 ?_
    refine kr_icmp_ge d_X10_wouldCost_5 ?_ ?_
    · refine kr_kill2 ?_
      exact hC h
    · refine kr_aload0 d_X10_wouldCost_8 ?_
      refine kr_getR (q := 126) d_X10_wouldCost_9 fl_X10_52 sh_111 rfl ?_
      refine kr_iload2 d_X10_wouldCost_12 ?_
      refine kr_aload0 d_X10_wouldCost_13 ?_
      refine kr_getR (q := 112) d_X10_wouldCost_14 fl_X10_7 sh_111 rfl ?_
      refine kr_iload2 d_X10_wouldCost_17 ?_
      refine kr_iaload d_X10_wouldCost_18 sh_112 ?_
      refine kr_iastore d_X10_wouldCost_19 sh_126 ?_
      refine kr_hl (fun h1 => ?_)
      refine kr_iinc2 d_X10_wouldCost_20 (Nat.le_of_ble_eq_true rfl) kv_c1i ?_
      refine kr_goto d_X10_wouldCost_23 ?_
      exact ih (v2 + 1) h1 C hC

set_option maxRecDepth 20000 in
theorem s_f_X10_wouldCost_L28 (c1 : Int32) : ∀ (n : Nat) (v2 : Int32) (h : kv_H) (C : kv_H → Option (Int32 × kv_H)), (∀  (h : kv_H), kv_S kv_i kK_X10_wouldCost 50 [some (.ref 111), none, none, none] [] h (C h)) → kv_S kv_i kK_X10_wouldCost 28 [some (.ref 111), some (.int c1), some (.int v2), none] [] h (f_X10_wouldCost_L28 c1 n v2 h C) := by
  intro n
  induction n with
  | zero => intros; exact kv_none
  | succ n ih =>
    intro v2 h C hC
    unfold f_X10_wouldCost_L28
    refine kr_iload2 d_X10_wouldCost_28 ?_
    refine kr_iload1 d_X10_wouldCost_29 ?_
    refine kr_icmp_ge d_X10_wouldCost_30 ?_ ?_
    · refine kr_kill1 ?_
      refine kr_kill2 ?_
      exact hC h
    · refine kr_aload0 d_X10_wouldCost_33 ?_
      refine kr_aload0 d_X10_wouldCost_34 ?_
      refine kr_getR (q := 127) d_X10_wouldCost_35 fl_X10_55 sh_111 rfl ?_
      refine kr_iload2 d_X10_wouldCost_38 ?_
      refine kr_iaload d_X10_wouldCost_39 sh_127 ?_
      refine kr_iv_i (As := [.int (h 127 v2.toNatClampNeg)]) d_X10_wouldCost_40 cl_X10_187 (m_X10_asks (h 127 v2.toNatClampNeg) h) sh_111 (Nat.le_of_ble_eq_true rfl) rfl (Nat.le_of_ble_eq_true rfl) (fun r4 h3 => ?_)
      refine kr_istore3 d_X10_wouldCost_43 (Nat.le_of_ble_eq_true rfl) kv_c1i ?_
      refine kr_iinc2 d_X10_wouldCost_44 (Nat.le_of_ble_eq_true rfl) kv_c1i ?_
      refine kr_goto d_X10_wouldCost_47 ?_
      refine kr_kill3 ?_
      exact ih (v2 + 1) h3 C hC

set_option maxRecDepth 20000 in
theorem s_f_X10_wouldCost_L68 (c2 : Int32) : ∀ (n : Nat) (v3 : Int32) (h : kv_H) (C : kv_H → Option (Int32 × kv_H)), (∀  (h : kv_H), kv_S kv_i kK_X10_wouldCost 92 [none, none, some (.int c2), none] [] h (C h)) → kv_S kv_i kK_X10_wouldCost 68 [some (.ref 111), none, some (.int c2), some (.int v3)] [] h (f_X10_wouldCost_L68 c2 n v3 h C) := by
  intro n
  induction n with
  | zero => intros; exact kv_none
  | succ n ih =>
    intro v3 h C hC
    unfold f_X10_wouldCost_L68
    refine kr_iload3 d_X10_wouldCost_68 ?_
    refine kr_const (v := 98) d_X10_wouldCost_69 ?_
    refine kr_icmp_ge d_X10_wouldCost_71 ?_ ?_
    · refine kr_kill0 ?_
      refine kr_kill3 ?_
      exact hC h
    · refine kr_aload0 d_X10_wouldCost_74 ?_
      refine kr_getR (q := 112) d_X10_wouldCost_75 fl_X10_7 sh_111 rfl ?_
      refine kr_iload3 d_X10_wouldCost_78 ?_
      refine kr_aload0 d_X10_wouldCost_79 ?_
      refine kr_getR (q := 126) d_X10_wouldCost_80 fl_X10_52 sh_111 rfl ?_
      refine kr_iload3 d_X10_wouldCost_83 ?_
      refine kr_iaload d_X10_wouldCost_84 sh_126 ?_
      refine kr_iastore d_X10_wouldCost_85 sh_112 ?_
      refine kr_hl (fun h7 => ?_)
      refine kr_iinc3 d_X10_wouldCost_86 (Nat.le_of_ble_eq_true rfl) kv_c1i ?_
      refine kr_goto d_X10_wouldCost_89 ?_
      exact ih (v3 + 1) h7 C hC

set_option maxRecDepth 20000 in
theorem m_X10_wouldCost (x1 : Int32) (h : kv_H) : kv_M kv_i kK_X10_wouldCost [.ref 111, .int x1] h (f_X10_wouldCost x1 h) := by
  refine kv_met (ls := [some (.ref 111), some (.int x1), none, none]) (show plainName RX10 = true by decide +kernel) (fun _ => rfl) (fun _ => Nat.le_of_ble_eq_true rfl) ?_
  unfold f_X10_wouldCost
  refine kr_const (v := 0) d_X10_wouldCost_0 ?_
  refine kr_istore2 d_X10_wouldCost_1 (Nat.le_of_ble_eq_true rfl) kv_c1i ?_
  refine s_f_X10_wouldCost_L2 x1 kv_fu 0 h _ (fun  h2 => ?_)
  refine kr_const (v := 0) d_X10_wouldCost_26 ?_
  refine kr_istore2 d_X10_wouldCost_27 (Nat.le_of_ble_eq_true rfl) kv_c1i ?_
  refine s_f_X10_wouldCost_L28 x1 kv_fu 0 h2 _ (fun  h5 => ?_)
  refine kr_aload0 d_X10_wouldCost_50 ?_
  refine kr_getR (q := 112) d_X10_wouldCost_51 fl_X10_7 sh_111 rfl ?_
  refine kr_const (v := 7) d_X10_wouldCost_54 ?_
  refine kr_ialoadC (j := 7) ⟨by decide, by decide, by decide⟩ d_X10_wouldCost_56 sh_112 ?_
  refine kr_aload0 d_X10_wouldCost_57 ?_
  refine kr_getR (q := 126) d_X10_wouldCost_58 fl_X10_52 sh_111 rfl ?_
  refine kr_const (v := 7) d_X10_wouldCost_61 ?_
  refine kr_ialoadC (j := 7) ⟨by decide, by decide, by decide⟩ d_X10_wouldCost_63 sh_126 ?_
  refine kr_isub d_X10_wouldCost_64 ?_
  refine kr_vl (fun e6 => ?_)
  refine kr_istore2 d_X10_wouldCost_65 (Nat.le_of_ble_eq_true rfl) kv_c1n ?_
  refine kr_const (v := 0) d_X10_wouldCost_66 ?_
  refine kr_istore3 d_X10_wouldCost_67 (Nat.le_of_ble_eq_true rfl) kv_c1i ?_
  refine s_f_X10_wouldCost_L68 e6 kv_fu 0 h5 _ (fun  h8 => ?_)
  refine kr_iload2 d_X10_wouldCost_92 ?_
  exact kr_ireturn d_X10_wouldCost_93 rfl

/-! X10_triesRow -/
def f_X10_triesRow_L2 : Nat → Int32 → kv_H → (kv_H → Option (Int32 × kv_H)) → Option (Int32 × kv_H)
  | 0, _, _, _ => none
  | n + 1, v1, h, C => if (h 112 8) ≤ v1 then (C h)
    else (kv_k (74 + v1) 3098 (kv_k v1 24 (kv_hl (kv_up h 127 v1.toNatClampNeg (h 112 (74 + v1).toNatClampNeg)) (fun h1 =>
      f_X10_triesRow_L2 n (v1 + 1) h1 C))))
def f_X10_triesRow (h : kv_H) : Option (Int32 × kv_H) :=
  f_X10_triesRow_L2 kv_fu 0 h (fun  h2 =>
  some ((h2 112 8), h2))
set_option maxRecDepth 20000 in
theorem s_f_X10_triesRow_L2 : ∀ (n : Nat) (v1 : Int32) (h : kv_H) (C : kv_H → Option (Int32 × kv_H)), (∀  (h : kv_H), kv_S kv_i kK_X10_triesRow 34 [some (.ref 111), none] [] h (C h)) → kv_S kv_i kK_X10_triesRow 2 [some (.ref 111), some (.int v1)] [] h (f_X10_triesRow_L2 n v1 h C) := by
  intro n
  induction n with
  | zero => intros; exact kv_none
  | succ n ih =>
    intro v1 h C hC
    unfold f_X10_triesRow_L2
    refine kr_iload1 d_X10_triesRow_2 ?_
    refine kr_aload0 d_X10_triesRow_3 ?_
    refine kr_getR (q := 112) d_X10_triesRow_4 fl_X10_7 sh_111 rfl ?_
    refine kr_const (v := 8) d_X10_triesRow_7 ?_
    refine kr_ialoadC (j := 8) ⟨by decide, by decide, by decide⟩ d_X10_triesRow_9 sh_112 ?_
    refine kr_icmp_ge d_X10_triesRow_10 ?_ ?_
    · refine kr_kill1 ?_
      exact hC h
    · refine kr_aload0 d_X10_triesRow_13 ?_
      refine kr_getR (q := 127) d_X10_triesRow_14 fl_X10_55 sh_111 rfl ?_
      refine kr_iload1 d_X10_triesRow_17 ?_
      refine kr_aload0 d_X10_triesRow_18 ?_
      refine kr_getR (q := 112) d_X10_triesRow_19 fl_X10_7 sh_111 rfl ?_
      refine kr_const (v := 74) d_X10_triesRow_22 ?_
      refine kr_iload1 d_X10_triesRow_24 ?_
      refine kr_iadd d_X10_triesRow_25 ?_
      refine kr_iaload d_X10_triesRow_26 sh_112 ?_
      refine kr_iastore d_X10_triesRow_27 sh_127 ?_
      refine kr_hl (fun h1 => ?_)
      refine kr_iinc1 d_X10_triesRow_28 (Nat.le_of_ble_eq_true rfl) kv_c1a ?_
      refine kr_goto d_X10_triesRow_31 ?_
      exact ih (v1 + 1) h1 C hC

set_option maxRecDepth 20000 in
theorem m_X10_triesRow (h : kv_H) : kv_M kv_i kK_X10_triesRow [.ref 111] h (f_X10_triesRow h) := by
  refine kv_met (ls := [some (.ref 111), none]) (show plainName RX10 = true by decide +kernel) (fun _ => rfl) (fun _ => Nat.le_of_ble_eq_true rfl) ?_
  unfold f_X10_triesRow
  refine kr_const (v := 0) d_X10_triesRow_0 ?_
  refine kr_istore1 d_X10_triesRow_1 (Nat.le_of_ble_eq_true rfl) kv_c1a ?_
  refine s_f_X10_triesRow_L2 kv_fu 0 h _ (fun  h2 => ?_)
  refine kr_aload0 d_X10_triesRow_34 ?_
  refine kr_getR (q := 112) d_X10_triesRow_35 fl_X10_7 sh_111 rfl ?_
  refine kr_const (v := 8) d_X10_triesRow_38 ?_
  refine kr_ialoadC (j := 8) ⟨by decide, by decide, by decide⟩ d_X10_triesRow_40 sh_112 ?_
  exact kr_ireturn d_X10_triesRow_41 rfl

/-! X10_would -/
def f_X10_would (h : kv_H) : Option (Int32 × kv_H) :=
  kv_b (f_X10_knows h) (fun _ h1 =>
  kv_b (f_X10_triesRow h1) (fun r3 h2 =>
  kv_b (f_X10_wouldCost r3 h2) (fun r5 h4 =>
  some (r5, h4))))
set_option maxRecDepth 20000 in
theorem m_X10_would (h : kv_H) : kv_M kv_i kK_X10_would [.ref 111] h (f_X10_would h) := by
  refine kv_met (ls := [some (.ref 111)]) (show plainName RX10 = true by decide +kernel) (fun _ => rfl) (fun _ => Nat.le_of_ble_eq_true rfl) ?_
  unfold f_X10_would
  refine kr_aload0 d_X10_would_0 ?_
  refine kr_iv_u (As := []) d_X10_would_1 cl_X10_182 (m_X10_knows h) sh_111 (Nat.le_of_ble_eq_true rfl) rfl (Nat.le_of_ble_eq_true rfl) (fun h1 => ?_)
  refine kr_aload0 d_X10_would_4 ?_
  refine kr_aload0 d_X10_would_5 ?_
  refine kr_iv_i (As := []) d_X10_would_6 cl_X10_195 (m_X10_triesRow h1) sh_111 (Nat.le_of_ble_eq_true rfl) rfl (Nat.le_of_ble_eq_true rfl) (fun r3 h2 => ?_)
  refine kr_iv_i (As := [.int r3]) d_X10_would_9 cl_X10_198 (m_X10_wouldCost r3 h2) sh_111 (Nat.le_of_ble_eq_true rfl) rfl (Nat.le_of_ble_eq_true rfl) (fun r5 h4 => ?_)
  exact kr_ireturn d_X10_would_12 rfl

/-! X10_sets -/
def f_X10_sets (h : kv_H) : Option (Int32 × kv_H) :=
  some ((1 <<< ((h 112 0) &&& 31)), h)
set_option maxRecDepth 20000 in
theorem m_X10_sets (h : kv_H) : kv_M kv_i kK_X10_sets [.ref 111] h (f_X10_sets h) := by
  refine kv_met (ls := [some (.ref 111)]) (show plainName RX10 = true by decide +kernel) (fun _ => rfl) (fun _ => Nat.le_of_ble_eq_true rfl) ?_
  unfold f_X10_sets
  refine kr_const (v := 1) d_X10_sets_0 ?_
  refine kr_aload0 d_X10_sets_1 ?_
  refine kr_getR (q := 112) d_X10_sets_2 fl_X10_7 sh_111 rfl ?_
  refine kr_const (v := 0) d_X10_sets_5 ?_
  refine kr_ialoadC (j := 0) ⟨by decide, by decide, by decide⟩ d_X10_sets_6 sh_112 ?_
  refine kr_ishl d_X10_sets_7 ?_
  exact kr_ireturn d_X10_sets_8 rfl

/-! X10_knowsRooms -/
def f_X10_knowsRooms_L23 (c1 : Int32) : Nat → Int32 → kv_H → (kv_H → Option (Unit × kv_H)) → Option (Unit × kv_H)
  | 0, _, _, _ => none
  | n + 1, v2, h, C => if (h 112 0) ≤ v2 then (C h)
    else (kv_k c1 256 (if ((c1 >>> (v2 &&& 31)) &&& 1) = (1 : Int32) then (kv_k v2 8 (kv_k c1 256 (kv_hl (kv_up h 125 c1.toNatClampNeg ((h 125 c1.toNatClampNeg) + (h 123 v2.toNatClampNeg))) (fun h6 =>
        f_X10_knowsRooms_L23 c1 n (v2 + 1) h6 C))))
      else (kv_k c1 256 (kv_hl (kv_up h 125 c1.toNatClampNeg ((h 125 c1.toNatClampNeg) + 0)) (fun h5 =>
        f_X10_knowsRooms_L23 c1 n (v2 + 1) h5 C)))))
def f_X10_knowsRooms_L6 : Nat → Int32 → kv_H → (kv_H → Option (Unit × kv_H)) → Option (Unit × kv_H)
  | 0, _, _, _ => none
  | n + 1, v1, h, C => kv_b (f_X10_sets h) (fun r3 h2 =>
    if r3 ≤ v1 then (C h2)
    else (kv_k v1 256 (kv_hl (kv_up h2 125 v1.toNatClampNeg 0) (fun h4 =>
      f_X10_knowsRooms_L23 v1 kv_fu 0 h4 (fun  h7 =>
      f_X10_knowsRooms_L6 n (v1 + 1) h7 C)))))
def f_X10_knowsRooms (h : kv_H) : Option (Unit × kv_H) :=
  kv_b (f_X10_knows h) (fun _ h1 =>
  f_X10_knowsRooms_L6 kv_fu 0 h1 (fun  h8 =>
  some ((), h8)))
set_option maxRecDepth 20000 in
theorem s_f_X10_knowsRooms_L23 (c1 : Int32) : ∀ (n : Nat) (v2 : Int32) (h : kv_H) (C : kv_H → Option (Unit × kv_H)), (∀  (h : kv_H), kv_S kv_u kK_X10_knowsRooms 67 [some (.ref 111), some (.int c1), none] [] h (C h)) → kv_S kv_u kK_X10_knowsRooms 23 [some (.ref 111), some (.int c1), some (.int v2)] [] h (f_X10_knowsRooms_L23 c1 n v2 h C) := by
  intro n
  induction n with
  | zero => intros; exact kv_none
  | succ n ih =>
    intro v2 h C hC
    unfold f_X10_knowsRooms_L23
    refine kr_iload2 d_X10_knowsRooms_23 ?_
    refine kr_aload0 d_X10_knowsRooms_24 ?_
    refine kr_getR (q := 112) d_X10_knowsRooms_25 fl_X10_7 sh_111 rfl ?_
    refine kr_const (v := 0) d_X10_knowsRooms_28 ?_
    refine kr_ialoadC (j := 0) ⟨by decide, by decide, by decide⟩ d_X10_knowsRooms_29 sh_112 ?_
    refine kr_icmp_ge d_X10_knowsRooms_30 ?_ ?_
    · refine kr_kill2 ?_
      exact hC h
    · refine kr_aload0 d_X10_knowsRooms_33 ?_
      refine kr_getR (q := 125) d_X10_knowsRooms_34 fl_X10_49 sh_111 rfl ?_
      refine kr_iload1 d_X10_knowsRooms_37 ?_
      refine kr_dup2 d_X10_knowsRooms_38 rfl rfl ?_
      refine kr_iaload d_X10_knowsRooms_39 sh_125 ?_
      refine kr_iload1 d_X10_knowsRooms_40 ?_
      refine kr_iload2 d_X10_knowsRooms_41 ?_
      refine kr_ishr d_X10_knowsRooms_42 ?_
      refine kr_const (v := 1) d_X10_knowsRooms_43 ?_
      refine kr_iand d_X10_knowsRooms_44 ?_
      refine kr_const (v := 1) d_X10_knowsRooms_45 ?_
      refine kr_icmp_ne d_X10_knowsRooms_46 ?_ ?_
      · refine kr_const (v := 0) d_X10_knowsRooms_58 ?_
        refine kr_iadd d_X10_knowsRooms_59 ?_
        refine kr_iastore d_X10_knowsRooms_60 sh_125 ?_
        refine kr_hl (fun h5 => ?_)
        refine kr_iinc2 d_X10_knowsRooms_61 (Nat.le_of_ble_eq_true rfl) kv_c1i ?_
        refine kr_goto d_X10_knowsRooms_64 ?_
        exact ih (v2 + 1) h5 C hC
      · refine kr_aload0 d_X10_knowsRooms_49 ?_
        refine kr_getR (q := 123) d_X10_knowsRooms_50 fl_X10_43 sh_111 rfl ?_
        refine kr_iload2 d_X10_knowsRooms_53 ?_
        refine kr_iaload d_X10_knowsRooms_54 sh_123 ?_
        refine kr_goto d_X10_knowsRooms_55 ?_
        refine kr_iadd d_X10_knowsRooms_59 ?_
        refine kr_iastore d_X10_knowsRooms_60 sh_125 ?_
        refine kr_hl (fun h6 => ?_)
        refine kr_iinc2 d_X10_knowsRooms_61 (Nat.le_of_ble_eq_true rfl) kv_c1i ?_
        refine kr_goto d_X10_knowsRooms_64 ?_
        exact ih (v2 + 1) h6 C hC

set_option maxRecDepth 20000 in
theorem s_f_X10_knowsRooms_L6 : ∀ (n : Nat) (v1 : Int32) (h : kv_H) (C : kv_H → Option (Unit × kv_H)), (∀  (h : kv_H), kv_S kv_u kK_X10_knowsRooms 73 [none, none, none] [] h (C h)) → kv_S kv_u kK_X10_knowsRooms 6 [some (.ref 111), some (.int v1), none] [] h (f_X10_knowsRooms_L6 n v1 h C) := by
  intro n
  induction n with
  | zero => intros; exact kv_none
  | succ n ih =>
    intro v1 h C hC
    unfold f_X10_knowsRooms_L6
    refine kr_iload1 d_X10_knowsRooms_6 ?_
    refine kr_aload0 d_X10_knowsRooms_7 ?_
    refine kr_iv_i (As := []) d_X10_knowsRooms_8 cl_X10_201 (m_X10_sets h) sh_111 (Nat.le_of_ble_eq_true rfl) rfl (Nat.le_of_ble_eq_true rfl) (fun r3 h2 => ?_)
    refine kr_icmp_ge d_X10_knowsRooms_11 ?_ ?_
    · refine kr_kill0 ?_
      refine kr_kill1 ?_
      exact hC h2
    · refine kr_aload0 d_X10_knowsRooms_14 ?_
      refine kr_getR (q := 125) d_X10_knowsRooms_15 fl_X10_49 sh_111 rfl ?_
      refine kr_iload1 d_X10_knowsRooms_18 ?_
      refine kr_const (v := 0) d_X10_knowsRooms_19 ?_
      refine kr_iastore d_X10_knowsRooms_20 sh_125 ?_
      refine kr_hl (fun h4 => ?_)
      refine kr_const (v := 0) d_X10_knowsRooms_21 ?_
      refine kr_istore2 d_X10_knowsRooms_22 (Nat.le_of_ble_eq_true rfl) kv_c1i ?_
      refine s_f_X10_knowsRooms_L23 v1 kv_fu 0 h4 _ (fun  h7 => ?_)
      refine kr_iinc1 d_X10_knowsRooms_67 (Nat.le_of_ble_eq_true rfl) kv_c1a ?_
      refine kr_goto d_X10_knowsRooms_70 ?_
      exact ih (v1 + 1) h7 C hC

set_option maxRecDepth 20000 in
theorem m_X10_knowsRooms (h : kv_H) : kv_M kv_u kK_X10_knowsRooms [.ref 111] h (f_X10_knowsRooms h) := by
  refine kv_met (ls := [some (.ref 111), none, none]) (show plainName RX10 = true by decide +kernel) (fun _ => rfl) (fun _ => Nat.le_of_ble_eq_true rfl) ?_
  unfold f_X10_knowsRooms
  refine kr_aload0 d_X10_knowsRooms_0 ?_
  refine kr_iv_u (As := []) d_X10_knowsRooms_1 cl_X10_182 (m_X10_knows h) sh_111 (Nat.le_of_ble_eq_true rfl) rfl (Nat.le_of_ble_eq_true rfl) (fun h1 => ?_)
  refine kr_const (v := 0) d_X10_knowsRooms_4 ?_
  refine kr_istore1 d_X10_knowsRooms_5 (Nat.le_of_ble_eq_true rfl) kv_c1a ?_
  refine s_f_X10_knowsRooms_L6 kv_fu 0 h1 _ (fun  h8 => ?_)
  exact kr_return d_X10_knowsRooms_73 rfl

/-! X10_lookWithin -/
def f_X10_lookWithin_L39 (c1 : Int32) : Nat → Int32 → Int32 → kv_H → (Int32 → kv_H → Option (Unit × kv_H)) → Option (Unit × kv_H)
  | 0, _, _, _, _ => none
  | n + 1, v2, v3, h, C => if (h 112 0) ≤ v3 then (C v2 h)
    else (kv_jn (fun (y5 : Int32) (h6 : kv_H) =>
      if y5 = 0 then (f_X10_lookWithin_L39 c1 n v2 (v3 + 1) h6 C)
        else (kv_k (c1 ^^^ (1 <<< (v3 &&& 31))) 256 (if v2 ≤ (h6 129 (c1 ^^^ (1 <<< (v3 &&& 31))).toNatClampNeg) then (f_X10_lookWithin_L39 c1 n v2 (v3 + 1) h6 C)
          else (kv_k (c1 ^^^ (1 <<< (v3 &&& 31))) 256 (kv_vl (h6 129 (c1 ^^^ (1 <<< (v3 &&& 31))).toNatClampNeg) (fun e7 =>
            f_X10_lookWithin_L39 c1 n e7 (v3 + 1) h6 C)))))) (fun (J63 : Int32 → kv_H → Option (Unit × kv_H)) =>
      if ((c1 >>> (v3 &&& 31)) &&& 1) = (1 : Int32) then (J63 1 h)
      else (J63 0 h)))
def f_X10_lookWithin_L2 : Nat → Int32 → kv_H → (kv_H → Option (Unit × kv_H)) → Option (Unit × kv_H)
  | 0, _, _, _ => none
  | n + 1, v1, h, C => kv_b (f_X10_sets h) (fun r2 h1 =>
    if r2 ≤ v1 then (C h1)
    else (kv_k v1 256 (kv_jn (fun (y3 : Int32) (h4 : kv_H) =>
      f_X10_lookWithin_L39 v1 kv_fu y3 0 h4 (fun z8 h9 =>
        kv_k v1 256 (kv_hl (kv_up h9 129 v1.toNatClampNeg z8) (fun h10 =>
          f_X10_lookWithin_L2 n (v1 + 1) h10 C)))) (fun (J36 : Int32 → kv_H → Option (Unit × kv_H)) =>
      if (h1 112 3) < (h1 125 v1.toNatClampNeg) then (J36 1000000000 h1)
      else (kv_k v1 256 (J36 (h1 128 v1.toNatClampNeg) h1))))))
def f_X10_lookWithin (h : kv_H) : Option (Unit × kv_H) :=
  f_X10_lookWithin_L2 kv_fu 0 h (fun  h11 =>
  some ((), h11))
set_option maxRecDepth 20000 in
theorem s_f_X10_lookWithin_L39 (c1 : Int32) : ∀ (n : Nat) (v2 : Int32) (v3 : Int32) (h : kv_H) (C : Int32 → kv_H → Option (Unit × kv_H)), (∀ (w2 : Int32) (h : kv_H), kv_S kv_u kK_X10_lookWithin 105 [some (.ref 111), some (.int c1), some (.int w2), none, none] [] h (C w2 h)) → kv_S kv_u kK_X10_lookWithin 39 [some (.ref 111), some (.int c1), some (.int v2), some (.int v3), none] [] h (f_X10_lookWithin_L39 c1 n v2 v3 h C) := by
  intro n
  induction n with
  | zero => intros; exact kv_none
  | succ n ih =>
    intro v2 v3 h C hC
    unfold f_X10_lookWithin_L39
    refine kr_iload3 d_X10_lookWithin_39 ?_
    refine kr_aload0 d_X10_lookWithin_40 ?_
    refine kr_getR (q := 112) d_X10_lookWithin_41 fl_X10_7 sh_111 rfl ?_
    refine kr_const (v := 0) d_X10_lookWithin_44 ?_
    refine kr_ialoadC (j := 0) ⟨by decide, by decide, by decide⟩ d_X10_lookWithin_45 sh_112 ?_
    refine kr_icmp_ge d_X10_lookWithin_46 ?_ ?_
    · refine kr_kill3 ?_
      exact hC v2 h
    · refine kr_iload1 d_X10_lookWithin_49 ?_
      refine kr_iload3 d_X10_lookWithin_50 ?_
      refine kr_ishr d_X10_lookWithin_51 ?_
      refine kr_const (v := 1) d_X10_lookWithin_52 ?_
      refine kr_iand d_X10_lookWithin_53 ?_
      refine kr_const (v := 1) d_X10_lookWithin_54 ?_
      refine kr_jn (P := fun J63 => ∀ (y5 : Int32), ∀ (h6 : kv_H), kv_S kv_u kK_X10_lookWithin 63 [some (.ref 111), some (.int c1), some (.int v2), some (.int v3), none] [.int y5] h6 (J63 y5 h6)) (fun y5 h6 => ?_) (fun J63 hJ63 => ?_)
      · refine kr_istore4 d_X10_lookWithin_63 (Nat.le_of_ble_eq_true rfl) kv_c1i ?_
        refine kr_iload4 d_X10_lookWithin_65 ?_
        refine kr_if_eq d_X10_lookWithin_67 ?_ ?_
        · refine kr_iload2 d_X10_lookWithin_97 ?_
          refine kr_istore2 d_X10_lookWithin_98 (Nat.le_of_ble_eq_true rfl) kv_c1i ?_
          refine kr_iinc3 d_X10_lookWithin_99 (Nat.le_of_ble_eq_true rfl) kv_c1i ?_
          refine kr_goto d_X10_lookWithin_102 ?_
          refine kr_kill4 ?_
          exact ih v2 (v3 + 1) h6 C hC
        · refine kr_aload0 d_X10_lookWithin_70 ?_
          refine kr_getR (q := 129) d_X10_lookWithin_71 fl_X10_61 sh_111 rfl ?_
          refine kr_iload1 d_X10_lookWithin_74 ?_
          refine kr_const (v := 1) d_X10_lookWithin_75 ?_
          refine kr_iload3 d_X10_lookWithin_76 ?_
          refine kr_ishl d_X10_lookWithin_77 ?_
          refine kr_ixor d_X10_lookWithin_78 ?_
          refine kr_iaload d_X10_lookWithin_79 sh_129 ?_
          refine kr_iload2 d_X10_lookWithin_80 ?_
          refine kr_icmp_ge d_X10_lookWithin_81 ?_ ?_
          · refine kr_iload2 d_X10_lookWithin_97 ?_
            refine kr_istore2 d_X10_lookWithin_98 (Nat.le_of_ble_eq_true rfl) kv_c1i ?_
            refine kr_iinc3 d_X10_lookWithin_99 (Nat.le_of_ble_eq_true rfl) kv_c1i ?_
            refine kr_goto d_X10_lookWithin_102 ?_
            refine kr_kill4 ?_
            exact ih v2 (v3 + 1) h6 C hC
          · refine kr_aload0 d_X10_lookWithin_84 ?_
            refine kr_getR (q := 129) d_X10_lookWithin_85 fl_X10_61 sh_111 rfl ?_
            refine kr_iload1 d_X10_lookWithin_88 ?_
            refine kr_const (v := 1) d_X10_lookWithin_89 ?_
            refine kr_iload3 d_X10_lookWithin_90 ?_
            refine kr_ishl d_X10_lookWithin_91 ?_
            refine kr_ixor d_X10_lookWithin_92 ?_
            refine kr_iaload d_X10_lookWithin_93 sh_129 ?_
            refine kr_goto d_X10_lookWithin_94 ?_
            refine kr_vl (fun e7 => ?_)
            refine kr_istore2 d_X10_lookWithin_98 (Nat.le_of_ble_eq_true rfl) kv_c1i ?_
            refine kr_iinc3 d_X10_lookWithin_99 (Nat.le_of_ble_eq_true rfl) kv_c1i ?_
            refine kr_goto d_X10_lookWithin_102 ?_
            refine kr_kill4 ?_
            exact ih e7 (v3 + 1) h6 C hC
      refine kr_icmp_ne d_X10_lookWithin_55 ?_ ?_
      · refine kr_const (v := 0) d_X10_lookWithin_62 ?_
        exact hJ63 0 h
      · refine kr_const (v := 1) d_X10_lookWithin_58 ?_
        refine kr_goto d_X10_lookWithin_59 ?_
        exact hJ63 1 h

set_option maxRecDepth 20000 in
theorem s_f_X10_lookWithin_L2 : ∀ (n : Nat) (v1 : Int32) (h : kv_H) (C : kv_H → Option (Unit × kv_H)), (∀  (h : kv_H), kv_S kv_u kK_X10_lookWithin 118 [none, none, none, none, none] [] h (C h)) → kv_S kv_u kK_X10_lookWithin 2 [some (.ref 111), some (.int v1), none, none, none] [] h (f_X10_lookWithin_L2 n v1 h C) := by
  intro n
  induction n with
  | zero => intros; exact kv_none
  | succ n ih =>
    intro v1 h C hC
    unfold f_X10_lookWithin_L2
    refine kr_iload1 d_X10_lookWithin_2 ?_
    refine kr_aload0 d_X10_lookWithin_3 ?_
    refine kr_iv_i (As := []) d_X10_lookWithin_4 cl_X10_201 (m_X10_sets h) sh_111 (Nat.le_of_ble_eq_true rfl) rfl (Nat.le_of_ble_eq_true rfl) (fun r2 h1 => ?_)
    refine kr_icmp_ge d_X10_lookWithin_7 ?_ ?_
    · refine kr_kill0 ?_
      refine kr_kill1 ?_
      exact hC h1
    · refine kr_aload0 d_X10_lookWithin_10 ?_
      refine kr_getR (q := 125) d_X10_lookWithin_11 fl_X10_49 sh_111 rfl ?_
      refine kr_iload1 d_X10_lookWithin_14 ?_
      refine kr_iaload d_X10_lookWithin_15 sh_125 ?_
      refine kr_aload0 d_X10_lookWithin_16 ?_
      refine kr_getR (q := 112) d_X10_lookWithin_17 fl_X10_7 sh_111 rfl ?_
      refine kr_const (v := 3) d_X10_lookWithin_20 ?_
      refine kr_ialoadC (j := 3) ⟨by decide, by decide, by decide⟩ d_X10_lookWithin_21 sh_112 ?_
      refine kr_jn (P := fun J36 => ∀ (y3 : Int32), ∀ (h4 : kv_H), kv_S kv_u kK_X10_lookWithin 36 [some (.ref 111), some (.int v1), none, none, none] [.int y3] h4 (J36 y3 h4)) (fun y3 h4 => ?_) (fun J36 hJ36 => ?_)
      · refine kr_istore2 d_X10_lookWithin_36 (Nat.le_of_ble_eq_true rfl) kv_c1i ?_
        refine kr_const (v := 0) d_X10_lookWithin_37 ?_
        refine kr_istore3 d_X10_lookWithin_38 (Nat.le_of_ble_eq_true rfl) kv_c1i ?_
        refine s_f_X10_lookWithin_L39 v1 kv_fu y3 0 h4 _ (fun z8 h9 => ?_)
        refine kr_aload0 d_X10_lookWithin_105 ?_
        refine kr_getR (q := 129) d_X10_lookWithin_106 fl_X10_61 sh_111 rfl ?_
        refine kr_iload1 d_X10_lookWithin_109 ?_
        refine kr_iload2 d_X10_lookWithin_110 ?_
        refine kr_iastore d_X10_lookWithin_111 sh_129 ?_
        refine kr_hl (fun h10 => ?_)
        refine kr_iinc1 d_X10_lookWithin_112 (Nat.le_of_ble_eq_true rfl) kv_c1a ?_
        refine kr_goto d_X10_lookWithin_115 ?_
        refine kr_kill2 ?_
        exact ih (v1 + 1) h10 C hC
      refine kr_icmp_gt d_X10_lookWithin_22 ?_ ?_
      · refine kr_const (v := 1000000000) d_X10_lookWithin_34 ?_
        exact hJ36 1000000000 h1
      · refine kr_aload0 d_X10_lookWithin_25 ?_
        refine kr_getR (q := 128) d_X10_lookWithin_26 fl_X10_58 sh_111 rfl ?_
        refine kr_iload1 d_X10_lookWithin_29 ?_
        refine kr_iaload d_X10_lookWithin_30 sh_128 ?_
        refine kr_goto d_X10_lookWithin_31 ?_
        exact hJ36 (h1 128 v1.toNatClampNeg) h1

set_option maxRecDepth 20000 in
theorem m_X10_lookWithin (h : kv_H) : kv_M kv_u kK_X10_lookWithin [.ref 111] h (f_X10_lookWithin h) := by
  refine kv_met (ls := [some (.ref 111), none, none, none, none]) (show plainName RX10 = true by decide +kernel) (fun _ => rfl) (fun _ => Nat.le_of_ble_eq_true rfl) ?_
  unfold f_X10_lookWithin
  refine kr_const (v := 0) d_X10_lookWithin_0 ?_
  refine kr_istore1 d_X10_lookWithin_1 (Nat.le_of_ble_eq_true rfl) kv_c1a ?_
  refine s_f_X10_lookWithin_L2 kv_fu 0 h _ (fun  h11 => ?_)
  exact kr_return d_X10_lookWithin_118 rfl

/-! X10_leastOf -/
def f_X10_leastOf_L2 (c1 : Int32) : Nat → Int32 → kv_H → (kv_H → Option (Int32 × kv_H)) → Option (Int32 × kv_H)
  | 0, _, _, _ => none
  | n + 1, v2, h, C => kv_b (f_X10_sets h) (fun r2 h1 =>
    if r2 ≤ v2 then (C h1)
    else (kv_k v2 256 (kv_hl (kv_up h1 128 v2.toNatClampNeg 0) (fun h3 =>
      f_X10_leastOf_L2 c1 n (v2 + 1) h3 C))))
def f_X10_leastOf_L50 (c1 : Int32) (c2 : Int32) (c3 : Int32) : Nat → Int32 → kv_H → (kv_H → Option (Int32 × kv_H)) → Option (Int32 × kv_H)
  | 0, _, _, _ => none
  | n + 1, v4, h, C => kv_b (f_X10_sets h) (fun r10 h9 =>
    if r10 ≤ v4 then (C h9)
    else (kv_k (v4 ||| (1 <<< (c3 &&& 31))) 256 (kv_b (f_X10_isRead v4 c3 h9) (fun r12 h11 =>
      if r12 = 0 then (kv_k c3 8 (kv_k v4 256 (kv_hl (kv_up h11 128 v4.toNatClampNeg ((h9 129 (v4 ||| (1 <<< (c3 &&& 31))).toNatClampNeg) + (h11 124 c3.toNatClampNeg))) (fun h13 =>
        f_X10_leastOf_L50 c1 c2 c3 n (v4 + 1) h13 C))))
      else (kv_k v4 256 (kv_hl (kv_up h11 128 v4.toNatClampNeg ((h9 129 (v4 ||| (1 <<< (c3 &&& 31))).toNatClampNeg) + 0)) (fun h14 =>
        f_X10_leastOf_L50 c1 c2 c3 n (v4 + 1) h14 C)))))))
def f_X10_leastOf_L32 (c1 : Int32) : Nat → Int32 → kv_H → (kv_H → Option (Int32 × kv_H)) → Option (Int32 × kv_H)
  | 0, _, _, _ => none
  | n + 1, v2, h, C => if v2 ≤ 0 then (C h)
    else (kv_b (f_X10_lookWithin h) (fun _ h7 =>
      kv_k v2 24 (kv_vl (h7 127 v2.toNatClampNeg) (fun e8 =>
      f_X10_leastOf_L50 c1 v2 e8 kv_fu 0 h7 (fun  h15 =>
      f_X10_leastOf_L32 c1 n (v2 + (-1)) h15 C)))))
def f_X10_leastOf_L135 (c2 : Int32) (c3 : Int32) : Nat → Int32 → kv_H → (kv_H → Option (Int32 × kv_H)) → Option (Int32 × kv_H)
  | 0, _, _, _ => none
  | n + 1, v4, h, C => kv_b (f_X10_sets h) (fun r21 h20 =>
    if r21 ≤ v4 then (C h20)
    else (kv_jn (fun (y22 : Int32) (h23 : kv_H) =>
      kv_jn (fun  (h24 : kv_H) =>
        kv_hl (kv_up h24 111 19 (h24 111 19)) (fun h25 =>
          f_X10_leastOf_L135 c2 c3 n (v4 + 1) h25 C)) (fun (J213 : kv_H → Option (Int32 × kv_H)) =>
        if y22 = 0 then (J213 h23)
        else (if (h23 111 19) < 0 then (kv_hl (kv_up h23 111 19 v4) (fun h26 =>
            f_X10_leastOf_L135 c2 c3 n (v4 + 1) h26 C))
          else (kv_k v4 256 (kv_k (h23 111 19) 256 (if (h23 128 (h23 111 19).toNatClampNeg) ≤ (h23 128 v4.toNatClampNeg) then (J213 h23)
            else (kv_hl (kv_up h23 111 19 v4) (fun h27 =>
              f_X10_leastOf_L135 c2 c3 n (v4 + 1) h27 C)))))))) (fun (J174 : Int32 → kv_H → Option (Int32 × kv_H)) =>
      kv_jn (fun  (h28 : kv_H) =>
      J174 0 h28) (fun (J173 : kv_H → Option (Int32 × kv_H)) =>
      if (v4 &&& (c3 ^^^ (-1))) = 0 then (kv_k v4 256 (if (h20 112 3) < (h20 125 v4.toNatClampNeg) then (J173 h20)
        else (J174 1 h20)))
      else (J173 h20)))))
def f_X10_leastOf (x1 : Int32) (h : kv_H) : Option (Int32 × kv_H) :=
  f_X10_leastOf_L2 x1 kv_fu 0 h (fun  h4 =>
  kv_hl (kv_up h4 111 19 (-1)) (fun h5 =>
    kv_vl (x1 - 1) (fun e6 =>
    f_X10_leastOf_L32 x1 kv_fu e6 h5 (fun  h16 =>
    if x1 = 0 then (some (0, h16))
      else (kv_b (f_X10_vaultBits h16) (fun r18 h17 =>
        kv_vl (r18 ||| (1 <<< ((h17 127 0) &&& 31))) (fun e19 =>
        f_X10_leastOf_L135 r18 e19 kv_fu 0 h17 (fun  h29 =>
        kv_k (h29 111 19) 256 (kv_b (f_X10_isRead r18 (h29 127 0) h29) (fun r31 h30 =>
          if r31 = 0 then (kv_k (h30 127 0) 8 (some (((h29 128 (h29 111 19).toNatClampNeg) + (h30 124 (h30 127 0).toNatClampNeg)), h30)))
          else (some (((h29 128 (h29 111 19).toNatClampNeg) + 0), h30))))))))))))
set_option maxRecDepth 20000 in
theorem s_f_X10_leastOf_L2 (c1 : Int32) : ∀ (n : Nat) (v2 : Int32) (h : kv_H) (C : kv_H → Option (Int32 × kv_H)), (∀  (h : kv_H), kv_S kv_i kK_X10_leastOf 23 [some (.ref 111), some (.int c1), none, none, none, none] [] h (C h)) → kv_S kv_i kK_X10_leastOf 2 [some (.ref 111), some (.int c1), some (.int v2), none, none, none] [] h (f_X10_leastOf_L2 c1 n v2 h C) := by
  intro n
  induction n with
  | zero => intros; exact kv_none
  | succ n ih =>
    intro v2 h C hC
    unfold f_X10_leastOf_L2
    refine kr_iload2 d_X10_leastOf_2 ?_
    refine kr_aload0 d_X10_leastOf_3 ?_
    refine kr_iv_i (As := []) d_X10_leastOf_4 cl_X10_201 (m_X10_sets h) sh_111 (Nat.le_of_ble_eq_true rfl) rfl (Nat.le_of_ble_eq_true rfl) (fun r2 h1 => ?_)
    refine kr_icmp_ge d_X10_leastOf_7 ?_ ?_
    · refine kr_kill2 ?_
      exact hC h1
    · refine kr_aload0 d_X10_leastOf_10 ?_
      refine kr_getR (q := 128) d_X10_leastOf_11 fl_X10_58 sh_111 rfl ?_
      refine kr_iload2 d_X10_leastOf_14 ?_
      refine kr_const (v := 0) d_X10_leastOf_15 ?_
      refine kr_iastore d_X10_leastOf_16 sh_128 ?_
      refine kr_hl (fun h3 => ?_)
      refine kr_iinc2 d_X10_leastOf_17 (Nat.le_of_ble_eq_true rfl) kv_c1i ?_
      refine kr_goto d_X10_leastOf_20 ?_
      exact ih (v2 + 1) h3 C hC

set_option maxRecDepth 20000 in
theorem s_f_X10_leastOf_L50 (c1 : Int32) (c2 : Int32) (c3 : Int32) : ∀ (n : Nat) (v4 : Int32) (h : kv_H) (C : kv_H → Option (Int32 × kv_H)), (∀  (h : kv_H), kv_S kv_i kK_X10_leastOf 104 [some (.ref 111), some (.int c1), some (.int c2), none, none, none] [] h (C h)) → kv_S kv_i kK_X10_leastOf 50 [some (.ref 111), some (.int c1), some (.int c2), some (.int c3), some (.int v4), none] [] h (f_X10_leastOf_L50 c1 c2 c3 n v4 h C) := by
  intro n
  induction n with
  | zero => intros; exact kv_none
  | succ n ih =>
    intro v4 h C hC
    unfold f_X10_leastOf_L50
    refine kr_iload4 d_X10_leastOf_50 ?_
    refine kr_aload0 d_X10_leastOf_52 ?_
    refine kr_iv_i (As := []) d_X10_leastOf_53 cl_X10_201 (m_X10_sets h) sh_111 (Nat.le_of_ble_eq_true rfl) rfl (Nat.le_of_ble_eq_true rfl) (fun r10 h9 => ?_)
    refine kr_icmp_ge d_X10_leastOf_56 ?_ ?_
    · refine kr_kill3 ?_
      refine kr_kill4 ?_
      exact hC h9
    · refine kr_aload0 d_X10_leastOf_59 ?_
      refine kr_getR (q := 128) d_X10_leastOf_60 fl_X10_58 sh_111 rfl ?_
      refine kr_iload4 d_X10_leastOf_63 ?_
      refine kr_aload0 d_X10_leastOf_65 ?_
      refine kr_getR (q := 129) d_X10_leastOf_66 fl_X10_61 sh_111 rfl ?_
      refine kr_iload4 d_X10_leastOf_69 ?_
      refine kr_const (v := 1) d_X10_leastOf_71 ?_
      refine kr_iload3 d_X10_leastOf_72 ?_
      refine kr_ishl d_X10_leastOf_73 ?_
      refine kr_ior d_X10_leastOf_74 ?_
      refine kr_iaload d_X10_leastOf_75 sh_129 ?_
      refine kr_aload0 d_X10_leastOf_76 ?_
      refine kr_iload4 d_X10_leastOf_77 ?_
      refine kr_iload3 d_X10_leastOf_79 ?_
      refine kr_iv_i (As := [.int v4, .int c3]) d_X10_leastOf_80 cl_X10_136 (m_X10_isRead v4 c3 h9) sh_111 (Nat.le_of_ble_eq_true rfl) rfl (Nat.le_of_ble_eq_true rfl) (fun r12 h11 => ?_)
      refine kr_if_eq d_X10_leastOf_83 ?_ ?_
      · refine kr_aload0 d_X10_leastOf_90 ?_
        refine kr_getR (q := 124) d_X10_leastOf_91 fl_X10_46 sh_111 rfl ?_
        refine kr_iload3 d_X10_leastOf_94 ?_
        refine kr_iaload d_X10_leastOf_95 sh_124 ?_
        refine kr_iadd d_X10_leastOf_96 ?_
        refine kr_iastore d_X10_leastOf_97 sh_128 ?_
        refine kr_hl (fun h13 => ?_)
        refine kr_iinc4 d_X10_leastOf_98 (Nat.le_of_ble_eq_true rfl) kv_c1i ?_
        refine kr_goto d_X10_leastOf_101 ?_
        exact ih (v4 + 1) h13 C hC
      · refine kr_const (v := 0) d_X10_leastOf_86 ?_
        refine kr_goto d_X10_leastOf_87 ?_
        refine kr_iadd d_X10_leastOf_96 ?_
        refine kr_iastore d_X10_leastOf_97 sh_128 ?_
        refine kr_hl (fun h14 => ?_)
        refine kr_iinc4 d_X10_leastOf_98 (Nat.le_of_ble_eq_true rfl) kv_c1i ?_
        refine kr_goto d_X10_leastOf_101 ?_
        exact ih (v4 + 1) h14 C hC

set_option maxRecDepth 20000 in
theorem s_f_X10_leastOf_L32 (c1 : Int32) : ∀ (n : Nat) (v2 : Int32) (h : kv_H) (C : kv_H → Option (Int32 × kv_H)), (∀  (h : kv_H), kv_S kv_i kK_X10_leastOf 110 [some (.ref 111), some (.int c1), none, none, none, none] [] h (C h)) → kv_S kv_i kK_X10_leastOf 32 [some (.ref 111), some (.int c1), some (.int v2), none, none, none] [] h (f_X10_leastOf_L32 c1 n v2 h C) := by
  intro n
  induction n with
  | zero => intros; exact kv_none
  | succ n ih =>
    intro v2 h C hC
    unfold f_X10_leastOf_L32
    refine kr_iload2 d_X10_leastOf_32 ?_
    refine kr_if_le d_X10_leastOf_33 ?_ ?_
    · refine kr_kill2 ?_
      exact hC h
    · refine kr_aload0 d_X10_leastOf_36 ?_
      refine kr_iv_u (As := []) d_X10_leastOf_37 cl_X10_209 (m_X10_lookWithin h) sh_111 (Nat.le_of_ble_eq_true rfl) rfl (Nat.le_of_ble_eq_true rfl) (fun h7 => ?_)
      refine kr_aload0 d_X10_leastOf_40 ?_
      refine kr_getR (q := 127) d_X10_leastOf_41 fl_X10_55 sh_111 rfl ?_
      refine kr_iload2 d_X10_leastOf_44 ?_
      refine kr_iaload d_X10_leastOf_45 sh_127 ?_
      refine kr_vl (fun e8 => ?_)
      refine kr_istore3 d_X10_leastOf_46 (Nat.le_of_ble_eq_true rfl) kv_c1i ?_
      refine kr_const (v := 0) d_X10_leastOf_47 ?_
      refine kr_istore4 d_X10_leastOf_48 (Nat.le_of_ble_eq_true rfl) kv_c1i ?_
      refine s_f_X10_leastOf_L50 c1 v2 e8 kv_fu 0 h7 _ (fun  h15 => ?_)
      refine kr_iinc2 d_X10_leastOf_104 (Nat.le_of_ble_eq_true rfl) kv_c1i ?_
      refine kr_goto d_X10_leastOf_107 ?_
      exact ih (v2 + (-1)) h15 C hC

set_option maxRecDepth 20000 in
theorem s_f_X10_leastOf_L135 (c2 : Int32) (c3 : Int32) : ∀ (n : Nat) (v4 : Int32) (h : kv_H) (C : kv_H → Option (Int32 × kv_H)), (∀  (h : kv_H), kv_S kv_i kK_X10_leastOf 226 [some (.ref 111), none, some (.int c2), none, none, none] [] h (C h)) → kv_S kv_i kK_X10_leastOf 135 [some (.ref 111), none, some (.int c2), some (.int c3), some (.int v4), none] [] h (f_X10_leastOf_L135 c2 c3 n v4 h C) := by
  intro n
  induction n with
  | zero => intros; exact kv_none
  | succ n ih =>
    intro v4 h C hC
    unfold f_X10_leastOf_L135
    refine kr_iload4 d_X10_leastOf_135 ?_
    refine kr_aload0 d_X10_leastOf_137 ?_
    refine kr_iv_i (As := []) d_X10_leastOf_138 cl_X10_201 (m_X10_sets h) sh_111 (Nat.le_of_ble_eq_true rfl) rfl (Nat.le_of_ble_eq_true rfl) (fun r21 h20 => ?_)
    refine kr_icmp_ge d_X10_leastOf_141 ?_ ?_
    · refine kr_kill3 ?_
      refine kr_kill4 ?_
      exact hC h20
    · refine kr_iload4 d_X10_leastOf_144 ?_
      refine kr_iload3 d_X10_leastOf_146 ?_
      refine kr_const (v := (-1)) d_X10_leastOf_147 ?_
      refine kr_ixor d_X10_leastOf_148 ?_
      refine kr_iand d_X10_leastOf_149 ?_
      refine kr_jn (P := fun J174 => ∀ (y22 : Int32), ∀ (h23 : kv_H), kv_S kv_i kK_X10_leastOf 174 [some (.ref 111), none, some (.int c2), some (.int c3), some (.int v4), none] [.int y22] h23 (J174 y22 h23)) (fun y22 h23 => ?_) (fun J174 hJ174 => ?_)
      · refine kr_istore5 d_X10_leastOf_174 (Nat.le_of_ble_eq_true rfl) kv_c1i ?_
        refine kr_aload0 d_X10_leastOf_176 ?_
        refine kr_iload5 d_X10_leastOf_177 ?_
        refine kr_jn (P := fun J213 =>  ∀ (h24 : kv_H), kv_S kv_i kK_X10_leastOf 213 [some (.ref 111), none, some (.int c2), some (.int c3), some (.int v4), none] [.ref 111] h24 (J213  h24)) (fun  h24 => ?_) (fun J213 hJ213 => ?_)
        · refine kr_aload0 d_X10_leastOf_213 ?_
          refine kr_getI d_X10_leastOf_214 fl_X10_205 sh_111 rfl ?_
          refine kr_putI d_X10_leastOf_217 fp_X10_205 sh_111 rfl rfl rfl ?_
          refine kr_hl (fun h25 => ?_)
          refine kr_iinc4 d_X10_leastOf_220 (Nat.le_of_ble_eq_true rfl) kv_c1i ?_
          refine kr_goto d_X10_leastOf_223 ?_
          exact ih (v4 + 1) h25 C hC
        refine kr_if_eq d_X10_leastOf_179 ?_ ?_
        · refine kr_kill5 ?_
          exact hJ213 h23
        · refine kr_aload0 d_X10_leastOf_182 ?_
          refine kr_getI d_X10_leastOf_183 fl_X10_205 sh_111 rfl ?_
          refine kr_if_lt d_X10_leastOf_186 ?_ ?_
          · refine kr_iload4 d_X10_leastOf_208 ?_
            refine kr_goto d_X10_leastOf_210 ?_
            refine kr_putI d_X10_leastOf_217 fp_X10_205 sh_111 rfl rfl rfl ?_
            refine kr_hl (fun h26 => ?_)
            refine kr_iinc4 d_X10_leastOf_220 (Nat.le_of_ble_eq_true rfl) kv_c1i ?_
            refine kr_goto d_X10_leastOf_223 ?_
            refine kr_kill5 ?_
            exact ih (v4 + 1) h26 C hC
          · refine kr_aload0 d_X10_leastOf_189 ?_
            refine kr_getR (q := 128) d_X10_leastOf_190 fl_X10_58 sh_111 rfl ?_
            refine kr_iload4 d_X10_leastOf_193 ?_
            refine kr_iaload d_X10_leastOf_195 sh_128 ?_
            refine kr_aload0 d_X10_leastOf_196 ?_
            refine kr_getR (q := 128) d_X10_leastOf_197 fl_X10_58 sh_111 rfl ?_
            refine kr_aload0 d_X10_leastOf_200 ?_
            refine kr_getI d_X10_leastOf_201 fl_X10_205 sh_111 rfl ?_
            refine kr_iaload d_X10_leastOf_204 sh_128 ?_
            refine kr_icmp_ge d_X10_leastOf_205 ?_ ?_
            · refine kr_kill5 ?_
              exact hJ213 h23
            · refine kr_iload4 d_X10_leastOf_208 ?_
              refine kr_goto d_X10_leastOf_210 ?_
              refine kr_putI d_X10_leastOf_217 fp_X10_205 sh_111 rfl rfl rfl ?_
              refine kr_hl (fun h27 => ?_)
              refine kr_iinc4 d_X10_leastOf_220 (Nat.le_of_ble_eq_true rfl) kv_c1i ?_
              refine kr_goto d_X10_leastOf_223 ?_
              refine kr_kill5 ?_
              exact ih (v4 + 1) h27 C hC
      refine kr_jn (P := fun J173 =>  ∀ (h28 : kv_H), kv_S kv_i kK_X10_leastOf 173 [some (.ref 111), none, some (.int c2), some (.int c3), some (.int v4), none] [] h28 (J173  h28)) (fun  h28 => ?_) (fun J173 hJ173 => ?_)
      · refine kr_const (v := 0) d_X10_leastOf_173 ?_
        exact hJ174 0 h28
      refine kr_if_ne d_X10_leastOf_150 ?_ ?_
      · exact hJ173 h20
      · refine kr_aload0 d_X10_leastOf_153 ?_
        refine kr_getR (q := 125) d_X10_leastOf_154 fl_X10_49 sh_111 rfl ?_
        refine kr_iload4 d_X10_leastOf_157 ?_
        refine kr_iaload d_X10_leastOf_159 sh_125 ?_
        refine kr_aload0 d_X10_leastOf_160 ?_
        refine kr_getR (q := 112) d_X10_leastOf_161 fl_X10_7 sh_111 rfl ?_
        refine kr_const (v := 3) d_X10_leastOf_164 ?_
        refine kr_ialoadC (j := 3) ⟨by decide, by decide, by decide⟩ d_X10_leastOf_165 sh_112 ?_
        refine kr_icmp_gt d_X10_leastOf_166 ?_ ?_
        · exact hJ173 h20
        · refine kr_const (v := 1) d_X10_leastOf_169 ?_
          refine kr_goto d_X10_leastOf_170 ?_
          exact hJ174 1 h20

set_option maxRecDepth 20000 in
theorem m_X10_leastOf (x1 : Int32) (h : kv_H) : kv_M kv_i kK_X10_leastOf [.ref 111, .int x1] h (f_X10_leastOf x1 h) := by
  refine kv_met (ls := [some (.ref 111), some (.int x1), none, none, none, none]) (show plainName RX10 = true by decide +kernel) (fun _ => rfl) (fun _ => Nat.le_of_ble_eq_true rfl) ?_
  unfold f_X10_leastOf
  refine kr_const (v := 0) d_X10_leastOf_0 ?_
  refine kr_istore2 d_X10_leastOf_1 (Nat.le_of_ble_eq_true rfl) kv_c1i ?_
  refine s_f_X10_leastOf_L2 x1 kv_fu 0 h _ (fun  h4 => ?_)
  refine kr_aload0 d_X10_leastOf_23 ?_
  refine kr_const (v := (-1)) d_X10_leastOf_24 ?_
  refine kr_putI d_X10_leastOf_25 fp_X10_205 sh_111 rfl rfl rfl ?_
  refine kr_hl (fun h5 => ?_)
  refine kr_iload1 d_X10_leastOf_28 ?_
  refine kr_const (v := 1) d_X10_leastOf_29 ?_
  refine kr_isub d_X10_leastOf_30 ?_
  refine kr_vl (fun e6 => ?_)
  refine kr_istore2 d_X10_leastOf_31 (Nat.le_of_ble_eq_true rfl) kv_c1i ?_
  refine s_f_X10_leastOf_L32 x1 kv_fu e6 h5 _ (fun  h16 => ?_)
  refine kr_iload1 d_X10_leastOf_110 ?_
  refine kr_if_ne d_X10_leastOf_111 ?_ ?_
  · refine kr_aload0 d_X10_leastOf_116 ?_
    refine kr_iv_i (As := []) d_X10_leastOf_117 cl_X10_132 (m_X10_vaultBits h16) sh_111 (Nat.le_of_ble_eq_true rfl) rfl (Nat.le_of_ble_eq_true rfl) (fun r18 h17 => ?_)
    refine kr_istore2 d_X10_leastOf_120 (Nat.le_of_ble_eq_true rfl) kv_c1i ?_
    refine kr_iload2 d_X10_leastOf_121 ?_
    refine kr_const (v := 1) d_X10_leastOf_122 ?_
    refine kr_aload0 d_X10_leastOf_123 ?_
    refine kr_getR (q := 127) d_X10_leastOf_124 fl_X10_55 sh_111 rfl ?_
    refine kr_const (v := 0) d_X10_leastOf_127 ?_
    refine kr_ialoadC (j := 0) ⟨by decide, by decide, by decide⟩ d_X10_leastOf_128 sh_127 ?_
    refine kr_ishl d_X10_leastOf_129 ?_
    refine kr_ior d_X10_leastOf_130 ?_
    refine kr_vl (fun e19 => ?_)
    refine kr_istore3 d_X10_leastOf_131 (Nat.le_of_ble_eq_true rfl) kv_c1i ?_
    refine kr_const (v := 0) d_X10_leastOf_132 ?_
    refine kr_istore4 d_X10_leastOf_133 (Nat.le_of_ble_eq_true rfl) kv_c1i ?_
    refine kr_kill1 ?_
    refine s_f_X10_leastOf_L135 r18 e19 kv_fu 0 h17 _ (fun  h29 => ?_)
    refine kr_aload0 d_X10_leastOf_226 ?_
    refine kr_getR (q := 128) d_X10_leastOf_227 fl_X10_58 sh_111 rfl ?_
    refine kr_aload0 d_X10_leastOf_230 ?_
    refine kr_getI d_X10_leastOf_231 fl_X10_205 sh_111 rfl ?_
    refine kr_iaload d_X10_leastOf_234 sh_128 ?_
    refine kr_aload0 d_X10_leastOf_235 ?_
    refine kr_iload2 d_X10_leastOf_236 ?_
    refine kr_aload0 d_X10_leastOf_237 ?_
    refine kr_getR (q := 127) d_X10_leastOf_238 fl_X10_55 sh_111 rfl ?_
    refine kr_const (v := 0) d_X10_leastOf_241 ?_
    refine kr_ialoadC (j := 0) ⟨by decide, by decide, by decide⟩ d_X10_leastOf_242 sh_127 ?_
    refine kr_iv_i (As := [.int r18, .int (h29 127 0)]) d_X10_leastOf_243 cl_X10_136 (m_X10_isRead r18 (h29 127 0) h29) sh_111 (Nat.le_of_ble_eq_true rfl) rfl (Nat.le_of_ble_eq_true rfl) (fun r31 h30 => ?_)
    refine kr_if_eq d_X10_leastOf_246 ?_ ?_
    · refine kr_aload0 d_X10_leastOf_253 ?_
      refine kr_getR (q := 124) d_X10_leastOf_254 fl_X10_46 sh_111 rfl ?_
      refine kr_aload0 d_X10_leastOf_257 ?_
      refine kr_getR (q := 127) d_X10_leastOf_258 fl_X10_55 sh_111 rfl ?_
      refine kr_const (v := 0) d_X10_leastOf_261 ?_
      refine kr_ialoadC (j := 0) ⟨by decide, by decide, by decide⟩ d_X10_leastOf_262 sh_127 ?_
      refine kr_iaload d_X10_leastOf_263 sh_124 ?_
      refine kr_iadd d_X10_leastOf_264 ?_
      exact kr_ireturn d_X10_leastOf_265 rfl
    · refine kr_const (v := 0) d_X10_leastOf_249 ?_
      refine kr_goto d_X10_leastOf_250 ?_
      refine kr_iadd d_X10_leastOf_264 ?_
      exact kr_ireturn d_X10_leastOf_265 rfl
  · refine kr_const (v := 0) d_X10_leastOf_114 ?_
    exact kr_ireturn d_X10_leastOf_115 rfl

/-! X10_least -/
def f_X10_least (x1 : Int32) (h : kv_H) : Option (Int32 × kv_H) :=
  kv_b (f_X10_isIn (x1.toInt64) 0 1 h) (fun r2 h1 =>
  if r2 = 0 then (some ((-1000000001), h1))
  else (kv_b (f_X10_knowsRooms h1) (fun _ h3 =>
    kv_b (f_X10_triesRow h3) (fun r5 h4 =>
    kv_b (f_X10_leastOf r5 h4) (fun r7 h6 =>
    if x1 = 0 then (some (r7, h6))
    else (kv_b (f_X10_orNone (h6 111 19) h6) (fun r9 h8 =>
      some (r9, h8))))))))
set_option maxRecDepth 20000 in
theorem m_X10_least (x1 : Int32) (h : kv_H) : kv_M kv_i kK_X10_least [.ref 111, .int x1] h (f_X10_least x1 h) := by
  refine kv_met (ls := [some (.ref 111), some (.int x1), none]) (show plainName RX10 = true by decide +kernel) (fun _ => rfl) (fun _ => Nat.le_of_ble_eq_true rfl) ?_
  unfold f_X10_least
  refine kr_iload1 d_X10_least_0 ?_
  refine kr_i2l d_X10_least_1 ?_
  refine kr_constL (v := 0) d_X10_least_2 ?_
  refine kr_constL (v := 1) d_X10_least_3 ?_
  refine kr_is_i (As := [.long (x1.toInt64), .long 0, .long 1]) d_X10_least_4 cl_X10_83 (m_X10_isIn (x1.toInt64) 0 1 h) (Nat.le_of_ble_eq_true rfl) rfl (Nat.le_of_ble_eq_true rfl) (fun r2 h1 => ?_)
  refine kr_if_ne d_X10_least_7 ?_ ?_
  · refine kr_aload0 d_X10_least_13 ?_
    refine kr_iv_u (As := []) d_X10_least_14 cl_X10_212 (m_X10_knowsRooms h1) sh_111 (Nat.le_of_ble_eq_true rfl) rfl (Nat.le_of_ble_eq_true rfl) (fun h3 => ?_)
    refine kr_aload0 d_X10_least_17 ?_
    refine kr_aload0 d_X10_least_18 ?_
    refine kr_iv_i (As := []) d_X10_least_19 cl_X10_195 (m_X10_triesRow h3) sh_111 (Nat.le_of_ble_eq_true rfl) rfl (Nat.le_of_ble_eq_true rfl) (fun r5 h4 => ?_)
    refine kr_iv_i (As := [.int r5]) d_X10_least_22 cl_X10_215 (m_X10_leastOf r5 h4) sh_111 (Nat.le_of_ble_eq_true rfl) rfl (Nat.le_of_ble_eq_true rfl) (fun r7 h6 => ?_)
    refine kr_istore2 d_X10_least_25 (Nat.le_of_ble_eq_true rfl) kv_c1i ?_
    refine kr_iload1 d_X10_least_26 ?_
    refine kr_if_ne d_X10_least_27 ?_ ?_
    · refine kr_aload0 d_X10_least_34 ?_
      refine kr_getI d_X10_least_35 fl_X10_205 sh_111 rfl ?_
      refine kr_is_i (As := [.int (h6 111 19)]) d_X10_least_38 cl_X10_126 (m_X10_orNone (h6 111 19) h6) (Nat.le_of_ble_eq_true rfl) rfl (Nat.le_of_ble_eq_true rfl) (fun r9 h8 => ?_)
      exact kr_ireturn d_X10_least_41 rfl
    · refine kr_iload2 d_X10_least_30 ?_
      refine kr_goto d_X10_least_31 ?_
      exact kr_ireturn d_X10_least_41 rfl
  · refine kr_const (v := (-1000000001)) d_X10_least_10 ?_
    exact kr_ireturn d_X10_least_12 rfl

/-! X10_heldBy -/
def f_X10_heldBy_L4 (c1 : Int32) : Nat → Int32 → Int32 → kv_H → (Int32 → kv_H → Option (Int32 × kv_H)) → Option (Int32 × kv_H)
  | 0, _, _, _, _ => none
  | n + 1, v2, v3, h, C => if (h 112 0) ≤ v3 then (C v2 h)
    else (kv_b (f_X10_isRead c1 v3 h) (fun r2 h1 =>
      if r2 = 0 then (kv_vl (v2 + 0) (fun e3 =>
        f_X10_heldBy_L4 c1 n e3 (v3 + 1) h1 C))
      else (kv_b (f_X10_leafAt v3 h1) (fun r5 h4 =>
        kv_k (r5 + 3) 3098 (kv_k v3 8 (kv_vl (v2 + ((h4 112 (r5 + 3).toNatClampNeg) * (h4 124 v3.toNatClampNeg))) (fun e6 =>
        f_X10_heldBy_L4 c1 n e6 (v3 + 1) h4 C)))))))
def f_X10_heldBy (x1 : Int32) (h : kv_H) : Option (Int32 × kv_H) :=
  f_X10_heldBy_L4 x1 kv_fu 0 0 h (fun z7 h8 =>
  some (z7, h8))
set_option maxRecDepth 20000 in
theorem s_f_X10_heldBy_L4 (c1 : Int32) : ∀ (n : Nat) (v2 : Int32) (v3 : Int32) (h : kv_H) (C : Int32 → kv_H → Option (Int32 × kv_H)), (∀ (w2 : Int32) (h : kv_H), kv_S kv_i kK_X10_heldBy 55 [none, none, some (.int w2), none] [] h (C w2 h)) → kv_S kv_i kK_X10_heldBy 4 [some (.ref 111), some (.int c1), some (.int v2), some (.int v3)] [] h (f_X10_heldBy_L4 c1 n v2 v3 h C) := by
  intro n
  induction n with
  | zero => intros; exact kv_none
  | succ n ih =>
    intro v2 v3 h C hC
    unfold f_X10_heldBy_L4
    refine kr_iload3 d_X10_heldBy_4 ?_
    refine kr_aload0 d_X10_heldBy_5 ?_
    refine kr_getR (q := 112) d_X10_heldBy_6 fl_X10_7 sh_111 rfl ?_
    refine kr_const (v := 0) d_X10_heldBy_9 ?_
    refine kr_ialoadC (j := 0) ⟨by decide, by decide, by decide⟩ d_X10_heldBy_10 sh_112 ?_
    refine kr_icmp_ge d_X10_heldBy_11 ?_ ?_
    · refine kr_kill0 ?_
      refine kr_kill1 ?_
      refine kr_kill3 ?_
      exact hC v2 h
    · refine kr_iload2 d_X10_heldBy_14 ?_
      refine kr_aload0 d_X10_heldBy_15 ?_
      refine kr_iload1 d_X10_heldBy_16 ?_
      refine kr_iload3 d_X10_heldBy_17 ?_
      refine kr_iv_i (As := [.int c1, .int v3]) d_X10_heldBy_18 cl_X10_136 (m_X10_isRead c1 v3 h) sh_111 (Nat.le_of_ble_eq_true rfl) rfl (Nat.le_of_ble_eq_true rfl) (fun r2 h1 => ?_)
      refine kr_if_eq d_X10_heldBy_21 ?_ ?_
      · refine kr_const (v := 0) d_X10_heldBy_46 ?_
        refine kr_iadd d_X10_heldBy_47 ?_
        refine kr_vl (fun e3 => ?_)
        refine kr_istore2 d_X10_heldBy_48 (Nat.le_of_ble_eq_true rfl) kv_c1i ?_
        refine kr_iinc3 d_X10_heldBy_49 (Nat.le_of_ble_eq_true rfl) kv_c1i ?_
        refine kr_goto d_X10_heldBy_52 ?_
        exact ih e3 (v3 + 1) h1 C hC
      · refine kr_aload0 d_X10_heldBy_24 ?_
        refine kr_getR (q := 112) d_X10_heldBy_25 fl_X10_7 sh_111 rfl ?_
        refine kr_aload0 d_X10_heldBy_28 ?_
        refine kr_iload3 d_X10_heldBy_29 ?_
        refine kr_iv_i (As := [.int v3]) d_X10_heldBy_30 cl_X10_92 (m_X10_leafAt v3 h1) sh_111 (Nat.le_of_ble_eq_true rfl) rfl (Nat.le_of_ble_eq_true rfl) (fun r5 h4 => ?_)
        refine kr_const (v := 3) d_X10_heldBy_33 ?_
        refine kr_iadd d_X10_heldBy_34 ?_
        refine kr_iaload d_X10_heldBy_35 sh_112 ?_
        refine kr_aload0 d_X10_heldBy_36 ?_
        refine kr_getR (q := 124) d_X10_heldBy_37 fl_X10_46 sh_111 rfl ?_
        refine kr_iload3 d_X10_heldBy_40 ?_
        refine kr_iaload d_X10_heldBy_41 sh_124 ?_
        refine kr_imul d_X10_heldBy_42 ?_
        refine kr_goto d_X10_heldBy_43 ?_
        refine kr_iadd d_X10_heldBy_47 ?_
        refine kr_vl (fun e6 => ?_)
        refine kr_istore2 d_X10_heldBy_48 (Nat.le_of_ble_eq_true rfl) kv_c1i ?_
        refine kr_iinc3 d_X10_heldBy_49 (Nat.le_of_ble_eq_true rfl) kv_c1i ?_
        refine kr_goto d_X10_heldBy_52 ?_
        exact ih e6 (v3 + 1) h4 C hC

set_option maxRecDepth 20000 in
theorem m_X10_heldBy (x1 : Int32) (h : kv_H) : kv_M kv_i kK_X10_heldBy [.ref 111, .int x1] h (f_X10_heldBy x1 h) := by
  refine kv_met (ls := [some (.ref 111), some (.int x1), none, none]) (show plainName RX10 = true by decide +kernel) (fun _ => rfl) (fun _ => Nat.le_of_ble_eq_true rfl) ?_
  unfold f_X10_heldBy
  refine kr_const (v := 0) d_X10_heldBy_0 ?_
  refine kr_istore2 d_X10_heldBy_1 (Nat.le_of_ble_eq_true rfl) kv_c1i ?_
  refine kr_const (v := 0) d_X10_heldBy_2 ?_
  refine kr_istore3 d_X10_heldBy_3 (Nat.le_of_ble_eq_true rfl) kv_c1i ?_
  refine s_f_X10_heldBy_L4 x1 kv_fu 0 0 h _ (fun z7 h8 => ?_)
  refine kr_iload2 d_X10_heldBy_55 ?_
  exact kr_ireturn d_X10_heldBy_56 rfl

/-! X10_hold -/
def f_X10_hold (x1 : Int32) (h : kv_H) : Option (Int32 × kv_H) :=
  if x1 < 0 then (some ((-1000000001), h))
  else (kv_b (f_X10_sets h) (fun r2 h1 =>
    if x1 < r2 then (kv_b (f_X10_knowsRooms h1) (fun _ h3 =>
      kv_k x1 256 (if (h3 125 x1.toNatClampNeg) ≤ (h3 112 3) then (kv_b (f_X10_heldBy x1 h3) (fun r5 h4 =>
        some (r5, h4)))
      else (some ((-1000000002), h3)))))
    else (some ((-1000000001), h1))))
set_option maxRecDepth 20000 in
theorem m_X10_hold (x1 : Int32) (h : kv_H) : kv_M kv_i kK_X10_hold [.ref 111, .int x1] h (f_X10_hold x1 h) := by
  refine kv_met (ls := [some (.ref 111), some (.int x1)]) (show plainName RX10 = true by decide +kernel) (fun _ => rfl) (fun _ => Nat.le_of_ble_eq_true rfl) ?_
  unfold f_X10_hold
  refine kr_iload1 d_X10_hold_0 ?_
  refine kr_if_lt d_X10_hold_1 ?_ ?_
  · refine kr_const (v := (-1000000001)) d_X10_hold_12 ?_
    exact kr_ireturn d_X10_hold_14 rfl
  · refine kr_iload1 d_X10_hold_4 ?_
    refine kr_aload0 d_X10_hold_5 ?_
    refine kr_iv_i (As := []) d_X10_hold_6 cl_X10_201 (m_X10_sets h) sh_111 (Nat.le_of_ble_eq_true rfl) rfl (Nat.le_of_ble_eq_true rfl) (fun r2 h1 => ?_)
    refine kr_icmp_lt d_X10_hold_9 ?_ ?_
    · refine kr_aload0 d_X10_hold_15 ?_
      refine kr_iv_u (As := []) d_X10_hold_16 cl_X10_212 (m_X10_knowsRooms h1) sh_111 (Nat.le_of_ble_eq_true rfl) rfl (Nat.le_of_ble_eq_true rfl) (fun h3 => ?_)
      refine kr_aload0 d_X10_hold_19 ?_
      refine kr_getR (q := 125) d_X10_hold_20 fl_X10_49 sh_111 rfl ?_
      refine kr_iload1 d_X10_hold_23 ?_
      refine kr_iaload d_X10_hold_24 sh_125 ?_
      refine kr_aload0 d_X10_hold_25 ?_
      refine kr_getR (q := 112) d_X10_hold_26 fl_X10_7 sh_111 rfl ?_
      refine kr_const (v := 3) d_X10_hold_29 ?_
      refine kr_ialoadC (j := 3) ⟨by decide, by decide, by decide⟩ d_X10_hold_30 sh_112 ?_
      refine kr_icmp_le d_X10_hold_31 ?_ ?_
      · refine kr_aload0 d_X10_hold_39 ?_
        refine kr_iload1 d_X10_hold_40 ?_
        refine kr_iv_i (As := [.int x1]) d_X10_hold_41 cl_X10_218 (m_X10_heldBy x1 h3) sh_111 (Nat.le_of_ble_eq_true rfl) rfl (Nat.le_of_ble_eq_true rfl) (fun r5 h4 => ?_)
        exact kr_ireturn d_X10_hold_44 rfl
      · refine kr_const (v := (-1000000002)) d_X10_hold_34 ?_
        refine kr_goto d_X10_hold_36 ?_
        exact kr_ireturn d_X10_hold_44 rfl
    · refine kr_const (v := (-1000000001)) d_X10_hold_12 ?_
      exact kr_ireturn d_X10_hold_14 rfl

/-! X10_bestWithout -/
def f_X10_bestWithout_L4 (c1 : Int32) : Nat → Int32 → Int32 → kv_H → (Int32 → kv_H → Option (Int32 × kv_H)) → Option (Int32 × kv_H)
  | 0, _, _, _, _ => none
  | n + 1, v2, v3, h, C => kv_b (f_X10_sets h) (fun r2 h1 =>
    if r2 ≤ v3 then (C v2 h1)
    else (kv_jn (fun (y3 : Int32) (h4 : kv_H) =>
      if y3 = 0 then (f_X10_bestWithout_L4 c1 n v2 (v3 + 1) h4 C)
        else (kv_b (f_X10_heldBy v3 h4) (fun r6 h5 =>
          kv_b (f_X10_heldBy v2 h5) (fun r8 h7 =>
          if r6 ≤ r8 then (f_X10_bestWithout_L4 c1 n v2 (v3 + 1) h7 C)
          else (f_X10_bestWithout_L4 c1 n v3 (v3 + 1) h7 C))))) (fun (J38 : Int32 → kv_H → Option (Int32 × kv_H)) =>
      kv_jn (fun  (h9 : kv_H) =>
      J38 0 h9) (fun (J37 : kv_H → Option (Int32 × kv_H)) =>
      if (v3 &&& c1) = 0 then (kv_k v3 256 (if (h1 112 3) < (h1 125 v3.toNatClampNeg) then (J37 h1)
        else (J38 1 h1)))
      else (J37 h1)))))
def f_X10_bestWithout (x1 : Int32) (h : kv_H) : Option (Int32 × kv_H) :=
  f_X10_bestWithout_L4 x1 kv_fu 0 1 h (fun z10 h11 =>
  some (z10, h11))
set_option maxRecDepth 20000 in
theorem s_f_X10_bestWithout_L4 (c1 : Int32) : ∀ (n : Nat) (v2 : Int32) (v3 : Int32) (h : kv_H) (C : Int32 → kv_H → Option (Int32 × kv_H)), (∀ (w2 : Int32) (h : kv_H), kv_S kv_i kK_X10_bestWithout 70 [none, none, some (.int w2), none, none] [] h (C w2 h)) → kv_S kv_i kK_X10_bestWithout 4 [some (.ref 111), some (.int c1), some (.int v2), some (.int v3), none] [] h (f_X10_bestWithout_L4 c1 n v2 v3 h C) := by
  intro n
  induction n with
  | zero => intros; exact kv_none
  | succ n ih =>
    intro v2 v3 h C hC
    unfold f_X10_bestWithout_L4
    refine kr_iload3 d_X10_bestWithout_4 ?_
    refine kr_aload0 d_X10_bestWithout_5 ?_
    refine kr_iv_i (As := []) d_X10_bestWithout_6 cl_X10_201 (m_X10_sets h) sh_111 (Nat.le_of_ble_eq_true rfl) rfl (Nat.le_of_ble_eq_true rfl) (fun r2 h1 => ?_)
    refine kr_icmp_ge d_X10_bestWithout_9 ?_ ?_
    · refine kr_kill0 ?_
      refine kr_kill1 ?_
      refine kr_kill3 ?_
      exact hC v2 h1
    · refine kr_iload3 d_X10_bestWithout_12 ?_
      refine kr_iload1 d_X10_bestWithout_13 ?_
      refine kr_iand d_X10_bestWithout_14 ?_
      refine kr_jn (P := fun J38 => ∀ (y3 : Int32), ∀ (h4 : kv_H), kv_S kv_i kK_X10_bestWithout 38 [some (.ref 111), some (.int c1), some (.int v2), some (.int v3), none] [.int y3] h4 (J38 y3 h4)) (fun y3 h4 => ?_) (fun J38 hJ38 => ?_)
      · refine kr_istore4 d_X10_bestWithout_38 (Nat.le_of_ble_eq_true rfl) kv_c1i ?_
        refine kr_iload4 d_X10_bestWithout_40 ?_
        refine kr_if_eq d_X10_bestWithout_42 ?_ ?_
        · refine kr_iload2 d_X10_bestWithout_62 ?_
          refine kr_istore2 d_X10_bestWithout_63 (Nat.le_of_ble_eq_true rfl) kv_c1i ?_
          refine kr_iinc3 d_X10_bestWithout_64 (Nat.le_of_ble_eq_true rfl) kv_c1i ?_
          refine kr_goto d_X10_bestWithout_67 ?_
          refine kr_kill4 ?_
          exact ih v2 (v3 + 1) h4 C hC
        · refine kr_aload0 d_X10_bestWithout_45 ?_
          refine kr_iload3 d_X10_bestWithout_46 ?_
          refine kr_iv_i (As := [.int v3]) d_X10_bestWithout_47 cl_X10_218 (m_X10_heldBy v3 h4) sh_111 (Nat.le_of_ble_eq_true rfl) rfl (Nat.le_of_ble_eq_true rfl) (fun r6 h5 => ?_)
          refine kr_aload0 d_X10_bestWithout_50 ?_
          refine kr_iload2 d_X10_bestWithout_51 ?_
          refine kr_iv_i (As := [.int v2]) d_X10_bestWithout_52 cl_X10_218 (m_X10_heldBy v2 h5) sh_111 (Nat.le_of_ble_eq_true rfl) rfl (Nat.le_of_ble_eq_true rfl) (fun r8 h7 => ?_)
          refine kr_icmp_le d_X10_bestWithout_55 ?_ ?_
          · refine kr_iload2 d_X10_bestWithout_62 ?_
            refine kr_istore2 d_X10_bestWithout_63 (Nat.le_of_ble_eq_true rfl) kv_c1i ?_
            refine kr_iinc3 d_X10_bestWithout_64 (Nat.le_of_ble_eq_true rfl) kv_c1i ?_
            refine kr_goto d_X10_bestWithout_67 ?_
            refine kr_kill4 ?_
            exact ih v2 (v3 + 1) h7 C hC
          · refine kr_iload3 d_X10_bestWithout_58 ?_
            refine kr_goto d_X10_bestWithout_59 ?_
            refine kr_istore2 d_X10_bestWithout_63 (Nat.le_of_ble_eq_true rfl) kv_c1i ?_
            refine kr_iinc3 d_X10_bestWithout_64 (Nat.le_of_ble_eq_true rfl) kv_c1i ?_
            refine kr_goto d_X10_bestWithout_67 ?_
            refine kr_kill4 ?_
            exact ih v3 (v3 + 1) h7 C hC
      refine kr_jn (P := fun J37 =>  ∀ (h9 : kv_H), kv_S kv_i kK_X10_bestWithout 37 [some (.ref 111), some (.int c1), some (.int v2), some (.int v3), none] [] h9 (J37  h9)) (fun  h9 => ?_) (fun J37 hJ37 => ?_)
      · refine kr_const (v := 0) d_X10_bestWithout_37 ?_
        exact hJ38 0 h9
      refine kr_if_ne d_X10_bestWithout_15 ?_ ?_
      · exact hJ37 h1
      · refine kr_aload0 d_X10_bestWithout_18 ?_
        refine kr_getR (q := 125) d_X10_bestWithout_19 fl_X10_49 sh_111 rfl ?_
        refine kr_iload3 d_X10_bestWithout_22 ?_
        refine kr_iaload d_X10_bestWithout_23 sh_125 ?_
        refine kr_aload0 d_X10_bestWithout_24 ?_
        refine kr_getR (q := 112) d_X10_bestWithout_25 fl_X10_7 sh_111 rfl ?_
        refine kr_const (v := 3) d_X10_bestWithout_28 ?_
        refine kr_ialoadC (j := 3) ⟨by decide, by decide, by decide⟩ d_X10_bestWithout_29 sh_112 ?_
        refine kr_icmp_gt d_X10_bestWithout_30 ?_ ?_
        · exact hJ37 h1
        · refine kr_const (v := 1) d_X10_bestWithout_33 ?_
          refine kr_goto d_X10_bestWithout_34 ?_
          exact hJ38 1 h1

set_option maxRecDepth 20000 in
theorem m_X10_bestWithout (x1 : Int32) (h : kv_H) : kv_M kv_i kK_X10_bestWithout [.ref 111, .int x1] h (f_X10_bestWithout x1 h) := by
  refine kv_met (ls := [some (.ref 111), some (.int x1), none, none, none]) (show plainName RX10 = true by decide +kernel) (fun _ => rfl) (fun _ => Nat.le_of_ble_eq_true rfl) ?_
  unfold f_X10_bestWithout
  refine kr_const (v := 0) d_X10_bestWithout_0 ?_
  refine kr_istore2 d_X10_bestWithout_1 (Nat.le_of_ble_eq_true rfl) kv_c1i ?_
  refine kr_const (v := 1) d_X10_bestWithout_2 ?_
  refine kr_istore3 d_X10_bestWithout_3 (Nat.le_of_ble_eq_true rfl) kv_c1i ?_
  refine s_f_X10_bestWithout_L4 x1 kv_fu 0 1 h _ (fun z10 h11 => ?_)
  refine kr_iload2 d_X10_bestWithout_70 ?_
  exact kr_ireturn d_X10_bestWithout_71 rfl

/-! X10_best -/
def f_X10_best (x1 : Int32) (h : kv_H) : Option (Int32 × kv_H) :=
  kv_b (f_X10_isIn (x1.toInt64) 0 1 h) (fun r2 h1 =>
  if r2 = 0 then (some ((-1000000001), h1))
  else (kv_b (f_X10_knowsRooms h1) (fun _ h3 =>
    kv_b (f_X10_bestWithout 0 h3) (fun r5 h4 =>
    if x1 = 0 then (kv_b (f_X10_heldBy r5 h4) (fun r7 h6 =>
      some (r7, h6)))
    else (some (r5, h4))))))
set_option maxRecDepth 20000 in
theorem m_X10_best (x1 : Int32) (h : kv_H) : kv_M kv_i kK_X10_best [.ref 111, .int x1] h (f_X10_best x1 h) := by
  refine kv_met (ls := [some (.ref 111), some (.int x1), none]) (show plainName RX10 = true by decide +kernel) (fun _ => rfl) (fun _ => Nat.le_of_ble_eq_true rfl) ?_
  unfold f_X10_best
  refine kr_iload1 d_X10_best_0 ?_
  refine kr_i2l d_X10_best_1 ?_
  refine kr_constL (v := 0) d_X10_best_2 ?_
  refine kr_constL (v := 1) d_X10_best_3 ?_
  refine kr_is_i (As := [.long (x1.toInt64), .long 0, .long 1]) d_X10_best_4 cl_X10_83 (m_X10_isIn (x1.toInt64) 0 1 h) (Nat.le_of_ble_eq_true rfl) rfl (Nat.le_of_ble_eq_true rfl) (fun r2 h1 => ?_)
  refine kr_if_ne d_X10_best_7 ?_ ?_
  · refine kr_aload0 d_X10_best_13 ?_
    refine kr_iv_u (As := []) d_X10_best_14 cl_X10_212 (m_X10_knowsRooms h1) sh_111 (Nat.le_of_ble_eq_true rfl) rfl (Nat.le_of_ble_eq_true rfl) (fun h3 => ?_)
    refine kr_aload0 d_X10_best_17 ?_
    refine kr_const (v := 0) d_X10_best_18 ?_
    refine kr_iv_i (As := [.int 0]) d_X10_best_19 cl_X10_221 (m_X10_bestWithout 0 h3) sh_111 (Nat.le_of_ble_eq_true rfl) rfl (Nat.le_of_ble_eq_true rfl) (fun r5 h4 => ?_)
    refine kr_istore2 d_X10_best_22 (Nat.le_of_ble_eq_true rfl) kv_c1i ?_
    refine kr_iload1 d_X10_best_23 ?_
    refine kr_if_ne d_X10_best_24 ?_ ?_
    · refine kr_iload2 d_X10_best_35 ?_
      exact kr_ireturn d_X10_best_36 rfl
    · refine kr_aload0 d_X10_best_27 ?_
      refine kr_iload2 d_X10_best_28 ?_
      refine kr_iv_i (As := [.int r5]) d_X10_best_29 cl_X10_218 (m_X10_heldBy r5 h4) sh_111 (Nat.le_of_ble_eq_true rfl) rfl (Nat.le_of_ble_eq_true rfl) (fun r7 h6 => ?_)
      refine kr_goto d_X10_best_32 ?_
      exact kr_ireturn d_X10_best_36 rfl
  · refine kr_const (v := (-1000000001)) d_X10_best_10 ?_
    exact kr_ireturn d_X10_best_12 rfl

/-! X10_price -/
def f_X10_price (x1 : Int32) (h : kv_H) : Option (Int32 × kv_H) :=
  kv_b (f_X10_isLeaf x1 h) (fun r2 h1 =>
  if r2 = 0 then (some ((-1000000001), h1))
  else (kv_b (f_X10_knowsRooms h1) (fun _ h3 =>
    kv_b (f_X10_bestWithout 0 h3) (fun r5 h4 =>
    kv_b (f_X10_heldBy r5 h4) (fun r7 h6 =>
    kv_b (f_X10_bestWithout (1 <<< (x1 &&& 31)) h6) (fun r9 h8 =>
    kv_b (f_X10_heldBy r9 h8) (fun r11 h10 =>
    some ((r7 - r11), h10))))))))
set_option maxRecDepth 20000 in
theorem m_X10_price (x1 : Int32) (h : kv_H) : kv_M kv_i kK_X10_price [.ref 111, .int x1] h (f_X10_price x1 h) := by
  refine kv_met (ls := [some (.ref 111), some (.int x1)]) (show plainName RX10 = true by decide +kernel) (fun _ => rfl) (fun _ => Nat.le_of_ble_eq_true rfl) ?_
  unfold f_X10_price
  refine kr_aload0 d_X10_price_0 ?_
  refine kr_iload1 d_X10_price_1 ?_
  refine kr_iv_i (As := [.int x1]) d_X10_price_2 cl_X10_116 (m_X10_isLeaf x1 h) sh_111 (Nat.le_of_ble_eq_true rfl) rfl (Nat.le_of_ble_eq_true rfl) (fun r2 h1 => ?_)
  refine kr_if_ne d_X10_price_5 ?_ ?_
  · refine kr_aload0 d_X10_price_11 ?_
    refine kr_iv_u (As := []) d_X10_price_12 cl_X10_212 (m_X10_knowsRooms h1) sh_111 (Nat.le_of_ble_eq_true rfl) rfl (Nat.le_of_ble_eq_true rfl) (fun h3 => ?_)
    refine kr_aload0 d_X10_price_15 ?_
    refine kr_aload0 d_X10_price_16 ?_
    refine kr_const (v := 0) d_X10_price_17 ?_
    refine kr_iv_i (As := [.int 0]) d_X10_price_18 cl_X10_221 (m_X10_bestWithout 0 h3) sh_111 (Nat.le_of_ble_eq_true rfl) rfl (Nat.le_of_ble_eq_true rfl) (fun r5 h4 => ?_)
    refine kr_iv_i (As := [.int r5]) d_X10_price_21 cl_X10_218 (m_X10_heldBy r5 h4) sh_111 (Nat.le_of_ble_eq_true rfl) rfl (Nat.le_of_ble_eq_true rfl) (fun r7 h6 => ?_)
    refine kr_aload0 d_X10_price_24 ?_
    refine kr_aload0 d_X10_price_25 ?_
    refine kr_const (v := 1) d_X10_price_26 ?_
    refine kr_iload1 d_X10_price_27 ?_
    refine kr_ishl d_X10_price_28 ?_
    refine kr_iv_i (As := [.int (1 <<< (x1 &&& 31))]) d_X10_price_29 cl_X10_221 (m_X10_bestWithout (1 <<< (x1 &&& 31)) h6) sh_111 (Nat.le_of_ble_eq_true rfl) rfl (Nat.le_of_ble_eq_true rfl) (fun r9 h8 => ?_)
    refine kr_iv_i (As := [.int r9]) d_X10_price_32 cl_X10_218 (m_X10_heldBy r9 h8) sh_111 (Nat.le_of_ble_eq_true rfl) rfl (Nat.le_of_ble_eq_true rfl) (fun r11 h10 => ?_)
    refine kr_isub d_X10_price_35 ?_
    exact kr_ireturn d_X10_price_36 rfl
  · refine kr_const (v := (-1000000001)) d_X10_price_8 ?_
    exact kr_ireturn d_X10_price_10 rfl

/-! X10_laysRow -/
def f_X10_laysRow_L7 : Nat → Int32 → Int32 → kv_H → (kv_H → Option (Unit × kv_H)) → Option (Unit × kv_H)
  | 0, _, _, _, _ => none
  | n + 1, v3, v4, h, C => if v4 < 0 then (C h)
    else (kv_z (h 112 0) (kv_k v4 24 (kv_hl (kv_up h 127 v4.toNatClampNeg (v3 - v3 / (h 112 0) * (h 112 0))) (fun h2 =>
      kv_z (h2 112 0) (kv_vl (v3 / (h2 112 0)) (fun e3 =>
      f_X10_laysRow_L7 n e3 (v4 + (-1)) h2 C))))))
def f_X10_laysRow (x1 : Int32) (x2 : Int32) (h : kv_H) : Option (Unit × kv_H) :=
  kv_vl (x2 - 1) (fun e1 =>
  f_X10_laysRow_L7 kv_fu x1 e1 h (fun  h4 =>
  some ((), h4)))
set_option maxRecDepth 20000 in
theorem s_f_X10_laysRow_L7 : ∀ (n : Nat) (v3 : Int32) (v4 : Int32) (h : kv_H) (C : kv_H → Option (Unit × kv_H)), (∀  (h : kv_H), kv_S kv_u kK_X10_laysRow 42 [none, none, none, none, none] [] h (C h)) → kv_S kv_u kK_X10_laysRow 7 [some (.ref 111), none, none, some (.int v3), some (.int v4)] [] h (f_X10_laysRow_L7 n v3 v4 h C) := by
  intro n
  induction n with
  | zero => intros; exact kv_none
  | succ n ih =>
    intro v3 v4 h C hC
    unfold f_X10_laysRow_L7
    refine kr_iload4 d_X10_laysRow_7 ?_
    refine kr_if_lt d_X10_laysRow_9 ?_ ?_
    · refine kr_kill0 ?_
      refine kr_kill3 ?_
      refine kr_kill4 ?_
      exact hC h
    · refine kr_aload0 d_X10_laysRow_12 ?_
      refine kr_getR (q := 127) d_X10_laysRow_13 fl_X10_55 sh_111 rfl ?_
      refine kr_iload4 d_X10_laysRow_16 ?_
      refine kr_iload3 d_X10_laysRow_18 ?_
      refine kr_aload0 d_X10_laysRow_19 ?_
      refine kr_getR (q := 112) d_X10_laysRow_20 fl_X10_7 sh_111 rfl ?_
      refine kr_const (v := 0) d_X10_laysRow_23 ?_
      refine kr_ialoadC (j := 0) ⟨by decide, by decide, by decide⟩ d_X10_laysRow_24 sh_112 ?_
      refine kr_irem d_X10_laysRow_25 ?_
      refine kr_iastore d_X10_laysRow_26 sh_127 ?_
      refine kr_hl (fun h2 => ?_)
      refine kr_iload3 d_X10_laysRow_27 ?_
      refine kr_aload0 d_X10_laysRow_28 ?_
      refine kr_getR (q := 112) d_X10_laysRow_29 fl_X10_7 sh_111 rfl ?_
      refine kr_const (v := 0) d_X10_laysRow_32 ?_
      refine kr_ialoadC (j := 0) ⟨by decide, by decide, by decide⟩ d_X10_laysRow_33 sh_112 ?_
      refine kr_idiv d_X10_laysRow_34 ?_
      refine kr_vl (fun e3 => ?_)
      refine kr_istore3 d_X10_laysRow_35 (Nat.le_of_ble_eq_true rfl) kv_c1n ?_
      refine kr_iinc4 d_X10_laysRow_36 (Nat.le_of_ble_eq_true rfl) kv_c1i ?_
      refine kr_goto d_X10_laysRow_39 ?_
      exact ih e3 (v4 + (-1)) h2 C hC

set_option maxRecDepth 20000 in
theorem m_X10_laysRow (x1 : Int32) (x2 : Int32) (h : kv_H) : kv_M kv_u kK_X10_laysRow [.ref 111, .int x1, .int x2] h (f_X10_laysRow x1 x2 h) := by
  refine kv_met (ls := [some (.ref 111), some (.int x1), some (.int x2), none, none]) (show plainName RX10 = true by decide +kernel) (fun _ => rfl) (fun _ => Nat.le_of_ble_eq_true rfl) ?_
  unfold f_X10_laysRow
  refine kr_iload1 d_X10_laysRow_0 ?_
  refine kr_istore3 d_X10_laysRow_1 (Nat.le_of_ble_eq_true rfl) kv_c1i ?_
  refine kr_iload2 d_X10_laysRow_2 ?_
  refine kr_const (v := 1) d_X10_laysRow_3 ?_
  refine kr_isub d_X10_laysRow_4 ?_
  refine kr_vl (fun e1 => ?_)
  refine kr_istore4 d_X10_laysRow_5 (Nat.le_of_ble_eq_true rfl) kv_c1i ?_
  refine kr_kill1 ?_
  refine kr_kill2 ?_
  refine s_f_X10_laysRow_L7 kv_fu x1 e1 h _ (fun  h4 => ?_)
  exact kr_return d_X10_laysRow_42 rfl

/-! X10_rowsOf -/
def f_X10_rowsOf_L4 (c1 : Int32) : Nat → Int32 → Int32 → kv_H → (Int32 → kv_H → Option (Int32 × kv_H)) → Option (Int32 × kv_H)
  | 0, _, _, _, _ => none
  | n + 1, v2, v3, h, C => if c1 ≤ v3 then (C v2 h)
    else (kv_vl (v2 * (h 112 0)) (fun e1 =>
      f_X10_rowsOf_L4 c1 n e1 (v3 + 1) h C))
def f_X10_rowsOf (x1 : Int32) (h : kv_H) : Option (Int32 × kv_H) :=
  f_X10_rowsOf_L4 x1 kv_fu 1 0 h (fun z2 h3 =>
  some (z2, h3))
set_option maxRecDepth 20000 in
theorem s_f_X10_rowsOf_L4 (c1 : Int32) : ∀ (n : Nat) (v2 : Int32) (v3 : Int32) (h : kv_H) (C : Int32 → kv_H → Option (Int32 × kv_H)), (∀ (w2 : Int32) (h : kv_H), kv_S kv_i kK_X10_rowsOf 24 [none, none, some (.int w2), none] [] h (C w2 h)) → kv_S kv_i kK_X10_rowsOf 4 [some (.ref 111), some (.int c1), some (.int v2), some (.int v3)] [] h (f_X10_rowsOf_L4 c1 n v2 v3 h C) := by
  intro n
  induction n with
  | zero => intros; exact kv_none
  | succ n ih =>
    intro v2 v3 h C hC
    unfold f_X10_rowsOf_L4
    refine kr_iload3 d_X10_rowsOf_4 ?_
    refine kr_iload1 d_X10_rowsOf_5 ?_
    refine kr_icmp_ge d_X10_rowsOf_6 ?_ ?_
    · refine kr_kill0 ?_
      refine kr_kill1 ?_
      refine kr_kill3 ?_
      exact hC v2 h
    · refine kr_iload2 d_X10_rowsOf_9 ?_
      refine kr_aload0 d_X10_rowsOf_10 ?_
      refine kr_getR (q := 112) d_X10_rowsOf_11 fl_X10_7 sh_111 rfl ?_
      refine kr_const (v := 0) d_X10_rowsOf_14 ?_
      refine kr_ialoadC (j := 0) ⟨by decide, by decide, by decide⟩ d_X10_rowsOf_15 sh_112 ?_
      refine kr_imul d_X10_rowsOf_16 ?_
      refine kr_vl (fun e1 => ?_)
      refine kr_istore2 d_X10_rowsOf_17 (Nat.le_of_ble_eq_true rfl) kv_c1i ?_
      refine kr_iinc3 d_X10_rowsOf_18 (Nat.le_of_ble_eq_true rfl) kv_c1i ?_
      refine kr_goto d_X10_rowsOf_21 ?_
      exact ih e1 (v3 + 1) h C hC

set_option maxRecDepth 20000 in
theorem m_X10_rowsOf (x1 : Int32) (h : kv_H) : kv_M kv_i kK_X10_rowsOf [.ref 111, .int x1] h (f_X10_rowsOf x1 h) := by
  refine kv_met (ls := [some (.ref 111), some (.int x1), none, none]) (show plainName RX10 = true by decide +kernel) (fun _ => rfl) (fun _ => Nat.le_of_ble_eq_true rfl) ?_
  unfold f_X10_rowsOf
  refine kr_const (v := 1) d_X10_rowsOf_0 ?_
  refine kr_istore2 d_X10_rowsOf_1 (Nat.le_of_ble_eq_true rfl) kv_c1i ?_
  refine kr_const (v := 0) d_X10_rowsOf_2 ?_
  refine kr_istore3 d_X10_rowsOf_3 (Nat.le_of_ble_eq_true rfl) kv_c1i ?_
  refine s_f_X10_rowsOf_L4 x1 kv_fu 1 0 h _ (fun z2 h3 => ?_)
  refine kr_iload2 d_X10_rowsOf_24 ?_
  exact kr_ireturn d_X10_rowsOf_25 rfl


/-! X9_copyRow -/
def f_X9_copyRow (k1 nk1 : Nat) (k2 nk2 : Nat) (h : kv_H) : Option (Unit × kv_H) :=
  kv_y 0 0 (if (nI nk2) < (nI nk1) then (nI nk2) else (nI nk1)) nk1 nk2 (kv_hl (kv_row h k2 (va_cpy (h k1) (h k2) (0 : Int32).toNatClampNeg (0 : Int32).toNatClampNeg (if (nI nk2) < (nI nk1) then (nI nk2) else (nI nk1)).toNatClampNeg)) (fun h1 =>
  some ((), h1)))
set_option maxRecDepth 20000 in
theorem m_X9_copyRow (k1 nk1 : Nat) (hk1 : kv_Ar k1 nk1) (k2 nk2 : Nat) (hk2 : kv_Ar k2 nk2) (h : kv_H) : kv_M kv_u kK_X9_copyRow [.ref k1, .ref k2] h (f_X9_copyRow k1 nk1 k2 nk2 h) := by
  refine kv_met (ls := [some (.ref k1), some (.ref k2)]) (show plainName RX9 = true by decide +kernel) (fun _ => rfl) (fun _ => Nat.le_of_ble_eq_true rfl) ?_
  unfold f_X9_copyRow
  refine kr_aload0 d_X9_copyRow_0 ?_
  refine kr_const (v := 0) d_X9_copyRow_1 ?_
  refine kr_aload1 d_X9_copyRow_2 ?_
  refine kr_const (v := 0) d_X9_copyRow_3 ?_
  refine kr_aload0 d_X9_copyRow_4 ?_
  refine kr_alen d_X9_copyRow_5 hk1 ?_
  refine kr_aload1 d_X9_copyRow_6 ?_
  refine kr_alen d_X9_copyRow_7 hk2 ?_
  refine kr_mmin d_X9_copyRow_8 wm_X9_163 (Nat.le_of_ble_eq_true rfl) (Nat.le_of_ble_eq_true rfl) ?_
  refine kr_copy d_X9_copyRow_11 wa_X9_312 hk1 hk2 (Nat.le_of_ble_eq_true rfl) (Nat.le_of_ble_eq_true rfl) ?_
  refine kr_hl (fun h1 => ?_)
  exact kr_return d_X9_copyRow_14 rfl

/-! X0_becomes -/
def f_X0_becomes (k0 : Nat) (k1 : Nat) (h : kv_H) : Option (Unit × kv_H) :=
  kv_b (f_X9_copyRow (k1 + 1) 8 (k0 + 1) 8 h) (fun _ h1 =>
  kv_b (f_X9_copyRow (k1 + 2) 8 (k0 + 2) 8 h1) (fun _ h2 =>
  kv_b (f_X9_copyRow (k1 + 3) 8 (k0 + 3) 8 h2) (fun _ h3 =>
  kv_hl (kv_up h3 k0 3 (h3 k1 3)) (fun h4 =>
  kv_hl (kv_up h4 k0 4 (h4 k1 4)) (fun h5 =>
  kv_hl (kv_up h5 k0 5 (h5 k1 5)) (fun h6 =>
  kv_hl (kv_up h6 k0 6 (h6 k1 6)) (fun h7 =>
  kv_hl (kv_up h7 k0 7 (h7 k1 7)) (fun h8 =>
  some ((), h8)))))))))
set_option maxRecDepth 20000 in
theorem m_X0_becomes (k0 : Nat) (hk0 : kv_Co k0) (k1 : Nat) (hk1 : kv_Co k1) (h : kv_H) : kv_M kv_u kK_X0_becomes [.ref k0, .ref k1] h (f_X0_becomes k0 k1 h) := by
  refine kv_met (ls := [some (.ref k0), some (.ref k1)]) (show plainName RX0 = true by decide +kernel) (fun _ => rfl) (fun _ => Nat.le_of_ble_eq_true rfl) ?_
  unfold f_X0_becomes
  refine kr_aload1 d_X0_becomes_0 ?_
  refine kr_getR (q := (k1 + 1)) d_X0_becomes_1 fl_X0_9 hk1.1 rfl ?_
  refine kr_aload0 d_X0_becomes_4 ?_
  refine kr_getR (q := (k0 + 1)) d_X0_becomes_5 fl_X0_9 hk0.1 rfl ?_
  refine kr_isn_u (As := [.ref (k1 + 1), .ref (k0 + 1)]) d_X0_becomes_8 cl_X0_25 (m_X9_copyRow (k1 + 1) 8 hk1.2.1 (k0 + 1) 8 hk0.2.1 h) (Nat.le_of_ble_eq_true rfl) rfl (Nat.le_of_ble_eq_true rfl) (fun h1 => ?_)
  refine kr_aload1 d_X0_becomes_11 ?_
  refine kr_getR (q := (k1 + 2)) d_X0_becomes_12 fl_X0_15 hk1.1 rfl ?_
  refine kr_aload0 d_X0_becomes_15 ?_
  refine kr_getR (q := (k0 + 2)) d_X0_becomes_16 fl_X0_15 hk0.1 rfl ?_
  refine kr_isn_u (As := [.ref (k1 + 2), .ref (k0 + 2)]) d_X0_becomes_19 cl_X0_25 (m_X9_copyRow (k1 + 2) 8 hk1.2.2.1 (k0 + 2) 8 hk0.2.2.1 h1) (Nat.le_of_ble_eq_true rfl) rfl (Nat.le_of_ble_eq_true rfl) (fun h2 => ?_)
  refine kr_aload1 d_X0_becomes_22 ?_
  refine kr_getR (q := (k1 + 3)) d_X0_becomes_23 fl_X0_18 hk1.1 rfl ?_
  refine kr_aload0 d_X0_becomes_26 ?_
  refine kr_getR (q := (k0 + 3)) d_X0_becomes_27 fl_X0_18 hk0.1 rfl ?_
  refine kr_isn_u (As := [.ref (k1 + 3), .ref (k0 + 3)]) d_X0_becomes_30 cl_X0_25 (m_X9_copyRow (k1 + 3) 8 hk1.2.2.2 (k0 + 3) 8 hk0.2.2.2 h2) (Nat.le_of_ble_eq_true rfl) rfl (Nat.le_of_ble_eq_true rfl) (fun h3 => ?_)
  refine kr_aload0 d_X0_becomes_33 ?_
  refine kr_aload1 d_X0_becomes_34 ?_
  refine kr_getI d_X0_becomes_35 fl_X0_29 hk1.1 rfl ?_
  refine kr_putI d_X0_becomes_38 fp_X0_29 hk0.1 rfl rfl rfl ?_
  refine kr_hl (fun h4 => ?_)
  refine kr_aload0 d_X0_becomes_41 ?_
  refine kr_aload1 d_X0_becomes_42 ?_
  refine kr_getI d_X0_becomes_43 fl_X0_32 hk1.1 rfl ?_
  refine kr_putI d_X0_becomes_46 fp_X0_32 hk0.1 rfl rfl rfl ?_
  refine kr_hl (fun h5 => ?_)
  refine kr_aload0 d_X0_becomes_49 ?_
  refine kr_aload1 d_X0_becomes_50 ?_
  refine kr_getI d_X0_becomes_51 fl_X0_35 hk1.1 rfl ?_
  refine kr_putI d_X0_becomes_54 fp_X0_35 hk0.1 rfl rfl rfl ?_
  refine kr_hl (fun h6 => ?_)
  refine kr_aload0 d_X0_becomes_57 ?_
  refine kr_aload1 d_X0_becomes_58 ?_
  refine kr_getI d_X0_becomes_59 fl_X0_38 hk1.1 rfl ?_
  refine kr_putI d_X0_becomes_62 fp_X0_38 hk0.1 rfl rfl rfl ?_
  refine kr_hl (fun h7 => ?_)
  refine kr_aload0 d_X0_becomes_65 ?_
  refine kr_aload1 d_X0_becomes_66 ?_
  refine kr_getI d_X0_becomes_67 fl_X0_21 hk1.1 rfl ?_
  refine kr_putI d_X0_becomes_70 fp_X0_21 hk0.1 rfl rfl rfl ?_
  refine kr_hl (fun h8 => ?_)
  exact kr_return d_X0_becomes_73 rfl

/-! X0_draw -/
def f_X0_draw (k0 : Nat) (h : kv_H) : Option (Int32 × kv_H) :=
  kv_hl (kv_up h k0 7 (((h k0 7) * 1103515245) + 12345)) (fun h1 =>
  some (((h1 k0 7).toUInt32 >>> (Int32.toUInt32 8 &&& Int32.toUInt32 31)).toInt32, h1))
set_option maxRecDepth 20000 in
theorem m_X0_draw (k0 : Nat) (hk0 : kv_Co k0) (h : kv_H) : kv_M kv_i kK_X0_draw [.ref k0] h (f_X0_draw k0 h) := by
  refine kv_met (ls := [some (.ref k0)]) (show plainName RX0 = true by decide +kernel) (fun _ => rfl) (fun _ => Nat.le_of_ble_eq_true rfl) ?_
  unfold f_X0_draw
  refine kr_aload0 d_X0_draw_0 ?_
  refine kr_aload0 d_X0_draw_1 ?_
  refine kr_getI d_X0_draw_2 fl_X0_21 hk0.1 rfl ?_
  refine kr_const (v := 1103515245) d_X0_draw_5 ?_
  refine kr_imul d_X0_draw_7 ?_
  refine kr_const (v := 12345) d_X0_draw_8 ?_
  refine kr_iadd d_X0_draw_11 ?_
  refine kr_putI d_X0_draw_12 fp_X0_21 hk0.1 rfl rfl rfl ?_
  refine kr_hl (fun h1 => ?_)
  refine kr_aload0 d_X0_draw_15 ?_
  refine kr_getI d_X0_draw_16 fl_X0_21 hk0.1 rfl ?_
  refine kr_const (v := 8) d_X0_draw_19 ?_
  refine kr_iushr d_X0_draw_21 ?_
  exact kr_ireturn d_X0_draw_22 rfl

/-! X0_leafAt -/
def f_X0_leafAt (k0 : Nat) (x1 : Int32) (h : kv_H) : Option (Int32 × kv_H) :=
  if x1 < 0 then (some ((-1000000005), h))
  else (if x1 < (h k0 3) then (kv_k x1 8 (some ((h (k0 + 1) x1.toNatClampNeg), h)))
    else (some ((-1000000005), h)))
set_option maxRecDepth 20000 in
theorem m_X0_leafAt (k0 : Nat) (hk0 : kv_Co k0) (x1 : Int32) (h : kv_H) : kv_M kv_i kK_X0_leafAt [.ref k0, .int x1] h (f_X0_leafAt k0 x1 h) := by
  refine kv_met (ls := [some (.ref k0), some (.int x1)]) (show plainName RX0 = true by decide +kernel) (fun _ => rfl) (fun _ => Nat.le_of_ble_eq_true rfl) ?_
  unfold f_X0_leafAt
  refine kr_iload1 d_X0_leafAt_0 ?_
  refine kr_if_lt d_X0_leafAt_1 ?_ ?_
  · refine kr_const (v := (-1000000005)) d_X0_leafAt_12 ?_
    refine kr_goto d_X0_leafAt_14 ?_
    exact kr_ireturn d_X0_leafAt_23 rfl
  · refine kr_iload1 d_X0_leafAt_4 ?_
    refine kr_aload0 d_X0_leafAt_5 ?_
    refine kr_getI d_X0_leafAt_6 fl_X0_29 hk0.1 rfl ?_
    refine kr_icmp_lt d_X0_leafAt_9 ?_ ?_
    · refine kr_aload0 d_X0_leafAt_17 ?_
      refine kr_getR (q := (k0 + 1)) d_X0_leafAt_18 fl_X0_9 hk0.1 rfl ?_
      refine kr_iload1 d_X0_leafAt_21 ?_
      refine kr_iaload d_X0_leafAt_22 hk0.2.1 ?_
      exact kr_ireturn d_X0_leafAt_23 rfl
    · refine kr_const (v := (-1000000005)) d_X0_leafAt_12 ?_
      refine kr_goto d_X0_leafAt_14 ?_
      exact kr_ireturn d_X0_leafAt_23 rfl

/-! X0_placeOf -/
def f_X0_placeOf_L2 (q0 : Nat) (c1 : Int32) : Nat → Int32 → kv_H → (kv_H → Option (Int32 × kv_H)) → Option (Int32 × kv_H)
  | 0, _, _, _ => none
  | n + 1, v2, h, C => if (h q0 3) ≤ v2 then (C h)
    else (kv_k v2 8 (if (h (q0 + 1) v2.toNatClampNeg) = c1 then (some (v2, h))
      else (f_X0_placeOf_L2 q0 c1 n (v2 + 1) h C)))
def f_X0_placeOf (k0 : Nat) (x1 : Int32) (h : kv_H) : Option (Int32 × kv_H) :=
  f_X0_placeOf_L2 k0 x1 kv_fu 0 h (fun  h1 =>
  some ((-1000000005), h1))
set_option maxRecDepth 20000 in
theorem s_f_X0_placeOf_L2 (q0 : Nat) (hq0 : kv_Co q0) (c1 : Int32) : ∀ (n : Nat) (v2 : Int32) (h : kv_H) (C : kv_H → Option (Int32 × kv_H)), (∀  (h : kv_H), kv_S kv_i kK_X0_placeOf 28 [none, none, none] [] h (C h)) → kv_S kv_i kK_X0_placeOf 2 [some (.ref q0), some (.int c1), some (.int v2)] [] h (f_X0_placeOf_L2 q0 c1 n v2 h C) := by
  intro n
  induction n with
  | zero => intros; exact kv_none
  | succ n ih =>
    intro v2 h C hC
    unfold f_X0_placeOf_L2
    refine kr_iload2 d_X0_placeOf_2 ?_
    refine kr_aload0 d_X0_placeOf_3 ?_
    refine kr_getI d_X0_placeOf_4 fl_X0_29 hq0.1 rfl ?_
    refine kr_icmp_ge d_X0_placeOf_7 ?_ ?_
    · refine kr_kill0 ?_
      refine kr_kill1 ?_
      refine kr_kill2 ?_
      exact hC h
    · refine kr_aload0 d_X0_placeOf_10 ?_
      refine kr_getR (q := (q0 + 1)) d_X0_placeOf_11 fl_X0_9 hq0.1 rfl ?_
      refine kr_iload2 d_X0_placeOf_14 ?_
      refine kr_iaload d_X0_placeOf_15 hq0.2.1 ?_
      refine kr_iload1 d_X0_placeOf_16 ?_
      refine kr_icmp_ne d_X0_placeOf_17 ?_ ?_
      · refine kr_iinc2 d_X0_placeOf_22 (Nat.le_of_ble_eq_true rfl) kv_c1i ?_
        refine kr_goto d_X0_placeOf_25 ?_
        exact ih (v2 + 1) h C hC
      · refine kr_iload2 d_X0_placeOf_20 ?_
        exact kr_ireturn d_X0_placeOf_21 rfl

set_option maxRecDepth 20000 in
theorem m_X0_placeOf (k0 : Nat) (hk0 : kv_Co k0) (x1 : Int32) (h : kv_H) : kv_M kv_i kK_X0_placeOf [.ref k0, .int x1] h (f_X0_placeOf k0 x1 h) := by
  refine kv_met (ls := [some (.ref k0), some (.int x1), none]) (show plainName RX0 = true by decide +kernel) (fun _ => rfl) (fun _ => Nat.le_of_ble_eq_true rfl) ?_
  unfold f_X0_placeOf
  refine kr_const (v := 0) d_X0_placeOf_0 ?_
  refine kr_istore2 d_X0_placeOf_1 (Nat.le_of_ble_eq_true rfl) kv_c1i ?_
  refine s_f_X0_placeOf_L2 k0 hk0 x1 kv_fu 0 h _ (fun  h1 => ?_)
  refine kr_const (v := (-1000000005)) d_X0_placeOf_28 ?_
  exact kr_ireturn d_X0_placeOf_30 rfl

/-! X0_enter -/
def f_X0_enter (k0 : Nat) (x1 : Int32) (h : kv_H) : Option (Unit × kv_H) :=
  if (8 : Int32) ≤ (h k0 3) then (some ((), h))
  else (kv_k (h k0 3) 8 (kv_hl (kv_up h (k0 + 1) (h k0 3).toNatClampNeg x1) (fun h1 =>
    kv_hl (kv_up h1 k0 3 ((h1 k0 3) + 1)) (fun h2 =>
    kv_hl (kv_up h2 k0 4 ((h2 k0 4) ||| (1 <<< (x1 &&& 31)))) (fun h3 =>
    some ((), h3))))))
set_option maxRecDepth 20000 in
theorem m_X0_enter (k0 : Nat) (hk0 : kv_Co k0) (x1 : Int32) (h : kv_H) : kv_M kv_u kK_X0_enter [.ref k0, .int x1] h (f_X0_enter k0 x1 h) := by
  refine kv_met (ls := [some (.ref k0), some (.int x1)]) (show plainName RX0 = true by decide +kernel) (fun _ => rfl) (fun _ => Nat.le_of_ble_eq_true rfl) ?_
  unfold f_X0_enter
  refine kr_aload0 d_X0_enter_0 ?_
  refine kr_getI d_X0_enter_1 fl_X0_29 hk0.1 rfl ?_
  refine kr_const (v := 8) d_X0_enter_4 ?_
  refine kr_icmp_ge d_X0_enter_6 ?_ ?_
  · exact kr_return d_X0_enter_41 rfl
  · refine kr_aload0 d_X0_enter_9 ?_
    refine kr_getR (q := (k0 + 1)) d_X0_enter_10 fl_X0_9 hk0.1 rfl ?_
    refine kr_aload0 d_X0_enter_13 ?_
    refine kr_getI d_X0_enter_14 fl_X0_29 hk0.1 rfl ?_
    refine kr_iload1 d_X0_enter_17 ?_
    refine kr_iastore d_X0_enter_18 hk0.2.1 ?_
    refine kr_hl (fun h1 => ?_)
    refine kr_aload0 d_X0_enter_19 ?_
    refine kr_dup d_X0_enter_20 rfl ?_
    refine kr_getI d_X0_enter_21 fl_X0_29 hk0.1 rfl ?_
    refine kr_const (v := 1) d_X0_enter_24 ?_
    refine kr_iadd d_X0_enter_25 ?_
    refine kr_putI d_X0_enter_26 fp_X0_29 hk0.1 rfl rfl rfl ?_
    refine kr_hl (fun h2 => ?_)
    refine kr_aload0 d_X0_enter_29 ?_
    refine kr_dup d_X0_enter_30 rfl ?_
    refine kr_getI d_X0_enter_31 fl_X0_32 hk0.1 rfl ?_
    refine kr_const (v := 1) d_X0_enter_34 ?_
    refine kr_iload1 d_X0_enter_35 ?_
    refine kr_ishl d_X0_enter_36 ?_
    refine kr_ior d_X0_enter_37 ?_
    refine kr_putI d_X0_enter_38 fp_X0_32 hk0.1 rfl rfl rfl ?_
    refine kr_hl (fun h3 => ?_)
    exact kr_return d_X0_enter_41 rfl

/-! X0_leave -/
def f_X0_leave_L16 (q0 : Nat) (c1 : Int32) : Nat → Int32 → kv_H → (kv_H → Option (Int32 × kv_H)) → Option (Int32 × kv_H)
  | 0, _, _, _ => none
  | n + 1, v3, h, C => if (h q0 3) ≤ v3 then (C h)
    else (kv_k v3 8 (kv_k (v3 - 1) 8 (kv_hl (kv_up h (q0 + 1) (v3 - 1).toNatClampNeg (h (q0 + 1) v3.toNatClampNeg)) (fun h4 =>
      f_X0_leave_L16 q0 c1 n (v3 + 1) h4 C))))
def f_X0_leave (k0 : Nat) (x1 : Int32) (h : kv_H) : Option (Int32 × kv_H) :=
  kv_b (f_X0_placeOf k0 x1 h) (fun r2 h1 =>
  if 0 ≤ r2 then (kv_vl (r2 + 1) (fun e3 =>
    f_X0_leave_L16 k0 x1 kv_fu e3 h1 (fun  h5 =>
    kv_hl (kv_up h5 k0 3 ((h5 k0 3) - 1)) (fun h6 =>
      kv_hl (kv_up h6 k0 4 ((h6 k0 4) &&& ((1 <<< (x1 &&& 31)) ^^^ (-1)))) (fun h7 =>
      some (1, h7))))))
  else (some (0, h1)))
set_option maxRecDepth 20000 in
theorem s_f_X0_leave_L16 (q0 : Nat) (hq0 : kv_Co q0) (c1 : Int32) : ∀ (n : Nat) (v3 : Int32) (h : kv_H) (C : kv_H → Option (Int32 × kv_H)), (∀  (h : kv_H), kv_S kv_i kK_X0_leave 44 [some (.ref q0), some (.int c1), none, none] [] h (C h)) → kv_S kv_i kK_X0_leave 16 [some (.ref q0), some (.int c1), none, some (.int v3)] [] h (f_X0_leave_L16 q0 c1 n v3 h C) := by
  intro n
  induction n with
  | zero => intros; exact kv_none
  | succ n ih =>
    intro v3 h C hC
    unfold f_X0_leave_L16
    refine kr_iload3 d_X0_leave_16 ?_
    refine kr_aload0 d_X0_leave_17 ?_
    refine kr_getI d_X0_leave_18 fl_X0_29 hq0.1 rfl ?_
    refine kr_icmp_ge d_X0_leave_21 ?_ ?_
    · refine kr_kill3 ?_
      exact hC h
    · refine kr_aload0 d_X0_leave_24 ?_
      refine kr_getR (q := (q0 + 1)) d_X0_leave_25 fl_X0_9 hq0.1 rfl ?_
      refine kr_iload3 d_X0_leave_28 ?_
      refine kr_const (v := 1) d_X0_leave_29 ?_
      refine kr_isub d_X0_leave_30 ?_
      refine kr_aload0 d_X0_leave_31 ?_
      refine kr_getR (q := (q0 + 1)) d_X0_leave_32 fl_X0_9 hq0.1 rfl ?_
      refine kr_iload3 d_X0_leave_35 ?_
      refine kr_iaload d_X0_leave_36 hq0.2.1 ?_
      refine kr_iastore d_X0_leave_37 hq0.2.1 ?_
      refine kr_hl (fun h4 => ?_)
      refine kr_iinc3 d_X0_leave_38 (Nat.le_of_ble_eq_true rfl) kv_c1n ?_
      refine kr_goto d_X0_leave_41 ?_
      exact ih (v3 + 1) h4 C hC

set_option maxRecDepth 20000 in
theorem m_X0_leave (k0 : Nat) (hk0 : kv_Co k0) (x1 : Int32) (h : kv_H) : kv_M kv_i kK_X0_leave [.ref k0, .int x1] h (f_X0_leave k0 x1 h) := by
  refine kv_met (ls := [some (.ref k0), some (.int x1), none, none]) (show plainName RX0 = true by decide +kernel) (fun _ => rfl) (fun _ => Nat.le_of_ble_eq_true rfl) ?_
  unfold f_X0_leave
  refine kr_aload0 d_X0_leave_0 ?_
  refine kr_iload1 d_X0_leave_1 ?_
  refine kr_iv_i (As := [.int x1]) d_X0_leave_2 cl_X0_43 (m_X0_placeOf k0 hk0 x1 h) hk0.1 (Nat.le_of_ble_eq_true rfl) rfl (Nat.le_of_ble_eq_true rfl) (fun r2 h1 => ?_)
  refine kr_istore2 d_X0_leave_5 (Nat.le_of_ble_eq_true rfl) kv_c1i ?_
  refine kr_iload2 d_X0_leave_6 ?_
  refine kr_if_ge d_X0_leave_7 ?_ ?_
  · refine kr_iload2 d_X0_leave_12 ?_
    refine kr_const (v := 1) d_X0_leave_13 ?_
    refine kr_iadd d_X0_leave_14 ?_
    refine kr_vl (fun e3 => ?_)
    refine kr_istore3 d_X0_leave_15 (Nat.le_of_ble_eq_true rfl) kv_c1i ?_
    refine kr_kill2 ?_
    refine s_f_X0_leave_L16 k0 hk0 x1 kv_fu e3 h1 _ (fun  h5 => ?_)
    refine kr_aload0 d_X0_leave_44 ?_
    refine kr_dup d_X0_leave_45 rfl ?_
    refine kr_getI d_X0_leave_46 fl_X0_29 hk0.1 rfl ?_
    refine kr_const (v := 1) d_X0_leave_49 ?_
    refine kr_isub d_X0_leave_50 ?_
    refine kr_putI d_X0_leave_51 fp_X0_29 hk0.1 rfl rfl rfl ?_
    refine kr_hl (fun h6 => ?_)
    refine kr_aload0 d_X0_leave_54 ?_
    refine kr_dup d_X0_leave_55 rfl ?_
    refine kr_getI d_X0_leave_56 fl_X0_32 hk0.1 rfl ?_
    refine kr_const (v := 1) d_X0_leave_59 ?_
    refine kr_iload1 d_X0_leave_60 ?_
    refine kr_ishl d_X0_leave_61 ?_
    refine kr_const (v := (-1)) d_X0_leave_62 ?_
    refine kr_ixor d_X0_leave_63 ?_
    refine kr_iand d_X0_leave_64 ?_
    refine kr_putI d_X0_leave_65 fp_X0_32 hk0.1 rfl rfl rfl ?_
    refine kr_hl (fun h7 => ?_)
    refine kr_const (v := 1) d_X0_leave_68 ?_
    exact kr_zreturnK (by decide) d_X0_leave_69 rfl
  · refine kr_const (v := 0) d_X0_leave_10 ?_
    exact kr_zreturnK (by decide) d_X0_leave_11 rfl

/-! X1_becomes -/
def f_X1_becomes (k0 : Nat) (k1 : Nat) (h : kv_H) : Option (Unit × kv_H) :=
  kv_b (f_X9_copyRow (k1 + 1) 8 (k0 + 1) 8 h) (fun _ h1 =>
  kv_b (f_X9_copyRow (k1 + 2) 8 (k0 + 2) 8 h1) (fun _ h2 =>
  kv_b (f_X9_copyRow (k1 + 3) 8 (k0 + 3) 8 h2) (fun _ h3 =>
  kv_b (f_X9_copyRow (k1 + 4) 8 (k0 + 4) 8 h3) (fun _ h4 =>
  kv_b (f_X9_copyRow (k1 + 5) 8 (k0 + 5) 8 h4) (fun _ h5 =>
  kv_b (f_X9_copyRow (k1 + 6) 8 (k0 + 6) 8 h5) (fun _ h6 =>
  kv_b (f_X9_copyRow (k1 + 7) 8 (k0 + 7) 8 h6) (fun _ h7 =>
  kv_b (f_X9_copyRow (k1 + 8) 8 (k0 + 8) 8 h7) (fun _ h8 =>
  kv_hl (kv_up h8 k0 8 (h8 k1 8)) (fun h9 =>
  some ((), h9))))))))))
set_option maxRecDepth 20000 in
theorem m_X1_becomes (k0 : Nat) (hk0 : kv_Le k0) (k1 : Nat) (hk1 : kv_Le k1) (h : kv_H) : kv_M kv_u kK_X1_becomes [.ref k0, .ref k1] h (f_X1_becomes k0 k1 h) := by
  refine kv_met (ls := [some (.ref k0), some (.ref k1)]) (show plainName RX1 = true by decide +kernel) (fun _ => rfl) (fun _ => Nat.le_of_ble_eq_true rfl) ?_
  unfold f_X1_becomes
  refine kr_aload1 d_X1_becomes_0 ?_
  refine kr_getR (q := (k1 + 1)) d_X1_becomes_1 fl_X1_9 hk1.1 rfl ?_
  refine kr_aload0 d_X1_becomes_4 ?_
  refine kr_getR (q := (k0 + 1)) d_X1_becomes_5 fl_X1_9 hk0.1 rfl ?_
  refine kr_isn_u (As := [.ref (k1 + 1), .ref (k0 + 1)]) d_X1_becomes_8 cl_X1_36 (m_X9_copyRow (k1 + 1) 8 hk1.2.1 (k0 + 1) 8 hk0.2.1 h) (Nat.le_of_ble_eq_true rfl) rfl (Nat.le_of_ble_eq_true rfl) (fun h1 => ?_)
  refine kr_aload1 d_X1_becomes_11 ?_
  refine kr_getR (q := (k1 + 2)) d_X1_becomes_12 fl_X1_15 hk1.1 rfl ?_
  refine kr_aload0 d_X1_becomes_15 ?_
  refine kr_getR (q := (k0 + 2)) d_X1_becomes_16 fl_X1_15 hk0.1 rfl ?_
  refine kr_isn_u (As := [.ref (k1 + 2), .ref (k0 + 2)]) d_X1_becomes_19 cl_X1_36 (m_X9_copyRow (k1 + 2) 8 hk1.2.2.1 (k0 + 2) 8 hk0.2.2.1 h1) (Nat.le_of_ble_eq_true rfl) rfl (Nat.le_of_ble_eq_true rfl) (fun h2 => ?_)
  refine kr_aload1 d_X1_becomes_22 ?_
  refine kr_getR (q := (k1 + 3)) d_X1_becomes_23 fl_X1_18 hk1.1 rfl ?_
  refine kr_aload0 d_X1_becomes_26 ?_
  refine kr_getR (q := (k0 + 3)) d_X1_becomes_27 fl_X1_18 hk0.1 rfl ?_
  refine kr_isn_u (As := [.ref (k1 + 3), .ref (k0 + 3)]) d_X1_becomes_30 cl_X1_36 (m_X9_copyRow (k1 + 3) 8 hk1.2.2.2.1 (k0 + 3) 8 hk0.2.2.2.1 h2) (Nat.le_of_ble_eq_true rfl) rfl (Nat.le_of_ble_eq_true rfl) (fun h3 => ?_)
  refine kr_aload1 d_X1_becomes_33 ?_
  refine kr_getR (q := (k1 + 4)) d_X1_becomes_34 fl_X1_21 hk1.1 rfl ?_
  refine kr_aload0 d_X1_becomes_37 ?_
  refine kr_getR (q := (k0 + 4)) d_X1_becomes_38 fl_X1_21 hk0.1 rfl ?_
  refine kr_isn_u (As := [.ref (k1 + 4), .ref (k0 + 4)]) d_X1_becomes_41 cl_X1_36 (m_X9_copyRow (k1 + 4) 8 hk1.2.2.2.2.1 (k0 + 4) 8 hk0.2.2.2.2.1 h3) (Nat.le_of_ble_eq_true rfl) rfl (Nat.le_of_ble_eq_true rfl) (fun h4 => ?_)
  refine kr_aload1 d_X1_becomes_44 ?_
  refine kr_getR (q := (k1 + 5)) d_X1_becomes_45 fl_X1_24 hk1.1 rfl ?_
  refine kr_aload0 d_X1_becomes_48 ?_
  refine kr_getR (q := (k0 + 5)) d_X1_becomes_49 fl_X1_24 hk0.1 rfl ?_
  refine kr_isn_u (As := [.ref (k1 + 5), .ref (k0 + 5)]) d_X1_becomes_52 cl_X1_36 (m_X9_copyRow (k1 + 5) 8 hk1.2.2.2.2.2.1 (k0 + 5) 8 hk0.2.2.2.2.2.1 h4) (Nat.le_of_ble_eq_true rfl) rfl (Nat.le_of_ble_eq_true rfl) (fun h5 => ?_)
  refine kr_aload1 d_X1_becomes_55 ?_
  refine kr_getR (q := (k1 + 6)) d_X1_becomes_56 fl_X1_27 hk1.1 rfl ?_
  refine kr_aload0 d_X1_becomes_59 ?_
  refine kr_getR (q := (k0 + 6)) d_X1_becomes_60 fl_X1_27 hk0.1 rfl ?_
  refine kr_isn_u (As := [.ref (k1 + 6), .ref (k0 + 6)]) d_X1_becomes_63 cl_X1_36 (m_X9_copyRow (k1 + 6) 8 hk1.2.2.2.2.2.2.1 (k0 + 6) 8 hk0.2.2.2.2.2.2.1 h5) (Nat.le_of_ble_eq_true rfl) rfl (Nat.le_of_ble_eq_true rfl) (fun h6 => ?_)
  refine kr_aload1 d_X1_becomes_66 ?_
  refine kr_getR (q := (k1 + 7)) d_X1_becomes_67 fl_X1_30 hk1.1 rfl ?_
  refine kr_aload0 d_X1_becomes_70 ?_
  refine kr_getR (q := (k0 + 7)) d_X1_becomes_71 fl_X1_30 hk0.1 rfl ?_
  refine kr_isn_u (As := [.ref (k1 + 7), .ref (k0 + 7)]) d_X1_becomes_74 cl_X1_36 (m_X9_copyRow (k1 + 7) 8 hk1.2.2.2.2.2.2.2.1 (k0 + 7) 8 hk0.2.2.2.2.2.2.2.1 h6) (Nat.le_of_ble_eq_true rfl) rfl (Nat.le_of_ble_eq_true rfl) (fun h7 => ?_)
  refine kr_aload1 d_X1_becomes_77 ?_
  refine kr_getR (q := (k1 + 8)) d_X1_becomes_78 fl_X1_33 hk1.1 rfl ?_
  refine kr_aload0 d_X1_becomes_81 ?_
  refine kr_getR (q := (k0 + 8)) d_X1_becomes_82 fl_X1_33 hk0.1 rfl ?_
  refine kr_isn_u (As := [.ref (k1 + 8), .ref (k0 + 8)]) d_X1_becomes_85 cl_X1_36 (m_X9_copyRow (k1 + 8) 8 hk1.2.2.2.2.2.2.2.2 (k0 + 8) 8 hk0.2.2.2.2.2.2.2.2 h7) (Nat.le_of_ble_eq_true rfl) rfl (Nat.le_of_ble_eq_true rfl) (fun h8 => ?_)
  refine kr_aload0 d_X1_becomes_88 ?_
  refine kr_aload1 d_X1_becomes_89 ?_
  refine kr_getI d_X1_becomes_90 fl_X1_40 hk1.1 rfl ?_
  refine kr_putI d_X1_becomes_93 fp_X1_40 hk0.1 rfl rfl rfl ?_
  refine kr_hl (fun h9 => ?_)
  exact kr_return d_X1_becomes_96 rfl

/-! X1_isRead -/
def f_X1_isRead (k0 : Nat) (x1 : Int32) (x2 : Int32) (h : kv_H) : Option (Int32 × kv_H) :=
  kv_k x2 8 (kv_k x2 8 (if (x1 &&& (h (k0 + 8) x2.toNatClampNeg)) = (h (k0 + 8) x2.toNatClampNeg) then (some (1, h))
  else (some (0, h))))
set_option maxRecDepth 20000 in
theorem m_X1_isRead (k0 : Nat) (hk0 : kv_Le k0) (x1 : Int32) (x2 : Int32) (h : kv_H) : kv_M kv_i kK_X1_isRead [.ref k0, .int x1, .int x2] h (f_X1_isRead k0 x1 x2 h) := by
  refine kv_met (ls := [some (.ref k0), some (.int x1), some (.int x2)]) (show plainName RX1 = true by decide +kernel) (fun _ => rfl) (fun _ => Nat.le_of_ble_eq_true rfl) ?_
  unfold f_X1_isRead
  refine kr_iload1 d_X1_isRead_0 ?_
  refine kr_aload0 d_X1_isRead_1 ?_
  refine kr_getR (q := (k0 + 8)) d_X1_isRead_2 fl_X1_33 hk0.1 rfl ?_
  refine kr_iload2 d_X1_isRead_5 ?_
  refine kr_iaload d_X1_isRead_6 hk0.2.2.2.2.2.2.2.2 ?_
  refine kr_iand d_X1_isRead_7 ?_
  refine kr_aload0 d_X1_isRead_8 ?_
  refine kr_getR (q := (k0 + 8)) d_X1_isRead_9 fl_X1_33 hk0.1 rfl ?_
  refine kr_iload2 d_X1_isRead_12 ?_
  refine kr_iaload d_X1_isRead_13 hk0.2.2.2.2.2.2.2.2 ?_
  refine kr_icmp_ne d_X1_isRead_14 ?_ ?_
  · refine kr_const (v := 0) d_X1_isRead_21 ?_
    exact kr_zreturnK (by decide) d_X1_isRead_22 rfl
  · refine kr_const (v := 1) d_X1_isRead_17 ?_
    refine kr_goto d_X1_isRead_18 ?_
    exact kr_zreturnK (by decide) d_X1_isRead_22 rfl

/-! X1_leanersOn -/
def f_X1_leanersOn_L4 (q0 : Nat) (c1 : Int32) : Nat → Int32 → Int32 → kv_H → (Int32 → kv_H → Option (Int32 × kv_H)) → Option (Int32 × kv_H)
  | 0, _, _, _, _ => none
  | n + 1, v2, v3, h, C => if (h q0 8) ≤ v3 then (C v2 h)
    else (kv_k v3 8 (if (h (q0 + 5) v3.toNatClampNeg) = c1 then (f_X1_leanersOn_L4 q0 c1 n (v2 + 1) (v3 + 1) h C)
      else (f_X1_leanersOn_L4 q0 c1 n v2 (v3 + 1) h C)))
def f_X1_leanersOn (k0 : Nat) (x1 : Int32) (h : kv_H) : Option (Int32 × kv_H) :=
  f_X1_leanersOn_L4 k0 x1 kv_fu 0 0 h (fun z1 h2 =>
  some (z1, h2))
set_option maxRecDepth 20000 in
theorem s_f_X1_leanersOn_L4 (q0 : Nat) (hq0 : kv_Le q0) (c1 : Int32) : ∀ (n : Nat) (v2 : Int32) (v3 : Int32) (h : kv_H) (C : Int32 → kv_H → Option (Int32 × kv_H)), (∀ (w2 : Int32) (h : kv_H), kv_S kv_i kK_X1_leanersOn 31 [none, none, some (.int w2), none] [] h (C w2 h)) → kv_S kv_i kK_X1_leanersOn 4 [some (.ref q0), some (.int c1), some (.int v2), some (.int v3)] [] h (f_X1_leanersOn_L4 q0 c1 n v2 v3 h C) := by
  intro n
  induction n with
  | zero => intros; exact kv_none
  | succ n ih =>
    intro v2 v3 h C hC
    unfold f_X1_leanersOn_L4
    refine kr_iload3 d_X1_leanersOn_4 ?_
    refine kr_aload0 d_X1_leanersOn_5 ?_
    refine kr_getI d_X1_leanersOn_6 fl_X1_40 hq0.1 rfl ?_
    refine kr_icmp_ge d_X1_leanersOn_9 ?_ ?_
    · refine kr_kill0 ?_
      refine kr_kill1 ?_
      refine kr_kill3 ?_
      exact hC v2 h
    · refine kr_aload0 d_X1_leanersOn_12 ?_
      refine kr_getR (q := (q0 + 5)) d_X1_leanersOn_13 fl_X1_24 hq0.1 rfl ?_
      refine kr_iload3 d_X1_leanersOn_16 ?_
      refine kr_iaload d_X1_leanersOn_17 hq0.2.2.2.2.2.1 ?_
      refine kr_iload1 d_X1_leanersOn_18 ?_
      refine kr_icmp_ne d_X1_leanersOn_19 ?_ ?_
      · refine kr_iinc3 d_X1_leanersOn_25 (Nat.le_of_ble_eq_true rfl) kv_c1i ?_
        refine kr_goto d_X1_leanersOn_28 ?_
        exact ih v2 (v3 + 1) h C hC
      · refine kr_iinc2 d_X1_leanersOn_22 (Nat.le_of_ble_eq_true rfl) kv_c1i ?_
        refine kr_iinc3 d_X1_leanersOn_25 (Nat.le_of_ble_eq_true rfl) kv_c1i ?_
        refine kr_goto d_X1_leanersOn_28 ?_
        exact ih (v2 + 1) (v3 + 1) h C hC

set_option maxRecDepth 20000 in
theorem m_X1_leanersOn (k0 : Nat) (hk0 : kv_Le k0) (x1 : Int32) (h : kv_H) : kv_M kv_i kK_X1_leanersOn [.ref k0, .int x1] h (f_X1_leanersOn k0 x1 h) := by
  refine kv_met (ls := [some (.ref k0), some (.int x1), none, none]) (show plainName RX1 = true by decide +kernel) (fun _ => rfl) (fun _ => Nat.le_of_ble_eq_true rfl) ?_
  unfold f_X1_leanersOn
  refine kr_const (v := 0) d_X1_leanersOn_0 ?_
  refine kr_istore2 d_X1_leanersOn_1 (Nat.le_of_ble_eq_true rfl) kv_c1i ?_
  refine kr_const (v := 0) d_X1_leanersOn_2 ?_
  refine kr_istore3 d_X1_leanersOn_3 (Nat.le_of_ble_eq_true rfl) kv_c1i ?_
  refine s_f_X1_leanersOn_L4 k0 hk0 x1 kv_fu 0 0 h _ (fun z1 h2 => ?_)
  refine kr_iload2 d_X1_leanersOn_31 ?_
  exact kr_ireturn d_X1_leanersOn_32 rfl

/-! X1_roomsOf -/
def f_X1_roomsOf_L4 (q0 : Nat) (c1 : Int32) : Nat → Int32 → Int32 → kv_H → (Int32 → kv_H → Option (Int32 × kv_H)) → Option (Int32 × kv_H)
  | 0, _, _, _, _ => none
  | n + 1, v2, v3, h, C => if (h q0 8) ≤ v3 then (C v2 h)
    else (if ((c1 >>> (v3 &&& 31)) &&& 1) = (1 : Int32) then (kv_k v3 8 (kv_vl (v2 + (h (q0 + 6) v3.toNatClampNeg)) (fun e1 =>
        f_X1_roomsOf_L4 q0 c1 n e1 (v3 + 1) h C)))
      else (f_X1_roomsOf_L4 q0 c1 n v2 (v3 + 1) h C))
def f_X1_roomsOf (k0 : Nat) (x1 : Int32) (h : kv_H) : Option (Int32 × kv_H) :=
  f_X1_roomsOf_L4 k0 x1 kv_fu 0 0 h (fun z2 h3 =>
  some (z2, h3))
set_option maxRecDepth 20000 in
theorem s_f_X1_roomsOf_L4 (q0 : Nat) (hq0 : kv_Le q0) (c1 : Int32) : ∀ (n : Nat) (v2 : Int32) (v3 : Int32) (h : kv_H) (C : Int32 → kv_H → Option (Int32 × kv_H)), (∀ (w2 : Int32) (h : kv_H), kv_S kv_i kK_X1_roomsOf 36 [none, none, some (.int w2), none] [] h (C w2 h)) → kv_S kv_i kK_X1_roomsOf 4 [some (.ref q0), some (.int c1), some (.int v2), some (.int v3)] [] h (f_X1_roomsOf_L4 q0 c1 n v2 v3 h C) := by
  intro n
  induction n with
  | zero => intros; exact kv_none
  | succ n ih =>
    intro v2 v3 h C hC
    unfold f_X1_roomsOf_L4
    refine kr_iload3 d_X1_roomsOf_4 ?_
    refine kr_aload0 d_X1_roomsOf_5 ?_
    refine kr_getI d_X1_roomsOf_6 fl_X1_40 hq0.1 rfl ?_
    refine kr_icmp_ge d_X1_roomsOf_9 ?_ ?_
    · refine kr_kill0 ?_
      refine kr_kill1 ?_
      refine kr_kill3 ?_
      exact hC v2 h
    · refine kr_iload1 d_X1_roomsOf_12 ?_
      refine kr_iload3 d_X1_roomsOf_13 ?_
      refine kr_ishr d_X1_roomsOf_14 ?_
      refine kr_const (v := 1) d_X1_roomsOf_15 ?_
      refine kr_iand d_X1_roomsOf_16 ?_
      refine kr_const (v := 1) d_X1_roomsOf_17 ?_
      refine kr_icmp_ne d_X1_roomsOf_18 ?_ ?_
      · refine kr_iinc3 d_X1_roomsOf_30 (Nat.le_of_ble_eq_true rfl) kv_c1i ?_
        refine kr_goto d_X1_roomsOf_33 ?_
        exact ih v2 (v3 + 1) h C hC
      · refine kr_iload2 d_X1_roomsOf_21 ?_
        refine kr_aload0 d_X1_roomsOf_22 ?_
        refine kr_getR (q := (q0 + 6)) d_X1_roomsOf_23 fl_X1_27 hq0.1 rfl ?_
        refine kr_iload3 d_X1_roomsOf_26 ?_
        refine kr_iaload d_X1_roomsOf_27 hq0.2.2.2.2.2.2.1 ?_
        refine kr_iadd d_X1_roomsOf_28 ?_
        refine kr_vl (fun e1 => ?_)
        refine kr_istore2 d_X1_roomsOf_29 (Nat.le_of_ble_eq_true rfl) kv_c1i ?_
        refine kr_iinc3 d_X1_roomsOf_30 (Nat.le_of_ble_eq_true rfl) kv_c1i ?_
        refine kr_goto d_X1_roomsOf_33 ?_
        exact ih e1 (v3 + 1) h C hC

set_option maxRecDepth 20000 in
theorem m_X1_roomsOf (k0 : Nat) (hk0 : kv_Le k0) (x1 : Int32) (h : kv_H) : kv_M kv_i kK_X1_roomsOf [.ref k0, .int x1] h (f_X1_roomsOf k0 x1 h) := by
  refine kv_met (ls := [some (.ref k0), some (.int x1), none, none]) (show plainName RX1 = true by decide +kernel) (fun _ => rfl) (fun _ => Nat.le_of_ble_eq_true rfl) ?_
  unfold f_X1_roomsOf
  refine kr_const (v := 0) d_X1_roomsOf_0 ?_
  refine kr_istore2 d_X1_roomsOf_1 (Nat.le_of_ble_eq_true rfl) kv_c1i ?_
  refine kr_const (v := 0) d_X1_roomsOf_2 ?_
  refine kr_istore3 d_X1_roomsOf_3 (Nat.le_of_ble_eq_true rfl) kv_c1i ?_
  refine s_f_X1_roomsOf_L4 k0 hk0 x1 kv_fu 0 0 h _ (fun z2 h3 => ?_)
  refine kr_iload2 d_X1_roomsOf_36 ?_
  exact kr_ireturn d_X1_roomsOf_37 rfl

/-! X1_heldOf -/
def f_X1_heldOf_L4 (q0 : Nat) (c1 : Int32) : Nat → Int32 → Int32 → kv_H → (Int32 → kv_H → Option (Int32 × kv_H)) → Option (Int32 × kv_H)
  | 0, _, _, _, _ => none
  | n + 1, v2, v3, h, C => if (h q0 8) ≤ v3 then (C v2 h)
    else (kv_b (f_X1_isRead q0 c1 v3 h) (fun r2 h1 =>
      if r2 = 0 then (f_X1_heldOf_L4 q0 c1 n v2 (v3 + 1) h1 C)
      else (kv_k v3 8 (kv_k v3 8 (kv_vl (v2 + ((h1 (q0 + 4) v3.toNatClampNeg) * (h1 (q0 + 7) v3.toNatClampNeg))) (fun e3 =>
        f_X1_heldOf_L4 q0 c1 n e3 (v3 + 1) h1 C))))))
def f_X1_heldOf (k0 : Nat) (x1 : Int32) (h : kv_H) : Option (Int32 × kv_H) :=
  f_X1_heldOf_L4 k0 x1 kv_fu 0 0 h (fun z4 h5 =>
  some (z4, h5))
set_option maxRecDepth 20000 in
theorem s_f_X1_heldOf_L4 (q0 : Nat) (hq0 : kv_Le q0) (c1 : Int32) : ∀ (n : Nat) (v2 : Int32) (v3 : Int32) (h : kv_H) (C : Int32 → kv_H → Option (Int32 × kv_H)), (∀ (w2 : Int32) (h : kv_H), kv_S kv_i kK_X1_heldOf 43 [none, none, some (.int w2), none] [] h (C w2 h)) → kv_S kv_i kK_X1_heldOf 4 [some (.ref q0), some (.int c1), some (.int v2), some (.int v3)] [] h (f_X1_heldOf_L4 q0 c1 n v2 v3 h C) := by
  intro n
  induction n with
  | zero => intros; exact kv_none
  | succ n ih =>
    intro v2 v3 h C hC
    unfold f_X1_heldOf_L4
    refine kr_iload3 d_X1_heldOf_4 ?_
    refine kr_aload0 d_X1_heldOf_5 ?_
    refine kr_getI d_X1_heldOf_6 fl_X1_40 hq0.1 rfl ?_
    refine kr_icmp_ge d_X1_heldOf_9 ?_ ?_
    · refine kr_kill0 ?_
      refine kr_kill1 ?_
      refine kr_kill3 ?_
      exact hC v2 h
    · refine kr_aload0 d_X1_heldOf_12 ?_
      refine kr_iload1 d_X1_heldOf_13 ?_
      refine kr_iload3 d_X1_heldOf_14 ?_
      refine kr_iv_i (As := [.int c1, .int v3]) d_X1_heldOf_15 cl_X1_44 (m_X1_isRead q0 hq0 c1 v3 h) hq0.1 (Nat.le_of_ble_eq_true rfl) rfl (Nat.le_of_ble_eq_true rfl) (fun r2 h1 => ?_)
      refine kr_if_eq d_X1_heldOf_18 ?_ ?_
      · refine kr_iinc3 d_X1_heldOf_37 (Nat.le_of_ble_eq_true rfl) kv_c1i ?_
        refine kr_goto d_X1_heldOf_40 ?_
        exact ih v2 (v3 + 1) h1 C hC
      · refine kr_iload2 d_X1_heldOf_21 ?_
        refine kr_aload0 d_X1_heldOf_22 ?_
        refine kr_getR (q := (q0 + 4)) d_X1_heldOf_23 fl_X1_21 hq0.1 rfl ?_
        refine kr_iload3 d_X1_heldOf_26 ?_
        refine kr_iaload d_X1_heldOf_27 hq0.2.2.2.2.1 ?_
        refine kr_aload0 d_X1_heldOf_28 ?_
        refine kr_getR (q := (q0 + 7)) d_X1_heldOf_29 fl_X1_30 hq0.1 rfl ?_
        refine kr_iload3 d_X1_heldOf_32 ?_
        refine kr_iaload d_X1_heldOf_33 hq0.2.2.2.2.2.2.2.1 ?_
        refine kr_imul d_X1_heldOf_34 ?_
        refine kr_iadd d_X1_heldOf_35 ?_
        refine kr_vl (fun e3 => ?_)
        refine kr_istore2 d_X1_heldOf_36 (Nat.le_of_ble_eq_true rfl) kv_c1i ?_
        refine kr_iinc3 d_X1_heldOf_37 (Nat.le_of_ble_eq_true rfl) kv_c1i ?_
        refine kr_goto d_X1_heldOf_40 ?_
        exact ih e3 (v3 + 1) h1 C hC

set_option maxRecDepth 20000 in
theorem m_X1_heldOf (k0 : Nat) (hk0 : kv_Le k0) (x1 : Int32) (h : kv_H) : kv_M kv_i kK_X1_heldOf [.ref k0, .int x1] h (f_X1_heldOf k0 x1 h) := by
  refine kv_met (ls := [some (.ref k0), some (.int x1), none, none]) (show plainName RX1 = true by decide +kernel) (fun _ => rfl) (fun _ => Nat.le_of_ble_eq_true rfl) ?_
  unfold f_X1_heldOf
  refine kr_const (v := 0) d_X1_heldOf_0 ?_
  refine kr_istore2 d_X1_heldOf_1 (Nat.le_of_ble_eq_true rfl) kv_c1i ?_
  refine kr_const (v := 0) d_X1_heldOf_2 ?_
  refine kr_istore3 d_X1_heldOf_3 (Nat.le_of_ble_eq_true rfl) kv_c1i ?_
  refine s_f_X1_heldOf_L4 k0 hk0 x1 kv_fu 0 0 h _ (fun z4 h5 => ?_)
  refine kr_iload2 d_X1_heldOf_43 ?_
  exact kr_ireturn d_X1_heldOf_44 rfl

/-! X1_freeOf -/
def f_X1_freeOf_L4 (q0 : Nat) (c1 : Int32) : Nat → Int32 → Int32 → kv_H → (Int32 → kv_H → Option (Int32 × kv_H)) → Option (Int32 × kv_H)
  | 0, _, _, _, _ => none
  | n + 1, v2, v3, h, C => if (h q0 8) ≤ v3 then (C v2 h)
    else (if ((c1 >>> (v3 &&& 31)) &&& 1) = (1 : Int32) then (kv_k v3 8 (if (h (q0 + 5) v3.toNatClampNeg) < 0 then (f_X1_freeOf_L4 q0 c1 n v2 (v3 + 1) h C)
        else (kv_k v3 8 (kv_vl (v2 ||| (1 <<< ((h (q0 + 5) v3.toNatClampNeg) &&& 31))) (fun e1 =>
          f_X1_freeOf_L4 q0 c1 n e1 (v3 + 1) h C)))))
      else (f_X1_freeOf_L4 q0 c1 n v2 (v3 + 1) h C))
def f_X1_freeOf (k0 : Nat) (x1 : Int32) (h : kv_H) : Option (Int32 × kv_H) :=
  f_X1_freeOf_L4 k0 x1 kv_fu 0 0 h (fun z2 h3 =>
  some ((x1 &&& (z2 ^^^ (-1))), h3))
set_option maxRecDepth 20000 in
theorem s_f_X1_freeOf_L4 (q0 : Nat) (hq0 : kv_Le q0) (c1 : Int32) : ∀ (n : Nat) (v2 : Int32) (v3 : Int32) (h : kv_H) (C : Int32 → kv_H → Option (Int32 × kv_H)), (∀ (w2 : Int32) (h : kv_H), kv_S kv_i kK_X1_freeOf 47 [none, some (.int c1), some (.int w2), none] [] h (C w2 h)) → kv_S kv_i kK_X1_freeOf 4 [some (.ref q0), some (.int c1), some (.int v2), some (.int v3)] [] h (f_X1_freeOf_L4 q0 c1 n v2 v3 h C) := by
  intro n
  induction n with
  | zero => intros; exact kv_none
  | succ n ih =>
    intro v2 v3 h C hC
    unfold f_X1_freeOf_L4
    refine kr_iload3 d_X1_freeOf_4 ?_
    refine kr_aload0 d_X1_freeOf_5 ?_
    refine kr_getI d_X1_freeOf_6 fl_X1_40 hq0.1 rfl ?_
    refine kr_icmp_ge d_X1_freeOf_9 ?_ ?_
    · refine kr_kill0 ?_
      refine kr_kill3 ?_
      exact hC v2 h
    · refine kr_iload1 d_X1_freeOf_12 ?_
      refine kr_iload3 d_X1_freeOf_13 ?_
      refine kr_ishr d_X1_freeOf_14 ?_
      refine kr_const (v := 1) d_X1_freeOf_15 ?_
      refine kr_iand d_X1_freeOf_16 ?_
      refine kr_const (v := 1) d_X1_freeOf_17 ?_
      refine kr_icmp_ne d_X1_freeOf_18 ?_ ?_
      · refine kr_iinc3 d_X1_freeOf_41 (Nat.le_of_ble_eq_true rfl) kv_c1i ?_
        refine kr_goto d_X1_freeOf_44 ?_
        exact ih v2 (v3 + 1) h C hC
      · refine kr_aload0 d_X1_freeOf_21 ?_
        refine kr_getR (q := (q0 + 5)) d_X1_freeOf_22 fl_X1_24 hq0.1 rfl ?_
        refine kr_iload3 d_X1_freeOf_25 ?_
        refine kr_iaload d_X1_freeOf_26 hq0.2.2.2.2.2.1 ?_
        refine kr_if_lt d_X1_freeOf_27 ?_ ?_
        · refine kr_iinc3 d_X1_freeOf_41 (Nat.le_of_ble_eq_true rfl) kv_c1i ?_
          refine kr_goto d_X1_freeOf_44 ?_
          exact ih v2 (v3 + 1) h C hC
        · refine kr_iload2 d_X1_freeOf_30 ?_
          refine kr_const (v := 1) d_X1_freeOf_31 ?_
          refine kr_aload0 d_X1_freeOf_32 ?_
          refine kr_getR (q := (q0 + 5)) d_X1_freeOf_33 fl_X1_24 hq0.1 rfl ?_
          refine kr_iload3 d_X1_freeOf_36 ?_
          refine kr_iaload d_X1_freeOf_37 hq0.2.2.2.2.2.1 ?_
          refine kr_ishl d_X1_freeOf_38 ?_
          refine kr_ior d_X1_freeOf_39 ?_
          refine kr_vl (fun e1 => ?_)
          refine kr_istore2 d_X1_freeOf_40 (Nat.le_of_ble_eq_true rfl) kv_c1i ?_
          refine kr_iinc3 d_X1_freeOf_41 (Nat.le_of_ble_eq_true rfl) kv_c1i ?_
          refine kr_goto d_X1_freeOf_44 ?_
          exact ih e1 (v3 + 1) h C hC

set_option maxRecDepth 20000 in
theorem m_X1_freeOf (k0 : Nat) (hk0 : kv_Le k0) (x1 : Int32) (h : kv_H) : kv_M kv_i kK_X1_freeOf [.ref k0, .int x1] h (f_X1_freeOf k0 x1 h) := by
  refine kv_met (ls := [some (.ref k0), some (.int x1), none, none]) (show plainName RX1 = true by decide +kernel) (fun _ => rfl) (fun _ => Nat.le_of_ble_eq_true rfl) ?_
  unfold f_X1_freeOf
  refine kr_const (v := 0) d_X1_freeOf_0 ?_
  refine kr_istore2 d_X1_freeOf_1 (Nat.le_of_ble_eq_true rfl) kv_c1i ?_
  refine kr_const (v := 0) d_X1_freeOf_2 ?_
  refine kr_istore3 d_X1_freeOf_3 (Nat.le_of_ble_eq_true rfl) kv_c1i ?_
  refine s_f_X1_freeOf_L4 k0 hk0 x1 kv_fu 0 0 h _ (fun z2 h3 => ?_)
  refine kr_iload1 d_X1_freeOf_47 ?_
  refine kr_iload2 d_X1_freeOf_48 ?_
  refine kr_const (v := (-1)) d_X1_freeOf_49 ?_
  refine kr_ixor d_X1_freeOf_50 ?_
  refine kr_iand d_X1_freeOf_51 ?_
  exact kr_ireturn d_X1_freeOf_52 rfl

/-! X2_fillRooms -/
def f_X2_fillRooms_L24 (q1 : Nat) (c2 : Int32) (c3 : Int32) : Nat → Int32 → kv_H → (kv_H → Option (Unit × kv_H)) → Option (Unit × kv_H)
  | 0, _, _, _ => none
  | n + 1, v4, h, C => if (2 * c3) ≤ v4 then (C h)
    else (kv_k (v4 - c3) 256 (kv_k c2 8 (kv_k v4 256 (kv_hl (kv_up h 45 v4.toNatClampNeg ((h 45 (v4 - c3).toNatClampNeg) + (h (q1 + 6) c2.toNatClampNeg))) (fun h3 =>
      f_X2_fillRooms_L24 q1 c2 c3 n (v4 + 1) h3 C)))))
def f_X2_fillRooms_L9 (q1 : Nat) : Nat → Int32 → kv_H → (kv_H → Option (Unit × kv_H)) → Option (Unit × kv_H)
  | 0, _, _, _ => none
  | n + 1, v2, h, C => if (h q1 8) ≤ v2 then (C h)
    else (kv_vl (1 <<< (v2 &&& 31)) (fun e2 =>
      f_X2_fillRooms_L24 q1 v2 e2 kv_fu e2 h (fun  h4 =>
      f_X2_fillRooms_L9 q1 n (v2 + 1) h4 C)))
def f_X2_fillRooms (k1 : Nat) (h : kv_H) : Option (Unit × kv_H) :=
  kv_hl (kv_up h 45 0 0) (fun h1 =>
  f_X2_fillRooms_L9 k1 kv_fu 0 h1 (fun  h5 =>
  some ((), h5)))
set_option maxRecDepth 20000 in
theorem s_f_X2_fillRooms_L24 (q1 : Nat) (hq1 : kv_Le q1) (c2 : Int32) (c3 : Int32) : ∀ (n : Nat) (v4 : Int32) (h : kv_H) (C : kv_H → Option (Unit × kv_H)), (∀  (h : kv_H), kv_S kv_u kK_X2_fillRooms 61 [some (.ref 44), some (.ref q1), some (.int c2), none, none] [] h (C h)) → kv_S kv_u kK_X2_fillRooms 24 [some (.ref 44), some (.ref q1), some (.int c2), some (.int c3), some (.int v4)] [] h (f_X2_fillRooms_L24 q1 c2 c3 n v4 h C) := by
  intro n
  induction n with
  | zero => intros; exact kv_none
  | succ n ih =>
    intro v4 h C hC
    unfold f_X2_fillRooms_L24
    refine kr_iload4 d_X2_fillRooms_24 ?_
    refine kr_const (v := 2) d_X2_fillRooms_26 ?_
    refine kr_iload3 d_X2_fillRooms_27 ?_
    refine kr_imul d_X2_fillRooms_28 ?_
    refine kr_icmp_ge d_X2_fillRooms_29 ?_ ?_
    · refine kr_kill3 ?_
      refine kr_kill4 ?_
      exact hC h
    · refine kr_aload0 d_X2_fillRooms_32 ?_
      refine kr_getR (q := 45) d_X2_fillRooms_33 fl_X2_9 sh_44 rfl ?_
      refine kr_iload4 d_X2_fillRooms_36 ?_
      refine kr_aload0 d_X2_fillRooms_38 ?_
      refine kr_getR (q := 45) d_X2_fillRooms_39 fl_X2_9 sh_44 rfl ?_
      refine kr_iload4 d_X2_fillRooms_42 ?_
      refine kr_iload3 d_X2_fillRooms_44 ?_
      refine kr_isub d_X2_fillRooms_45 ?_
      refine kr_iaload d_X2_fillRooms_46 sh_45 ?_
      refine kr_aload1 d_X2_fillRooms_47 ?_
      refine kr_getR (q := (q1 + 6)) d_X2_fillRooms_48 fl_X2_24 hq1.1 rfl ?_
      refine kr_iload2 d_X2_fillRooms_51 ?_
      refine kr_iaload d_X2_fillRooms_52 hq1.2.2.2.2.2.2.1 ?_
      refine kr_iadd d_X2_fillRooms_53 ?_
      refine kr_iastore d_X2_fillRooms_54 sh_45 ?_
      refine kr_hl (fun h3 => ?_)
      refine kr_iinc4 d_X2_fillRooms_55 (Nat.le_of_ble_eq_true rfl) kv_c1i ?_
      refine kr_goto d_X2_fillRooms_58 ?_
      exact ih (v4 + 1) h3 C hC

set_option maxRecDepth 20000 in
theorem s_f_X2_fillRooms_L9 (q1 : Nat) (hq1 : kv_Le q1) : ∀ (n : Nat) (v2 : Int32) (h : kv_H) (C : kv_H → Option (Unit × kv_H)), (∀  (h : kv_H), kv_S kv_u kK_X2_fillRooms 67 [none, none, none, none, none] [] h (C h)) → kv_S kv_u kK_X2_fillRooms 9 [some (.ref 44), some (.ref q1), some (.int v2), none, none] [] h (f_X2_fillRooms_L9 q1 n v2 h C) := by
  intro n
  induction n with
  | zero => intros; exact kv_none
  | succ n ih =>
    intro v2 h C hC
    unfold f_X2_fillRooms_L9
    refine kr_iload2 d_X2_fillRooms_9 ?_
    refine kr_aload1 d_X2_fillRooms_10 ?_
    refine kr_getI d_X2_fillRooms_11 fl_X2_18 hq1.1 rfl ?_
    refine kr_icmp_ge d_X2_fillRooms_14 ?_ ?_
    · refine kr_kill0 ?_
      refine kr_kill1 ?_
      refine kr_kill2 ?_
      exact hC h
    · refine kr_const (v := 1) d_X2_fillRooms_17 ?_
      refine kr_iload2 d_X2_fillRooms_18 ?_
      refine kr_ishl d_X2_fillRooms_19 ?_
      refine kr_vl (fun e2 => ?_)
      refine kr_istore3 d_X2_fillRooms_20 (Nat.le_of_ble_eq_true rfl) kv_c1i ?_
      refine kr_iload3 d_X2_fillRooms_21 ?_
      refine kr_istore4 d_X2_fillRooms_22 (Nat.le_of_ble_eq_true rfl) kv_c1i ?_
      refine s_f_X2_fillRooms_L24 q1 hq1 v2 e2 kv_fu e2 h _ (fun  h4 => ?_)
      refine kr_iinc2 d_X2_fillRooms_61 (Nat.le_of_ble_eq_true rfl) kv_c1a ?_
      refine kr_goto d_X2_fillRooms_64 ?_
      exact ih (v2 + 1) h4 C hC

set_option maxRecDepth 20000 in
theorem m_X2_fillRooms (k1 : Nat) (hk1 : kv_Le k1) (h : kv_H) : kv_M kv_u kK_X2_fillRooms [.ref 44, .ref k1] h (f_X2_fillRooms k1 h) := by
  refine kv_met (ls := [some (.ref 44), some (.ref k1), none, none, none]) (show plainName RX2 = true by decide +kernel) (fun _ => rfl) (fun _ => Nat.le_of_ble_eq_true rfl) ?_
  unfold f_X2_fillRooms
  refine kr_aload0 d_X2_fillRooms_0 ?_
  refine kr_getR (q := 45) d_X2_fillRooms_1 fl_X2_9 sh_44 rfl ?_
  refine kr_const (v := 0) d_X2_fillRooms_4 ?_
  refine kr_const (v := 0) d_X2_fillRooms_5 ?_
  refine kr_iastoreC (j := 0) ⟨by decide, by decide, by decide⟩ d_X2_fillRooms_6 sh_45 ?_
  refine kr_hl (fun h1 => ?_)
  refine kr_const (v := 0) d_X2_fillRooms_7 ?_
  refine kr_istore2 d_X2_fillRooms_8 (Nat.le_of_ble_eq_true rfl) kv_c1a ?_
  refine s_f_X2_fillRooms_L9 k1 hk1 kv_fu 0 h1 _ (fun  h5 => ?_)
  exact kr_return d_X2_fillRooms_67 rfl

/-! X2_bestWithout -/
def f_X2_bestWithout_L8 (q1 : Nat) (c2 : Int32) : Nat → Int32 → Int32 → Int32 → kv_H → (Int32 → kv_H → Option (Int32 × kv_H)) → Option (Int32 × kv_H)
  | 0, _, _, _, _, _ => none
  | n + 1, v3, v4, v5, h, C => if (1 <<< ((h (q1 + 3) 8) &&& 31)) ≤ v5 then (C v3 h)
    else (if (v5 &&& c2) = 0 then (kv_k v5 256 (if (h q1 7) < (h 45 v5.toNatClampNeg) then (f_X2_bestWithout_L8 q1 c2 n v3 v4 (v5 + 1) h C)
        else (kv_b (f_X1_heldOf (q1 + 3) v5 h) (fun r2 h1 =>
          if r2 ≤ v4 then (f_X2_bestWithout_L8 q1 c2 n v3 v4 (v5 + 1) h1 C)
          else (f_X2_bestWithout_L8 q1 c2 n v5 r2 (v5 + 1) h1 C)))))
      else (f_X2_bestWithout_L8 q1 c2 n v3 v4 (v5 + 1) h C))
def f_X2_bestWithout (k1 : Nat) (x2 : Int32) (h : kv_H) : Option (Int32 × kv_H) :=
  f_X2_bestWithout_L8 k1 x2 kv_fu 0 0 1 h (fun z3 h4 =>
  some (z3, h4))
set_option maxRecDepth 20000 in
theorem s_f_X2_bestWithout_L8 (q1 : Nat) (hq1 : kv_Wo q1) (c2 : Int32) : ∀ (n : Nat) (v3 : Int32) (v4 : Int32) (v5 : Int32) (h : kv_H) (C : Int32 → kv_H → Option (Int32 × kv_H)), (∀ (w3 : Int32) (h : kv_H), kv_S kv_i kK_X2_bestWithout 74 [none, none, none, some (.int w3), none, none, none] [] h (C w3 h)) → kv_S kv_i kK_X2_bestWithout 8 [some (.ref 44), some (.ref q1), some (.int c2), some (.int v3), some (.int v4), some (.int v5), none] [] h (f_X2_bestWithout_L8 q1 c2 n v3 v4 v5 h C) := by
  intro n
  induction n with
  | zero => intros; exact kv_none
  | succ n ih =>
    intro v3 v4 v5 h C hC
    unfold f_X2_bestWithout_L8
    refine kr_iload5 d_X2_bestWithout_8 ?_
    refine kr_const (v := 1) d_X2_bestWithout_10 ?_
    refine kr_aload1 d_X2_bestWithout_11 ?_
    refine kr_getR (q := (q1 + 3)) d_X2_bestWithout_12 fl_X2_27 hq1.1 rfl ?_
    refine kr_getI d_X2_bestWithout_15 fl_X2_18 hq1.2.2.2.1.1 rfl ?_
    refine kr_ishl d_X2_bestWithout_18 ?_
    refine kr_icmp_ge d_X2_bestWithout_19 ?_ ?_
    · refine kr_kill0 ?_
      refine kr_kill1 ?_
      refine kr_kill2 ?_
      refine kr_kill4 ?_
      refine kr_kill5 ?_
      exact hC v3 h
    · refine kr_iload5 d_X2_bestWithout_22 ?_
      refine kr_iload2 d_X2_bestWithout_24 ?_
      refine kr_iand d_X2_bestWithout_25 ?_
      refine kr_if_ne d_X2_bestWithout_26 ?_ ?_
      · refine kr_iinc5 d_X2_bestWithout_68 (Nat.le_of_ble_eq_true rfl) kv_c1i ?_
        refine kr_goto d_X2_bestWithout_71 ?_
        exact ih v3 v4 (v5 + 1) h C hC
      · refine kr_aload0 d_X2_bestWithout_29 ?_
        refine kr_getR (q := 45) d_X2_bestWithout_30 fl_X2_9 sh_44 rfl ?_
        refine kr_iload5 d_X2_bestWithout_33 ?_
        refine kr_iaload d_X2_bestWithout_35 sh_45 ?_
        refine kr_aload1 d_X2_bestWithout_36 ?_
        refine kr_getI d_X2_bestWithout_37 fl_X2_33 hq1.1 rfl ?_
        refine kr_icmp_gt d_X2_bestWithout_40 ?_ ?_
        · refine kr_iinc5 d_X2_bestWithout_68 (Nat.le_of_ble_eq_true rfl) kv_c1i ?_
          refine kr_goto d_X2_bestWithout_71 ?_
          exact ih v3 v4 (v5 + 1) h C hC
        · refine kr_aload1 d_X2_bestWithout_43 ?_
          refine kr_getR (q := (q1 + 3)) d_X2_bestWithout_44 fl_X2_27 hq1.1 rfl ?_
          refine kr_iload5 d_X2_bestWithout_47 ?_
          refine kr_iv_i (As := [.int v5]) d_X2_bestWithout_49 cl_X2_36 (m_X1_heldOf (q1 + 3) hq1.2.2.2.1 v5 h) hq1.2.2.2.1.1 (Nat.le_of_ble_eq_true rfl) rfl (Nat.le_of_ble_eq_true rfl) (fun r2 h1 => ?_)
          refine kr_istore6 d_X2_bestWithout_52 (Nat.le_of_ble_eq_true rfl) kv_c1i ?_
          refine kr_iload6 d_X2_bestWithout_54 ?_
          refine kr_iload4 d_X2_bestWithout_56 ?_
          refine kr_icmp_le d_X2_bestWithout_58 ?_ ?_
          · refine kr_iinc5 d_X2_bestWithout_68 (Nat.le_of_ble_eq_true rfl) kv_c1i ?_
            refine kr_goto d_X2_bestWithout_71 ?_
            refine kr_kill6 ?_
            exact ih v3 v4 (v5 + 1) h1 C hC
          · refine kr_iload6 d_X2_bestWithout_61 ?_
            refine kr_istore4 d_X2_bestWithout_63 (Nat.le_of_ble_eq_true rfl) kv_c1i ?_
            refine kr_iload5 d_X2_bestWithout_65 ?_
            refine kr_istore3 d_X2_bestWithout_67 (Nat.le_of_ble_eq_true rfl) kv_c1i ?_
            refine kr_iinc5 d_X2_bestWithout_68 (Nat.le_of_ble_eq_true rfl) kv_c1i ?_
            refine kr_goto d_X2_bestWithout_71 ?_
            refine kr_kill6 ?_
            exact ih v5 r2 (v5 + 1) h1 C hC

set_option maxRecDepth 20000 in
theorem m_X2_bestWithout (k1 : Nat) (hk1 : kv_Wo k1) (x2 : Int32) (h : kv_H) : kv_M kv_i kK_X2_bestWithout [.ref 44, .ref k1, .int x2] h (f_X2_bestWithout k1 x2 h) := by
  refine kv_met (ls := [some (.ref 44), some (.ref k1), some (.int x2), none, none, none, none]) (show plainName RX2 = true by decide +kernel) (fun _ => rfl) (fun _ => Nat.le_of_ble_eq_true rfl) ?_
  unfold f_X2_bestWithout
  refine kr_const (v := 0) d_X2_bestWithout_0 ?_
  refine kr_istore3 d_X2_bestWithout_1 (Nat.le_of_ble_eq_true rfl) kv_c1i ?_
  refine kr_const (v := 0) d_X2_bestWithout_2 ?_
  refine kr_istore4 d_X2_bestWithout_3 (Nat.le_of_ble_eq_true rfl) kv_c1i ?_
  refine kr_const (v := 1) d_X2_bestWithout_5 ?_
  refine kr_istore5 d_X2_bestWithout_6 (Nat.le_of_ble_eq_true rfl) kv_c1i ?_
  refine s_f_X2_bestWithout_L8 k1 hk1 x2 kv_fu 0 0 1 h _ (fun z3 h4 => ?_)
  refine kr_iload3 d_X2_bestWithout_74 ?_
  exact kr_ireturn d_X2_bestWithout_75 rfl

/-! X2_chooseWithin -/
def f_X2_chooseWithin_L2 (q1 : Nat) (c2 : Int32) : Nat → Int32 → kv_H → (kv_H → Option (Unit × kv_H)) → Option (Unit × kv_H)
  | 0, _, _, _ => none
  | n + 1, v3, h, C => if c2 ≤ v3 then (C h)
    else (kv_k v3 256 (if (h 45 v3.toNatClampNeg) ≤ (h q1 7) then (f_X2_chooseWithin_L2 q1 c2 n (v3 + 1) h C)
      else (kv_k v3 256 (kv_hl (kv_up h 46 v3.toNatClampNeg 536870912) (fun h1 =>
        f_X2_chooseWithin_L2 q1 c2 n (v3 + 1) h1 C)))))
def f_X2_chooseWithin_L56 (q1 : Nat) (c2 : Int32) (c3 : Int32) (c4 : Int32) : Nat → Int32 → kv_H → (kv_H → Option (Unit × kv_H)) → Option (Unit × kv_H)
  | 0, _, _, _ => none
  | n + 1, v5, h, C => if c2 ≤ v5 then (C h)
    else (if (v5 &&& c4) = 0 then (f_X2_chooseWithin_L56 q1 c2 c3 c4 n (v5 + 1) h C)
      else (kv_k v5 256 (kv_k (v5 - c4) 256 (kv_k v5 256 (kv_hl (kv_up h 46 v5.toNatClampNeg (if (h 46 (v5 - c4).toNatClampNeg) < (h 46 v5.toNatClampNeg) then (h 46 (v5 - c4).toNatClampNeg) else (h 46 v5.toNatClampNeg))) (fun h4 =>
        f_X2_chooseWithin_L56 q1 c2 c3 c4 n (v5 + 1) h4 C))))))
def f_X2_chooseWithin_L36 (q1 : Nat) (c2 : Int32) : Nat → Int32 → kv_H → (kv_H → Option (Unit × kv_H)) → Option (Unit × kv_H)
  | 0, _, _, _ => none
  | n + 1, v3, h, C => if (h (q1 + 3) 8) ≤ v3 then (C h)
    else (kv_vl (1 <<< (v3 &&& 31)) (fun e3 =>
      f_X2_chooseWithin_L56 q1 c2 v3 e3 kv_fu e3 h (fun  h5 =>
      f_X2_chooseWithin_L36 q1 c2 n (v3 + 1) h5 C)))
def f_X2_chooseWithin (k1 : Nat) (x2 : Int32) (h : kv_H) : Option (Unit × kv_H) :=
  f_X2_chooseWithin_L2 k1 x2 kv_fu 0 h (fun  h2 =>
  f_X2_chooseWithin_L36 k1 x2 kv_fu 0 h2 (fun  h6 =>
    some ((), h6)))
set_option maxRecDepth 20000 in
theorem s_f_X2_chooseWithin_L2 (q1 : Nat) (hq1 : kv_Wo q1) (c2 : Int32) : ∀ (n : Nat) (v3 : Int32) (h : kv_H) (C : kv_H → Option (Unit × kv_H)), (∀  (h : kv_H), kv_S kv_u kK_X2_chooseWithin 34 [some (.ref 44), some (.ref q1), some (.int c2), none, none, none] [] h (C h)) → kv_S kv_u kK_X2_chooseWithin 2 [some (.ref 44), some (.ref q1), some (.int c2), some (.int v3), none, none] [] h (f_X2_chooseWithin_L2 q1 c2 n v3 h C) := by
  intro n
  induction n with
  | zero => intros; exact kv_none
  | succ n ih =>
    intro v3 h C hC
    unfold f_X2_chooseWithin_L2
    refine kr_iload3 d_X2_chooseWithin_2 ?_
    refine kr_iload2 d_X2_chooseWithin_3 ?_
    refine kr_icmp_ge d_X2_chooseWithin_4 ?_ ?_
    · refine kr_kill3 ?_
      exact hC h
    · refine kr_aload0 d_X2_chooseWithin_7 ?_
      refine kr_getR (q := 45) d_X2_chooseWithin_8 fl_X2_9 sh_44 rfl ?_
      refine kr_iload3 d_X2_chooseWithin_11 ?_
      refine kr_iaload d_X2_chooseWithin_12 sh_45 ?_
      refine kr_aload1 d_X2_chooseWithin_13 ?_
      refine kr_getI d_X2_chooseWithin_14 fl_X2_33 hq1.1 rfl ?_
      refine kr_icmp_le d_X2_chooseWithin_17 ?_ ?_
      · refine kr_iinc3 d_X2_chooseWithin_28 (Nat.le_of_ble_eq_true rfl) kv_c1i ?_
        refine kr_goto d_X2_chooseWithin_31 ?_
        exact ih (v3 + 1) h C hC
      · refine kr_aload0 d_X2_chooseWithin_20 ?_
        refine kr_getR (q := 46) d_X2_chooseWithin_21 fl_X2_15 sh_44 rfl ?_
        refine kr_iload3 d_X2_chooseWithin_24 ?_
        refine kr_const (v := 536870912) d_X2_chooseWithin_25 ?_
        refine kr_iastore d_X2_chooseWithin_27 sh_46 ?_
        refine kr_hl (fun h1 => ?_)
        refine kr_iinc3 d_X2_chooseWithin_28 (Nat.le_of_ble_eq_true rfl) kv_c1i ?_
        refine kr_goto d_X2_chooseWithin_31 ?_
        exact ih (v3 + 1) h1 C hC

set_option maxRecDepth 20000 in
theorem s_f_X2_chooseWithin_L56 (q1 : Nat) (hq1 : kv_Wo q1) (c2 : Int32) (c3 : Int32) (c4 : Int32) : ∀ (n : Nat) (v5 : Int32) (h : kv_H) (C : kv_H → Option (Unit × kv_H)), (∀  (h : kv_H), kv_S kv_u kK_X2_chooseWithin 103 [some (.ref 44), some (.ref q1), some (.int c2), some (.int c3), none, none] [] h (C h)) → kv_S kv_u kK_X2_chooseWithin 56 [some (.ref 44), some (.ref q1), some (.int c2), some (.int c3), some (.int c4), some (.int v5)] [] h (f_X2_chooseWithin_L56 q1 c2 c3 c4 n v5 h C) := by
  intro n
  induction n with
  | zero => intros; exact kv_none
  | succ n ih =>
    intro v5 h C hC
    unfold f_X2_chooseWithin_L56
    refine kr_iload5 d_X2_chooseWithin_56 ?_
    refine kr_iload2 d_X2_chooseWithin_58 ?_
    refine kr_icmp_ge d_X2_chooseWithin_59 ?_ ?_
    · refine kr_kill4 ?_
      refine kr_kill5 ?_
      exact hC h
    · refine kr_iload5 d_X2_chooseWithin_62 ?_
      refine kr_iload4 d_X2_chooseWithin_64 ?_
      refine kr_iand d_X2_chooseWithin_66 ?_
      refine kr_if_eq d_X2_chooseWithin_67 ?_ ?_
      · refine kr_iinc5 d_X2_chooseWithin_97 (Nat.le_of_ble_eq_true rfl) kv_c1i ?_
        refine kr_goto d_X2_chooseWithin_100 ?_
        exact ih (v5 + 1) h C hC
      · refine kr_aload0 d_X2_chooseWithin_70 ?_
        refine kr_getR (q := 46) d_X2_chooseWithin_71 fl_X2_15 sh_44 rfl ?_
        refine kr_iload5 d_X2_chooseWithin_74 ?_
        refine kr_aload0 d_X2_chooseWithin_76 ?_
        refine kr_getR (q := 46) d_X2_chooseWithin_77 fl_X2_15 sh_44 rfl ?_
        refine kr_iload5 d_X2_chooseWithin_80 ?_
        refine kr_iaload d_X2_chooseWithin_82 sh_46 ?_
        refine kr_aload0 d_X2_chooseWithin_83 ?_
        refine kr_getR (q := 46) d_X2_chooseWithin_84 fl_X2_15 sh_44 rfl ?_
        refine kr_iload5 d_X2_chooseWithin_87 ?_
        refine kr_iload4 d_X2_chooseWithin_89 ?_
        refine kr_isub d_X2_chooseWithin_91 ?_
        refine kr_iaload d_X2_chooseWithin_92 sh_46 ?_
        refine kr_mmin d_X2_chooseWithin_93 wm_X2_60 (Nat.le_of_ble_eq_true rfl) (Nat.le_of_ble_eq_true rfl) ?_
        refine kr_iastore d_X2_chooseWithin_96 sh_46 ?_
        refine kr_hl (fun h4 => ?_)
        refine kr_iinc5 d_X2_chooseWithin_97 (Nat.le_of_ble_eq_true rfl) kv_c1i ?_
        refine kr_goto d_X2_chooseWithin_100 ?_
        exact ih (v5 + 1) h4 C hC

set_option maxRecDepth 20000 in
theorem s_f_X2_chooseWithin_L36 (q1 : Nat) (hq1 : kv_Wo q1) (c2 : Int32) : ∀ (n : Nat) (v3 : Int32) (h : kv_H) (C : kv_H → Option (Unit × kv_H)), (∀  (h : kv_H), kv_S kv_u kK_X2_chooseWithin 109 [none, none, none, none, none, none] [] h (C h)) → kv_S kv_u kK_X2_chooseWithin 36 [some (.ref 44), some (.ref q1), some (.int c2), some (.int v3), none, none] [] h (f_X2_chooseWithin_L36 q1 c2 n v3 h C) := by
  intro n
  induction n with
  | zero => intros; exact kv_none
  | succ n ih =>
    intro v3 h C hC
    unfold f_X2_chooseWithin_L36
    refine kr_iload3 d_X2_chooseWithin_36 ?_
    refine kr_aload1 d_X2_chooseWithin_37 ?_
    refine kr_getR (q := (q1 + 3)) d_X2_chooseWithin_38 fl_X2_27 hq1.1 rfl ?_
    refine kr_getI d_X2_chooseWithin_41 fl_X2_18 hq1.2.2.2.1.1 rfl ?_
    refine kr_icmp_ge d_X2_chooseWithin_44 ?_ ?_
    · refine kr_kill0 ?_
      refine kr_kill1 ?_
      refine kr_kill2 ?_
      refine kr_kill3 ?_
      exact hC h
    · refine kr_const (v := 1) d_X2_chooseWithin_47 ?_
      refine kr_iload3 d_X2_chooseWithin_48 ?_
      refine kr_ishl d_X2_chooseWithin_49 ?_
      refine kr_vl (fun e3 => ?_)
      refine kr_istore4 d_X2_chooseWithin_50 (Nat.le_of_ble_eq_true rfl) kv_c1i ?_
      refine kr_iload4 d_X2_chooseWithin_52 ?_
      refine kr_istore5 d_X2_chooseWithin_54 (Nat.le_of_ble_eq_true rfl) kv_c1i ?_
      refine s_f_X2_chooseWithin_L56 q1 hq1 c2 v3 e3 kv_fu e3 h _ (fun  h5 => ?_)
      refine kr_iinc3 d_X2_chooseWithin_103 (Nat.le_of_ble_eq_true rfl) kv_c1i ?_
      refine kr_goto d_X2_chooseWithin_106 ?_
      exact ih (v3 + 1) h5 C hC

set_option maxRecDepth 20000 in
theorem m_X2_chooseWithin (k1 : Nat) (hk1 : kv_Wo k1) (x2 : Int32) (h : kv_H) : kv_M kv_u kK_X2_chooseWithin [.ref 44, .ref k1, .int x2] h (f_X2_chooseWithin k1 x2 h) := by
  refine kv_met (ls := [some (.ref 44), some (.ref k1), some (.int x2), none, none, none]) (show plainName RX2 = true by decide +kernel) (fun _ => rfl) (fun _ => Nat.le_of_ble_eq_true rfl) ?_
  unfold f_X2_chooseWithin
  refine kr_const (v := 0) d_X2_chooseWithin_0 ?_
  refine kr_istore3 d_X2_chooseWithin_1 (Nat.le_of_ble_eq_true rfl) kv_c1i ?_
  refine s_f_X2_chooseWithin_L2 k1 hk1 x2 kv_fu 0 h _ (fun  h2 => ?_)
  refine kr_const (v := 0) d_X2_chooseWithin_34 ?_
  refine kr_istore3 d_X2_chooseWithin_35 (Nat.le_of_ble_eq_true rfl) kv_c1i ?_
  refine s_f_X2_chooseWithin_L36 k1 hk1 x2 kv_fu 0 h2 _ (fun  h6 => ?_)
  exact kr_return d_X2_chooseWithin_109 rfl

/-! X2_missBefore -/
def f_X2_missBefore_L24 (c3 : Int32) (c4 : Int32) (c5 : Int32) (c6 : Int32) : Nat → Int32 → kv_H → (kv_H → Option (Unit × kv_H)) → Option (Unit × kv_H)
  | 0, _, _, _ => none
  | n + 1, v7, h, C => if c3 ≤ v7 then (C h)
    else (kv_k (v7 ||| c4) 256 (if (v7 &&& c5) = c5 then (kv_k v7 256 (kv_hl (kv_up h 46 v7.toNatClampNeg ((h 46 (v7 ||| c4).toNatClampNeg) + 0)) (fun h5 =>
        f_X2_missBefore_L24 c3 c4 c5 c6 n (v7 + 1) h5 C)))
      else (kv_k v7 256 (kv_hl (kv_up h 46 v7.toNatClampNeg ((h 46 (v7 ||| c4).toNatClampNeg) + c6)) (fun h4 =>
        f_X2_missBefore_L24 c3 c4 c5 c6 n (v7 + 1) h4 C)))))
def f_X2_missBefore (k1 : Nat) (x2 : Int32) (x3 : Int32) (h : kv_H) : Option (Unit × kv_H) :=
  kv_vl (1 <<< (x2 &&& 31)) (fun e1 =>
  kv_k x2 8 (kv_vl (h (k1 + 8) x2.toNatClampNeg) (fun e2 =>
  kv_k x2 8 (kv_vl (h (k1 + 7) x2.toNatClampNeg) (fun e3 =>
  f_X2_missBefore_L24 x3 e1 e2 e3 kv_fu 0 h (fun  h6 =>
  some ((), h6)))))))
set_option maxRecDepth 20000 in
theorem s_f_X2_missBefore_L24 (c3 : Int32) (c4 : Int32) (c5 : Int32) (c6 : Int32) : ∀ (n : Nat) (v7 : Int32) (h : kv_H) (C : kv_H → Option (Unit × kv_H)), (∀  (h : kv_H), kv_S kv_u kK_X2_missBefore 70 [none, none, none, none, none, none, none, none] [] h (C h)) → kv_S kv_u kK_X2_missBefore 24 [some (.ref 44), none, none, some (.int c3), some (.int c4), some (.int c5), some (.int c6), some (.int v7)] [] h (f_X2_missBefore_L24 c3 c4 c5 c6 n v7 h C) := by
  intro n
  induction n with
  | zero => intros; exact kv_none
  | succ n ih =>
    intro v7 h C hC
    unfold f_X2_missBefore_L24
    refine kr_iload7 d_X2_missBefore_24 ?_
    refine kr_iload3 d_X2_missBefore_26 ?_
    refine kr_icmp_ge d_X2_missBefore_27 ?_ ?_
    · refine kr_kill0 ?_
      refine kr_kill3 ?_
      refine kr_kill4 ?_
      refine kr_kill5 ?_
      refine kr_kill6 ?_
      refine kr_kill7 ?_
      exact hC h
    · refine kr_aload0 d_X2_missBefore_30 ?_
      refine kr_getR (q := 46) d_X2_missBefore_31 fl_X2_15 sh_44 rfl ?_
      refine kr_iload7 d_X2_missBefore_34 ?_
      refine kr_aload0 d_X2_missBefore_36 ?_
      refine kr_getR (q := 46) d_X2_missBefore_37 fl_X2_15 sh_44 rfl ?_
      refine kr_iload7 d_X2_missBefore_40 ?_
      refine kr_iload4 d_X2_missBefore_42 ?_
      refine kr_ior d_X2_missBefore_44 ?_
      refine kr_iaload d_X2_missBefore_45 sh_46 ?_
      refine kr_iload7 d_X2_missBefore_46 ?_
      refine kr_iload5 d_X2_missBefore_48 ?_
      refine kr_iand d_X2_missBefore_50 ?_
      refine kr_iload5 d_X2_missBefore_51 ?_
      refine kr_icmp_ne d_X2_missBefore_53 ?_ ?_
      · refine kr_iload6 d_X2_missBefore_60 ?_
        refine kr_iadd d_X2_missBefore_62 ?_
        refine kr_iastore d_X2_missBefore_63 sh_46 ?_
        refine kr_hl (fun h4 => ?_)
        refine kr_iinc7 d_X2_missBefore_64 (Nat.le_of_ble_eq_true rfl) kv_c1i ?_
        refine kr_goto d_X2_missBefore_67 ?_
        exact ih (v7 + 1) h4 C hC
      · refine kr_const (v := 0) d_X2_missBefore_56 ?_
        refine kr_goto d_X2_missBefore_57 ?_
        refine kr_iadd d_X2_missBefore_62 ?_
        refine kr_iastore d_X2_missBefore_63 sh_46 ?_
        refine kr_hl (fun h5 => ?_)
        refine kr_iinc7 d_X2_missBefore_64 (Nat.le_of_ble_eq_true rfl) kv_c1i ?_
        refine kr_goto d_X2_missBefore_67 ?_
        exact ih (v7 + 1) h5 C hC

set_option maxRecDepth 20000 in
theorem m_X2_missBefore (k1 : Nat) (hk1 : kv_Le k1) (x2 : Int32) (x3 : Int32) (h : kv_H) : kv_M kv_u kK_X2_missBefore [.ref 44, .ref k1, .int x2, .int x3] h (f_X2_missBefore k1 x2 x3 h) := by
  refine kv_met (ls := [some (.ref 44), some (.ref k1), some (.int x2), some (.int x3), none, none, none, none]) (show plainName RX2 = true by decide +kernel) (fun _ => rfl) (fun _ => Nat.le_of_ble_eq_true rfl) ?_
  unfold f_X2_missBefore
  refine kr_const (v := 1) d_X2_missBefore_0 ?_
  refine kr_iload2 d_X2_missBefore_1 ?_
  refine kr_ishl d_X2_missBefore_2 ?_
  refine kr_vl (fun e1 => ?_)
  refine kr_istore4 d_X2_missBefore_3 (Nat.le_of_ble_eq_true rfl) kv_c1i ?_
  refine kr_aload1 d_X2_missBefore_5 ?_
  refine kr_getR (q := (k1 + 8)) d_X2_missBefore_6 fl_X2_66 hk1.1 rfl ?_
  refine kr_iload2 d_X2_missBefore_9 ?_
  refine kr_iaload d_X2_missBefore_10 hk1.2.2.2.2.2.2.2.2 ?_
  refine kr_vl (fun e2 => ?_)
  refine kr_istore5 d_X2_missBefore_11 (Nat.le_of_ble_eq_true rfl) kv_c1i ?_
  refine kr_aload1 d_X2_missBefore_13 ?_
  refine kr_getR (q := (k1 + 7)) d_X2_missBefore_14 fl_X2_69 hk1.1 rfl ?_
  refine kr_iload2 d_X2_missBefore_17 ?_
  refine kr_iaload d_X2_missBefore_18 hk1.2.2.2.2.2.2.2.1 ?_
  refine kr_vl (fun e3 => ?_)
  refine kr_istore6 d_X2_missBefore_19 (Nat.le_of_ble_eq_true rfl) kv_c1i ?_
  refine kr_const (v := 0) d_X2_missBefore_21 ?_
  refine kr_istore7 d_X2_missBefore_22 (Nat.le_of_ble_eq_true rfl) kv_c1i ?_
  refine kr_kill1 ?_
  refine kr_kill2 ?_
  refine s_f_X2_missBefore_L24 x3 e1 e2 e3 kv_fu 0 h _ (fun  h6 => ?_)
  exact kr_return d_X2_missBefore_70 rfl

/-! X2_chooseFirst -/
def f_X2_chooseFirst_L24 (q1 : Nat) (c2 : Int32) (c3 : Int32) (c4 : Int32) (c5 : Int32) : Nat → Int32 → Int32 → kv_H → (Int32 → kv_H → Option (Unit × kv_H)) → Option (Unit × kv_H)
  | 0, _, _, _, _ => none
  | n + 1, v6, v7, h, C => if c3 ≤ v7 then (C v6 h)
    else (if (v7 &&& (c5 ^^^ (-1))) = 0 then (kv_k v7 256 (if (h q1 7) < (h 45 v7.toNatClampNeg) then (f_X2_chooseFirst_L24 q1 c2 c3 c4 c5 n v6 (v7 + 1) h C)
        else (kv_k v7 256 (if v6 ≤ (h 46 v7.toNatClampNeg) then (f_X2_chooseFirst_L24 q1 c2 c3 c4 c5 n v6 (v7 + 1) h C)
          else (kv_k v7 256 (kv_vl (h 46 v7.toNatClampNeg) (fun e3 =>
            kv_hl (kv_up h 44 3 v7) (fun h4 =>
            f_X2_chooseFirst_L24 q1 c2 c3 c4 c5 n e3 (v7 + 1) h4 C))))))))
      else (f_X2_chooseFirst_L24 q1 c2 c3 c4 c5 n v6 (v7 + 1) h C))
def f_X2_chooseFirst (k1 : Nat) (x2 : Int32) (x3 : Int32) (h : kv_H) : Option (Unit × kv_H) :=
  kv_vl (h (k1 + 12) 4) (fun e1 =>
  kv_vl (e1 ||| (1 <<< (x2 &&& 31))) (fun e2 =>
  f_X2_chooseFirst_L24 k1 x2 x3 e1 e2 kv_fu 536870912 0 h (fun z5 h6 =>
  kv_b (f_X1_isRead (k1 + 3) e1 x2 h6) (fun r8 h7 =>
    if r8 = 0 then (kv_k x2 8 (kv_hl (kv_up h7 44 2 (z5 + (h7 ((k1 + 3) + 7) x2.toNatClampNeg))) (fun h9 =>
      some ((), h9))))
    else (kv_hl (kv_up h7 44 2 (z5 + 0)) (fun h10 =>
      some ((), h10)))))))
set_option maxRecDepth 20000 in
theorem s_f_X2_chooseFirst_L24 (q1 : Nat) (hq1 : kv_Wo q1) (c2 : Int32) (c3 : Int32) (c4 : Int32) (c5 : Int32) : ∀ (n : Nat) (v6 : Int32) (v7 : Int32) (h : kv_H) (C : Int32 → kv_H → Option (Unit × kv_H)), (∀ (w6 : Int32) (h : kv_H), kv_S kv_u kK_X2_chooseFirst 87 [some (.ref 44), some (.ref q1), some (.int c2), none, some (.int c4), none, some (.int w6), none] [] h (C w6 h)) → kv_S kv_u kK_X2_chooseFirst 24 [some (.ref 44), some (.ref q1), some (.int c2), some (.int c3), some (.int c4), some (.int c5), some (.int v6), some (.int v7)] [] h (f_X2_chooseFirst_L24 q1 c2 c3 c4 c5 n v6 v7 h C) := by
  intro n
  induction n with
  | zero => intros; exact kv_none
  | succ n ih =>
    intro v6 v7 h C hC
    unfold f_X2_chooseFirst_L24
    refine kr_iload7 d_X2_chooseFirst_24 ?_
    refine kr_iload3 d_X2_chooseFirst_26 ?_
    refine kr_icmp_ge d_X2_chooseFirst_27 ?_ ?_
    · refine kr_kill3 ?_
      refine kr_kill5 ?_
      refine kr_kill7 ?_
      exact hC v6 h
    · refine kr_iload7 d_X2_chooseFirst_30 ?_
      refine kr_iload5 d_X2_chooseFirst_32 ?_
      refine kr_const (v := (-1)) d_X2_chooseFirst_34 ?_
      refine kr_ixor d_X2_chooseFirst_35 ?_
      refine kr_iand d_X2_chooseFirst_36 ?_
      refine kr_if_ne d_X2_chooseFirst_37 ?_ ?_
      · refine kr_iinc7 d_X2_chooseFirst_81 (Nat.le_of_ble_eq_true rfl) kv_c1i ?_
        refine kr_goto d_X2_chooseFirst_84 ?_
        exact ih v6 (v7 + 1) h C hC
      · refine kr_aload0 d_X2_chooseFirst_40 ?_
        refine kr_getR (q := 45) d_X2_chooseFirst_41 fl_X2_9 sh_44 rfl ?_
        refine kr_iload7 d_X2_chooseFirst_44 ?_
        refine kr_iaload d_X2_chooseFirst_46 sh_45 ?_
        refine kr_aload1 d_X2_chooseFirst_47 ?_
        refine kr_getI d_X2_chooseFirst_48 fl_X2_33 hq1.1 rfl ?_
        refine kr_icmp_gt d_X2_chooseFirst_51 ?_ ?_
        · refine kr_iinc7 d_X2_chooseFirst_81 (Nat.le_of_ble_eq_true rfl) kv_c1i ?_
          refine kr_goto d_X2_chooseFirst_84 ?_
          exact ih v6 (v7 + 1) h C hC
        · refine kr_aload0 d_X2_chooseFirst_54 ?_
          refine kr_getR (q := 46) d_X2_chooseFirst_55 fl_X2_15 sh_44 rfl ?_
          refine kr_iload7 d_X2_chooseFirst_58 ?_
          refine kr_iaload d_X2_chooseFirst_60 sh_46 ?_
          refine kr_iload6 d_X2_chooseFirst_61 ?_
          refine kr_icmp_ge d_X2_chooseFirst_63 ?_ ?_
          · refine kr_iinc7 d_X2_chooseFirst_81 (Nat.le_of_ble_eq_true rfl) kv_c1i ?_
            refine kr_goto d_X2_chooseFirst_84 ?_
            exact ih v6 (v7 + 1) h C hC
          · refine kr_aload0 d_X2_chooseFirst_66 ?_
            refine kr_getR (q := 46) d_X2_chooseFirst_67 fl_X2_15 sh_44 rfl ?_
            refine kr_iload7 d_X2_chooseFirst_70 ?_
            refine kr_iaload d_X2_chooseFirst_72 sh_46 ?_
            refine kr_vl (fun e3 => ?_)
            refine kr_istore6 d_X2_chooseFirst_73 (Nat.le_of_ble_eq_true rfl) kv_c1i ?_
            refine kr_aload0 d_X2_chooseFirst_75 ?_
            refine kr_iload7 d_X2_chooseFirst_76 ?_
            refine kr_putI d_X2_chooseFirst_78 fp_X2_44 sh_44 rfl rfl rfl ?_
            refine kr_hl (fun h4 => ?_)
            refine kr_iinc7 d_X2_chooseFirst_81 (Nat.le_of_ble_eq_true rfl) kv_c1i ?_
            refine kr_goto d_X2_chooseFirst_84 ?_
            exact ih e3 (v7 + 1) h4 C hC

set_option maxRecDepth 20000 in
theorem m_X2_chooseFirst (k1 : Nat) (hk1 : kv_Wo k1) (x2 : Int32) (x3 : Int32) (h : kv_H) : kv_M kv_u kK_X2_chooseFirst [.ref 44, .ref k1, .int x2, .int x3] h (f_X2_chooseFirst k1 x2 x3 h) := by
  refine kv_met (ls := [some (.ref 44), some (.ref k1), some (.int x2), some (.int x3), none, none, none, none]) (show plainName RX2 = true by decide +kernel) (fun _ => rfl) (fun _ => Nat.le_of_ble_eq_true rfl) ?_
  unfold f_X2_chooseFirst
  refine kr_aload1 d_X2_chooseFirst_0 ?_
  refine kr_getR (q := (k1 + 12)) d_X2_chooseFirst_1 fl_X2_72 hk1.1 rfl ?_
  refine kr_getI d_X2_chooseFirst_4 fl_X2_76 hk1.2.2.2.2.1 rfl ?_
  refine kr_vl (fun e1 => ?_)
  refine kr_istore4 d_X2_chooseFirst_7 (Nat.le_of_ble_eq_true rfl) kv_c1i ?_
  refine kr_iload4 d_X2_chooseFirst_9 ?_
  refine kr_const (v := 1) d_X2_chooseFirst_11 ?_
  refine kr_iload2 d_X2_chooseFirst_12 ?_
  refine kr_ishl d_X2_chooseFirst_13 ?_
  refine kr_ior d_X2_chooseFirst_14 ?_
  refine kr_vl (fun e2 => ?_)
  refine kr_istore5 d_X2_chooseFirst_15 (Nat.le_of_ble_eq_true rfl) kv_c1i ?_
  refine kr_const (v := 536870912) d_X2_chooseFirst_17 ?_
  refine kr_istore6 d_X2_chooseFirst_19 (Nat.le_of_ble_eq_true rfl) kv_c1i ?_
  refine kr_const (v := 0) d_X2_chooseFirst_21 ?_
  refine kr_istore7 d_X2_chooseFirst_22 (Nat.le_of_ble_eq_true rfl) kv_c1i ?_
  refine s_f_X2_chooseFirst_L24 k1 hk1 x2 x3 e1 e2 kv_fu 536870912 0 h _ (fun z5 h6 => ?_)
  refine kr_aload0 d_X2_chooseFirst_87 ?_
  refine kr_iload6 d_X2_chooseFirst_88 ?_
  refine kr_aload1 d_X2_chooseFirst_90 ?_
  refine kr_getR (q := (k1 + 3)) d_X2_chooseFirst_91 fl_X2_27 hk1.1 rfl ?_
  refine kr_iload4 d_X2_chooseFirst_94 ?_
  refine kr_iload2 d_X2_chooseFirst_96 ?_
  refine kr_iv_i (As := [.int e1, .int x2]) d_X2_chooseFirst_97 cl_X2_81 (m_X1_isRead (k1 + 3) hk1.2.2.2.1 e1 x2 h6) hk1.2.2.2.1.1 (Nat.le_of_ble_eq_true rfl) rfl (Nat.le_of_ble_eq_true rfl) (fun r8 h7 => ?_)
  refine kr_if_eq d_X2_chooseFirst_100 ?_ ?_
  · refine kr_aload1 d_X2_chooseFirst_107 ?_
    refine kr_getR (q := (k1 + 3)) d_X2_chooseFirst_108 fl_X2_27 hk1.1 rfl ?_
    refine kr_getR (q := ((k1 + 3) + 7)) d_X2_chooseFirst_111 fl_X2_69 hk1.2.2.2.1.1 rfl ?_
    refine kr_iload2 d_X2_chooseFirst_114 ?_
    refine kr_iaload d_X2_chooseFirst_115 hk1.2.2.2.1.2.2.2.2.2.2.2.1 ?_
    refine kr_iadd d_X2_chooseFirst_116 ?_
    refine kr_putI d_X2_chooseFirst_117 fp_X2_40 sh_44 rfl rfl rfl ?_
    refine kr_hl (fun h9 => ?_)
    exact kr_return d_X2_chooseFirst_120 rfl
  · refine kr_const (v := 0) d_X2_chooseFirst_103 ?_
    refine kr_goto d_X2_chooseFirst_104 ?_
    refine kr_iadd d_X2_chooseFirst_116 ?_
    refine kr_putI d_X2_chooseFirst_117 fp_X2_40 sh_44 rfl rfl rfl ?_
    refine kr_hl (fun h10 => ?_)
    exact kr_return d_X2_chooseFirst_120 rfl

/-! X2_foresee -/
def f_X2_foresee_L37 (q1 : Nat) (q2 nq2 : Nat) (c3 : Int32) (c4 : Int32) : Nat → Int32 → kv_H → (kv_H → Option (Unit × kv_H)) → Option (Unit × kv_H)
  | 0, _, _, _ => none
  | n + 1, v5, h, C => if c4 ≤ v5 then (C h)
    else (kv_k v5 256 (kv_hl (kv_up h 46 v5.toNatClampNeg 0) (fun h4 =>
      f_X2_foresee_L37 q1 q2 nq2 c3 c4 n (v5 + 1) h4 C)))
def f_X2_foresee_L63 (q1 : Nat) (q2 nq2 : Nat) (c3 : Int32) (c4 : Int32) : Nat → Int32 → kv_H → (kv_H → Option (Unit × kv_H)) → Option (Unit × kv_H)
  | 0, _, _, _ => none
  | n + 1, v5, h, C => if v5 ≤ 0 then (C h)
    else (kv_jn (fun  (h7 : kv_H) =>
      kv_k v5 nq2 (kv_b (f_X2_missBefore (q1 + 3) (h7 q2 v5.toNatClampNeg) c4 h7) (fun _ h8 =>
        f_X2_foresee_L63 q1 q2 nq2 c3 c4 n (v5 + (-1)) h8 C))) (fun (J83 : kv_H → Option (Unit × kv_H)) =>
      if (c3 - 1) ≤ v5 then (J83 h)
      else (kv_b (f_X2_chooseWithin q1 c4 h) (fun _ h9 =>
        J83 h9))))
def f_X2_foresee (k1 : Nat) (k2 nk2 : Nat) (x3 : Int32) (h : kv_H) : Option (Unit × kv_H) :=
  kv_hl (kv_up h 44 2 0) (fun h1 =>
  kv_hl (kv_up h1 44 3 (-1000000005)) (fun h2 =>
  if x3 < (1 : Int32) then (some ((), h2))
  else (if x3 ≤ (nI nk2) then (kv_vl (1 <<< ((h2 (k1 + 3) 8) &&& 31)) (fun e3 =>
      f_X2_foresee_L37 k1 k2 nk2 x3 e3 kv_fu 0 h2 (fun  h5 =>
      kv_vl (x3 - 1) (fun e6 =>
        f_X2_foresee_L63 k1 k2 nk2 x3 e3 kv_fu e6 h5 (fun  h10 =>
        kv_k 0 nk2 (kv_b (f_X2_chooseFirst k1 (h10 k2 (0 : Int32).toNatClampNeg) e3 h10) (fun _ h11 =>
          some ((), h11))))))))
    else (some ((), h2)))))
set_option maxRecDepth 20000 in
theorem s_f_X2_foresee_L37 (q1 : Nat) (hq1 : kv_Wo q1) (q2 nq2 : Nat) (hq2 : kv_Ar q2 nq2) (c3 : Int32) (c4 : Int32) : ∀ (n : Nat) (v5 : Int32) (h : kv_H) (C : kv_H → Option (Unit × kv_H)), (∀  (h : kv_H), kv_S kv_u kK_X2_foresee 58 [some (.ref 44), some (.ref q1), some (.ref q2), some (.int c3), some (.int c4), none] [] h (C h)) → kv_S kv_u kK_X2_foresee 37 [some (.ref 44), some (.ref q1), some (.ref q2), some (.int c3), some (.int c4), some (.int v5)] [] h (f_X2_foresee_L37 q1 q2 nq2 c3 c4 n v5 h C) := by
  intro n
  induction n with
  | zero => intros; exact kv_none
  | succ n ih =>
    intro v5 h C hC
    unfold f_X2_foresee_L37
    refine kr_iload5 d_X2_foresee_37 ?_
    refine kr_iload4 d_X2_foresee_39 ?_
    refine kr_icmp_ge d_X2_foresee_41 ?_ ?_
    · refine kr_kill5 ?_
      exact hC h
    · refine kr_aload0 d_X2_foresee_44 ?_
      refine kr_getR (q := 46) d_X2_foresee_45 fl_X2_15 sh_44 rfl ?_
      refine kr_iload5 d_X2_foresee_48 ?_
      refine kr_const (v := 0) d_X2_foresee_50 ?_
      refine kr_iastore d_X2_foresee_51 sh_46 ?_
      refine kr_hl (fun h4 => ?_)
      refine kr_iinc5 d_X2_foresee_52 (Nat.le_of_ble_eq_true rfl) kv_c1i ?_
      refine kr_goto d_X2_foresee_55 ?_
      exact ih (v5 + 1) h4 C hC

set_option maxRecDepth 20000 in
theorem s_f_X2_foresee_L63 (q1 : Nat) (hq1 : kv_Wo q1) (q2 nq2 : Nat) (hq2 : kv_Ar q2 nq2) (c3 : Int32) (c4 : Int32) : ∀ (n : Nat) (v5 : Int32) (h : kv_H) (C : kv_H → Option (Unit × kv_H)), (∀  (h : kv_H), kv_S kv_u kK_X2_foresee 103 [some (.ref 44), some (.ref q1), some (.ref q2), none, some (.int c4), none] [] h (C h)) → kv_S kv_u kK_X2_foresee 63 [some (.ref 44), some (.ref q1), some (.ref q2), some (.int c3), some (.int c4), some (.int v5)] [] h (f_X2_foresee_L63 q1 q2 nq2 c3 c4 n v5 h C) := by
  intro n
  induction n with
  | zero => intros; exact kv_none
  | succ n ih =>
    intro v5 h C hC
    unfold f_X2_foresee_L63
    refine kr_iload5 d_X2_foresee_63 ?_
    refine kr_if_le d_X2_foresee_65 ?_ ?_
    · refine kr_kill3 ?_
      refine kr_kill5 ?_
      exact hC h
    · refine kr_iload5 d_X2_foresee_68 ?_
      refine kr_iload3 d_X2_foresee_70 ?_
      refine kr_const (v := 1) d_X2_foresee_71 ?_
      refine kr_isub d_X2_foresee_72 ?_
      refine kr_jn (P := fun J83 =>  ∀ (h7 : kv_H), kv_S kv_u kK_X2_foresee 83 [some (.ref 44), some (.ref q1), some (.ref q2), some (.int c3), some (.int c4), some (.int v5)] [] h7 (J83  h7)) (fun  h7 => ?_) (fun J83 hJ83 => ?_)
      · refine kr_aload0 d_X2_foresee_83 ?_
        refine kr_aload1 d_X2_foresee_84 ?_
        refine kr_getR (q := (q1 + 3)) d_X2_foresee_85 fl_X2_27 hq1.1 rfl ?_
        refine kr_aload2 d_X2_foresee_88 ?_
        refine kr_iload5 d_X2_foresee_89 ?_
        refine kr_iaload d_X2_foresee_91 hq2 ?_
        refine kr_iload4 d_X2_foresee_92 ?_
        refine kr_iv_u (As := [.ref (q1 + 3), .int (h7 q2 v5.toNatClampNeg), .int c4]) d_X2_foresee_94 cl_X2_51 (m_X2_missBefore (q1 + 3) hq1.2.2.2.1 (h7 q2 v5.toNatClampNeg) c4 h7) sh_44 (Nat.le_of_ble_eq_true rfl) rfl (Nat.le_of_ble_eq_true rfl) (fun h8 => ?_)
        refine kr_iinc5 d_X2_foresee_97 (Nat.le_of_ble_eq_true rfl) kv_c1i ?_
        refine kr_goto d_X2_foresee_100 ?_
        exact ih (v5 + (-1)) h8 C hC
      refine kr_icmp_ge d_X2_foresee_73 ?_ ?_
      · exact hJ83 h
      · refine kr_aload0 d_X2_foresee_76 ?_
        refine kr_aload1 d_X2_foresee_77 ?_
        refine kr_iload4 d_X2_foresee_78 ?_
        refine kr_iv_u (As := [.ref q1, .int c4]) d_X2_foresee_80 cl_X2_47 (m_X2_chooseWithin q1 hq1 c4 h) sh_44 (Nat.le_of_ble_eq_true rfl) rfl (Nat.le_of_ble_eq_true rfl) (fun h9 => ?_)
        exact hJ83 h9

set_option maxRecDepth 20000 in
theorem m_X2_foresee (k1 : Nat) (hk1 : kv_Wo k1) (k2 nk2 : Nat) (hk2 : kv_Ar k2 nk2) (x3 : Int32) (h : kv_H) : kv_M kv_u kK_X2_foresee [.ref 44, .ref k1, .ref k2, .int x3] h (f_X2_foresee k1 k2 nk2 x3 h) := by
  refine kv_met (ls := [some (.ref 44), some (.ref k1), some (.ref k2), some (.int x3), none, none]) (show plainName RX2 = true by decide +kernel) (fun _ => rfl) (fun _ => Nat.le_of_ble_eq_true rfl) ?_
  unfold f_X2_foresee
  refine kr_aload0 d_X2_foresee_0 ?_
  refine kr_const (v := 0) d_X2_foresee_1 ?_
  refine kr_putI d_X2_foresee_2 fp_X2_40 sh_44 rfl rfl rfl ?_
  refine kr_hl (fun h1 => ?_)
  refine kr_aload0 d_X2_foresee_5 ?_
  refine kr_const (v := (-1000000005)) d_X2_foresee_6 ?_
  refine kr_putI d_X2_foresee_8 fp_X2_44 sh_44 rfl rfl rfl ?_
  refine kr_hl (fun h2 => ?_)
  refine kr_iload3 d_X2_foresee_11 ?_
  refine kr_const (v := 1) d_X2_foresee_12 ?_
  refine kr_icmp_lt d_X2_foresee_13 ?_ ?_
  · exact kr_return d_X2_foresee_22 rfl
  · refine kr_iload3 d_X2_foresee_16 ?_
    refine kr_aload2 d_X2_foresee_17 ?_
    refine kr_alen d_X2_foresee_18 hk2 ?_
    refine kr_icmp_le d_X2_foresee_19 ?_ ?_
    · refine kr_const (v := 1) d_X2_foresee_23 ?_
      refine kr_aload1 d_X2_foresee_24 ?_
      refine kr_getR (q := (k1 + 3)) d_X2_foresee_25 fl_X2_27 hk1.1 rfl ?_
      refine kr_getI d_X2_foresee_28 fl_X2_18 hk1.2.2.2.1.1 rfl ?_
      refine kr_ishl d_X2_foresee_31 ?_
      refine kr_vl (fun e3 => ?_)
      refine kr_istore4 d_X2_foresee_32 (Nat.le_of_ble_eq_true rfl) kv_c1i ?_
      refine kr_const (v := 0) d_X2_foresee_34 ?_
      refine kr_istore5 d_X2_foresee_35 (Nat.le_of_ble_eq_true rfl) kv_c1i ?_
      refine s_f_X2_foresee_L37 k1 hk1 k2 nk2 hk2 x3 e3 kv_fu 0 h2 _ (fun  h5 => ?_)
      refine kr_iload3 d_X2_foresee_58 ?_
      refine kr_const (v := 1) d_X2_foresee_59 ?_
      refine kr_isub d_X2_foresee_60 ?_
      refine kr_vl (fun e6 => ?_)
      refine kr_istore5 d_X2_foresee_61 (Nat.le_of_ble_eq_true rfl) kv_c1i ?_
      refine s_f_X2_foresee_L63 k1 hk1 k2 nk2 hk2 x3 e3 kv_fu e6 h5 _ (fun  h10 => ?_)
      refine kr_aload0 d_X2_foresee_103 ?_
      refine kr_aload1 d_X2_foresee_104 ?_
      refine kr_aload2 d_X2_foresee_105 ?_
      refine kr_const (v := 0) d_X2_foresee_106 ?_
      refine kr_iaload d_X2_foresee_107 hk2 ?_
      refine kr_iload4 d_X2_foresee_108 ?_
      refine kr_iv_u (As := [.ref k1, .int (h10 k2 (0 : Int32).toNatClampNeg), .int e3]) d_X2_foresee_110 cl_X2_55 (m_X2_chooseFirst k1 hk1 (h10 k2 (0 : Int32).toNatClampNeg) e3 h10) sh_44 (Nat.le_of_ble_eq_true rfl) rfl (Nat.le_of_ble_eq_true rfl) (fun h11 => ?_)
      exact kr_return d_X2_foresee_113 rfl
    · exact kr_return d_X2_foresee_22 rfl

/-! X3_beginAnew -/
def f_X3_beginAnew_L12 (q0 : Nat) (c2 : Int32) : Nat → Int32 → kv_H → (kv_H → Option (Unit × kv_H)) → Option (Unit × kv_H)
  | 0, _, _, _ => none
  | n + 1, v3, h, C => if c2 ≤ v3 then (C h)
    else (if (24 : Int32) ≤ v3 then (C h)
      else (kv_k v3 24 (kv_hl (kv_up h (q0 + 1) v3.toNatClampNeg 0) (fun h3 =>
        f_X3_beginAnew_L12 q0 c2 n (v3 + 1) h3 C))))
def f_X3_beginAnew (k0 : Nat) (x1 : Int32) (x2 : Int32) (h : kv_H) : Option (Unit × kv_H) :=
  kv_hl (kv_up h k0 1 x1) (fun h1 =>
  kv_hl (kv_up h1 k0 2 x2) (fun h2 =>
  f_X3_beginAnew_L12 k0 x2 kv_fu 0 h2 (fun  h4 =>
  some ((), h4))))
set_option maxRecDepth 20000 in
theorem s_f_X3_beginAnew_L12 (q0 : Nat) (hq0 : kv_Sh q0) (c2 : Int32) : ∀ (n : Nat) (v3 : Int32) (h : kv_H) (C : kv_H → Option (Unit × kv_H)), (∀  (h : kv_H), kv_S kv_u kK_X3_beginAnew 36 [none, none, none, none] [] h (C h)) → kv_S kv_u kK_X3_beginAnew 12 [some (.ref q0), none, some (.int c2), some (.int v3)] [] h (f_X3_beginAnew_L12 q0 c2 n v3 h C) := by
  intro n
  induction n with
  | zero => intros; exact kv_none
  | succ n ih =>
    intro v3 h C hC
    unfold f_X3_beginAnew_L12
    refine kr_iload3 d_X3_beginAnew_12 ?_
    refine kr_iload2 d_X3_beginAnew_13 ?_
    refine kr_icmp_ge d_X3_beginAnew_14 ?_ ?_
    · refine kr_kill0 ?_
      refine kr_kill2 ?_
      refine kr_kill3 ?_
      exact hC h
    · refine kr_iload3 d_X3_beginAnew_17 ?_
      refine kr_const (v := 24) d_X3_beginAnew_18 ?_
      refine kr_icmp_ge d_X3_beginAnew_20 ?_ ?_
      · refine kr_kill0 ?_
        refine kr_kill2 ?_
        refine kr_kill3 ?_
        exact hC h
      · refine kr_aload0 d_X3_beginAnew_23 ?_
        refine kr_getR (q := (q0 + 1)) d_X3_beginAnew_24 fl_X3_9 hq0.1 rfl ?_
        refine kr_iload3 d_X3_beginAnew_27 ?_
        refine kr_const (v := 0) d_X3_beginAnew_28 ?_
        refine kr_iastore d_X3_beginAnew_29 hq0.2 ?_
        refine kr_hl (fun h3 => ?_)
        refine kr_iinc3 d_X3_beginAnew_30 (Nat.le_of_ble_eq_true rfl) kv_c1i ?_
        refine kr_goto d_X3_beginAnew_33 ?_
        exact ih (v3 + 1) h3 C hC

set_option maxRecDepth 20000 in
theorem m_X3_beginAnew (k0 : Nat) (hk0 : kv_Sh k0) (x1 : Int32) (x2 : Int32) (h : kv_H) : kv_M kv_u kK_X3_beginAnew [.ref k0, .int x1, .int x2] h (f_X3_beginAnew k0 x1 x2 h) := by
  refine kv_met (ls := [some (.ref k0), some (.int x1), some (.int x2), none]) (show plainName RX3 = true by decide +kernel) (fun _ => rfl) (fun _ => Nat.le_of_ble_eq_true rfl) ?_
  unfold f_X3_beginAnew
  refine kr_aload0 d_X3_beginAnew_0 ?_
  refine kr_iload1 d_X3_beginAnew_1 ?_
  refine kr_putI d_X3_beginAnew_2 fp_X3_15 hk0.1 rfl rfl rfl ?_
  refine kr_hl (fun h1 => ?_)
  refine kr_aload0 d_X3_beginAnew_5 ?_
  refine kr_iload2 d_X3_beginAnew_6 ?_
  refine kr_putI d_X3_beginAnew_7 fp_X3_19 hk0.1 rfl rfl rfl ?_
  refine kr_hl (fun h2 => ?_)
  refine kr_const (v := 0) d_X3_beginAnew_10 ?_
  refine kr_istore3 d_X3_beginAnew_11 (Nat.le_of_ble_eq_true rfl) kv_c1i ?_
  refine kr_kill1 ?_
  refine s_f_X3_beginAnew_L12 k0 hk0 x2 kv_fu 0 h2 _ (fun  h4 => ?_)
  exact kr_return d_X3_beginAnew_36 rfl

/-! X3_becomes -/
def f_X3_becomes (k0 : Nat) (k1 : Nat) (h : kv_H) : Option (Unit × kv_H) :=
  kv_hl (kv_up h k0 1 (h k1 1)) (fun h1 =>
  kv_hl (kv_up h1 k0 2 (h1 k1 2)) (fun h2 =>
  kv_b (f_X9_copyRow (k1 + 1) 24 (k0 + 1) 24 h2) (fun _ h3 =>
  some ((), h3))))
set_option maxRecDepth 20000 in
theorem m_X3_becomes (k0 : Nat) (hk0 : kv_Sh k0) (k1 : Nat) (hk1 : kv_Sh k1) (h : kv_H) : kv_M kv_u kK_X3_becomes [.ref k0, .ref k1] h (f_X3_becomes k0 k1 h) := by
  refine kv_met (ls := [some (.ref k0), some (.ref k1)]) (show plainName RX3 = true by decide +kernel) (fun _ => rfl) (fun _ => Nat.le_of_ble_eq_true rfl) ?_
  unfold f_X3_becomes
  refine kr_aload0 d_X3_becomes_0 ?_
  refine kr_aload1 d_X3_becomes_1 ?_
  refine kr_getI d_X3_becomes_2 fl_X3_15 hk1.1 rfl ?_
  refine kr_putI d_X3_becomes_5 fp_X3_15 hk0.1 rfl rfl rfl ?_
  refine kr_hl (fun h1 => ?_)
  refine kr_aload0 d_X3_becomes_8 ?_
  refine kr_aload1 d_X3_becomes_9 ?_
  refine kr_getI d_X3_becomes_10 fl_X3_19 hk1.1 rfl ?_
  refine kr_putI d_X3_becomes_13 fp_X3_19 hk0.1 rfl rfl rfl ?_
  refine kr_hl (fun h2 => ?_)
  refine kr_aload1 d_X3_becomes_16 ?_
  refine kr_getR (q := (k1 + 1)) d_X3_becomes_17 fl_X3_9 hk1.1 rfl ?_
  refine kr_aload0 d_X3_becomes_20 ?_
  refine kr_getR (q := (k0 + 1)) d_X3_becomes_21 fl_X3_9 hk0.1 rfl ?_
  refine kr_isn_u (As := [.ref (k1 + 1), .ref (k0 + 1)]) d_X3_becomes_24 cl_X3_22 (m_X9_copyRow (k1 + 1) 24 hk1.2 (k0 + 1) 24 hk0.2 h2) (Nat.le_of_ble_eq_true rfl) rfl (Nat.le_of_ble_eq_true rfl) (fun h3 => ?_)
  exact kr_return d_X3_becomes_27 rfl

/-! X3_has -/
def f_X3_has (k0 : Nat) (x1 : Int32) (h : kv_H) : Option (Int32 × kv_H) :=
  if x1 < 0 then (some (0, h))
  else (if (h k0 2) ≤ x1 then (some (0, h))
    else (some (1, h)))
set_option maxRecDepth 20000 in
theorem m_X3_has (k0 : Nat) (hk0 : kv_Sh k0) (x1 : Int32) (h : kv_H) : kv_M kv_i kK_X3_has [.ref k0, .int x1] h (f_X3_has k0 x1 h) := by
  refine kv_met (ls := [some (.ref k0), some (.int x1)]) (show plainName RX3 = true by decide +kernel) (fun _ => rfl) (fun _ => Nat.le_of_ble_eq_true rfl) ?_
  unfold f_X3_has
  refine kr_iload1 d_X3_has_0 ?_
  refine kr_if_lt d_X3_has_1 ?_ ?_
  · refine kr_const (v := 0) d_X3_has_16 ?_
    exact kr_zreturnK (by decide) d_X3_has_17 rfl
  · refine kr_iload1 d_X3_has_4 ?_
    refine kr_aload0 d_X3_has_5 ?_
    refine kr_getI d_X3_has_6 fl_X3_19 hk0.1 rfl ?_
    refine kr_icmp_ge d_X3_has_9 ?_ ?_
    · refine kr_const (v := 0) d_X3_has_16 ?_
      exact kr_zreturnK (by decide) d_X3_has_17 rfl
    · refine kr_const (v := 1) d_X3_has_12 ?_
      refine kr_goto d_X3_has_13 ?_
      exact kr_zreturnK (by decide) d_X3_has_17 rfl

/-! X3_hasStretch -/
def f_X3_hasStretch (k0 : Nat) (x1 : Int32) (x2 : Int32) (h : kv_H) : Option (Int32 × kv_H) :=
  if x1 < 0 then (some (0, h))
  else (if x2 < 0 then (some (0, h))
    else (if (h k0 2) < x2 then (some (0, h))
      else (if ((h k0 2) - x2) < x1 then (some (0, h))
        else (some (1, h)))))
set_option maxRecDepth 20000 in
theorem m_X3_hasStretch (k0 : Nat) (hk0 : kv_Sh k0) (x1 : Int32) (x2 : Int32) (h : kv_H) : kv_M kv_i kK_X3_hasStretch [.ref k0, .int x1, .int x2] h (f_X3_hasStretch k0 x1 x2 h) := by
  refine kv_met (ls := [some (.ref k0), some (.int x1), some (.int x2)]) (show plainName RX3 = true by decide +kernel) (fun _ => rfl) (fun _ => Nat.le_of_ble_eq_true rfl) ?_
  unfold f_X3_hasStretch
  refine kr_iload1 d_X3_hasStretch_0 ?_
  refine kr_if_lt d_X3_hasStretch_1 ?_ ?_
  · refine kr_const (v := 0) d_X3_hasStretch_30 ?_
    exact kr_zreturnK (by decide) d_X3_hasStretch_31 rfl
  · refine kr_iload2 d_X3_hasStretch_4 ?_
    refine kr_if_lt d_X3_hasStretch_5 ?_ ?_
    · refine kr_const (v := 0) d_X3_hasStretch_30 ?_
      exact kr_zreturnK (by decide) d_X3_hasStretch_31 rfl
    · refine kr_iload2 d_X3_hasStretch_8 ?_
      refine kr_aload0 d_X3_hasStretch_9 ?_
      refine kr_getI d_X3_hasStretch_10 fl_X3_19 hk0.1 rfl ?_
      refine kr_icmp_gt d_X3_hasStretch_13 ?_ ?_
      · refine kr_const (v := 0) d_X3_hasStretch_30 ?_
        exact kr_zreturnK (by decide) d_X3_hasStretch_31 rfl
      · refine kr_iload1 d_X3_hasStretch_16 ?_
        refine kr_aload0 d_X3_hasStretch_17 ?_
        refine kr_getI d_X3_hasStretch_18 fl_X3_19 hk0.1 rfl ?_
        refine kr_iload2 d_X3_hasStretch_21 ?_
        refine kr_isub d_X3_hasStretch_22 ?_
        refine kr_icmp_gt d_X3_hasStretch_23 ?_ ?_
        · refine kr_const (v := 0) d_X3_hasStretch_30 ?_
          exact kr_zreturnK (by decide) d_X3_hasStretch_31 rfl
        · refine kr_const (v := 1) d_X3_hasStretch_26 ?_
          refine kr_goto d_X3_hasStretch_27 ?_
          exact kr_zreturnK (by decide) d_X3_hasStretch_31 rfl

/-! X4_takeLeaf -/
def f_X4_takeLeaf (k0 : Nat) (k1 : Nat) (x2 : Int32) (h : kv_H) : Option (Unit × kv_H) :=
  kv_k x2 8 (kv_hl (kv_up h k0 3 (h (k1 + 1) x2.toNatClampNeg)) (fun h1 =>
  kv_k x2 8 (kv_hl (kv_up h1 k0 4 (h1 (k1 + 2) x2.toNatClampNeg)) (fun h2 =>
  kv_k x2 8 (kv_hl (kv_up h2 k0 5 (h2 (k1 + 3) x2.toNatClampNeg)) (fun h3 =>
  kv_k x2 8 (kv_hl (kv_up h3 k0 6 (h3 (k1 + 4) x2.toNatClampNeg)) (fun h4 =>
  some ((), h4)))))))))
set_option maxRecDepth 20000 in
theorem m_X4_takeLeaf (k0 : Nat) (hk0 : kv_Sl k0) (k1 : Nat) (hk1 : kv_Le k1) (x2 : Int32) (h : kv_H) : kv_M kv_u kK_X4_takeLeaf [.ref k0, .ref k1, .int x2] h (f_X4_takeLeaf k0 k1 x2 h) := by
  refine kv_met (ls := [some (.ref k0), some (.ref k1), some (.int x2)]) (show plainName RX4 = true by decide +kernel) (fun _ => rfl) (fun _ => Nat.le_of_ble_eq_true rfl) ?_
  unfold f_X4_takeLeaf
  refine kr_aload0 d_X4_takeLeaf_0 ?_
  refine kr_aload1 d_X4_takeLeaf_1 ?_
  refine kr_getR (q := (k1 + 1)) d_X4_takeLeaf_2 fl_X4_16 hk1.1 rfl ?_
  refine kr_iload2 d_X4_takeLeaf_5 ?_
  refine kr_iaload d_X4_takeLeaf_6 hk1.2.1 ?_
  refine kr_putI d_X4_takeLeaf_7 fp_X4_22 hk0.1 rfl rfl rfl ?_
  refine kr_hl (fun h1 => ?_)
  refine kr_aload0 d_X4_takeLeaf_10 ?_
  refine kr_aload1 d_X4_takeLeaf_11 ?_
  refine kr_getR (q := (k1 + 2)) d_X4_takeLeaf_12 fl_X4_25 hk1.1 rfl ?_
  refine kr_iload2 d_X4_takeLeaf_15 ?_
  refine kr_iaload d_X4_takeLeaf_16 hk1.2.2.1 ?_
  refine kr_putI d_X4_takeLeaf_17 fp_X4_28 hk0.1 rfl rfl rfl ?_
  refine kr_hl (fun h2 => ?_)
  refine kr_aload0 d_X4_takeLeaf_20 ?_
  refine kr_aload1 d_X4_takeLeaf_21 ?_
  refine kr_getR (q := (k1 + 3)) d_X4_takeLeaf_22 fl_X4_30 hk1.1 rfl ?_
  refine kr_iload2 d_X4_takeLeaf_25 ?_
  refine kr_iaload d_X4_takeLeaf_26 hk1.2.2.2.1 ?_
  refine kr_putI d_X4_takeLeaf_27 fp_X4_33 hk0.1 rfl rfl rfl ?_
  refine kr_hl (fun h3 => ?_)
  refine kr_aload0 d_X4_takeLeaf_30 ?_
  refine kr_aload1 d_X4_takeLeaf_31 ?_
  refine kr_getR (q := (k1 + 4)) d_X4_takeLeaf_32 fl_X4_35 hk1.1 rfl ?_
  refine kr_iload2 d_X4_takeLeaf_35 ?_
  refine kr_iaload d_X4_takeLeaf_36 hk1.2.2.2.2.1 ?_
  refine kr_putI d_X4_takeLeaf_37 fp_X4_38 hk0.1 rfl rfl rfl ?_
  refine kr_hl (fun h4 => ?_)
  exact kr_return d_X4_takeLeaf_40 rfl

/-! X5_addBytes -/
def f_X5_addBytes_L3 (c1 : Int32) : Nat → Int32 → kv_H → (kv_H → Option (Unit × kv_H)) → Option (Unit × kv_H)
  | 0, _, _, _ => none
  | n + 1, v2, h, C => if v2 < 0 then (C h)
    else (if (96 : Int32) ≤ (h 41 1) then (C h)
      else (kv_k (h 41 1) 96 (kv_hl (kv_up h 42 (h 41 1).toNatClampNeg ((c1.toUInt32 >>> (Int32.toUInt32 v2 &&& Int32.toUInt32 31)).toInt32 &&& 255)) (fun h1 =>
        kv_hl (kv_up h1 41 1 ((h1 41 1) + 1)) (fun h2 =>
        f_X5_addBytes_L3 c1 n (v2 + (-8)) h2 C)))))
def f_X5_addBytes (x1 : Int32) (h : kv_H) : Option (Unit × kv_H) :=
  f_X5_addBytes_L3 x1 kv_fu 24 h (fun  h3 =>
  some ((), h3))
set_option maxRecDepth 20000 in
theorem s_f_X5_addBytes_L3 (c1 : Int32) : ∀ (n : Nat) (v2 : Int32) (h : kv_H) (C : kv_H → Option (Unit × kv_H)), (∀  (h : kv_H), kv_S kv_u kK_X5_addBytes 48 [none, none, none] [] h (C h)) → kv_S kv_u kK_X5_addBytes 3 [some (.ref 41), some (.int c1), some (.int v2)] [] h (f_X5_addBytes_L3 c1 n v2 h C) := by
  intro n
  induction n with
  | zero => intros; exact kv_none
  | succ n ih =>
    intro v2 h C hC
    unfold f_X5_addBytes_L3
    refine kr_iload2 d_X5_addBytes_3 ?_
    refine kr_if_lt d_X5_addBytes_4 ?_ ?_
    · refine kr_kill0 ?_
      refine kr_kill1 ?_
      refine kr_kill2 ?_
      exact hC h
    · refine kr_aload0 d_X5_addBytes_7 ?_
      refine kr_getI d_X5_addBytes_8 fl_X5_18 sh_41 rfl ?_
      refine kr_const (v := 96) d_X5_addBytes_11 ?_
      refine kr_icmp_ge d_X5_addBytes_13 ?_ ?_
      · refine kr_kill0 ?_
        refine kr_kill1 ?_
        refine kr_kill2 ?_
        exact hC h
      · refine kr_aload0 d_X5_addBytes_16 ?_
        refine kr_getR (q := 42) d_X5_addBytes_17 fl_X5_9 sh_41 rfl ?_
        refine kr_aload0 d_X5_addBytes_20 ?_
        refine kr_getI d_X5_addBytes_21 fl_X5_18 sh_41 rfl ?_
        refine kr_iload1 d_X5_addBytes_24 ?_
        refine kr_iload2 d_X5_addBytes_25 ?_
        refine kr_iushr d_X5_addBytes_26 ?_
        refine kr_const (v := 255) d_X5_addBytes_27 ?_
        refine kr_iand d_X5_addBytes_30 ?_
        refine kr_iastore d_X5_addBytes_31 sh_42 ?_
        refine kr_hl (fun h1 => ?_)
        refine kr_aload0 d_X5_addBytes_32 ?_
        refine kr_dup d_X5_addBytes_33 rfl ?_
        refine kr_getI d_X5_addBytes_34 fl_X5_18 sh_41 rfl ?_
        refine kr_const (v := 1) d_X5_addBytes_37 ?_
        refine kr_iadd d_X5_addBytes_38 ?_
        refine kr_putI d_X5_addBytes_39 fp_X5_18 sh_41 rfl rfl rfl ?_
        refine kr_hl (fun h2 => ?_)
        refine kr_iinc2 d_X5_addBytes_42 (Nat.le_of_ble_eq_true rfl) kv_c1i ?_
        refine kr_goto d_X5_addBytes_45 ?_
        exact ih (v2 + (-8)) h2 C hC

set_option maxRecDepth 20000 in
theorem m_X5_addBytes (x1 : Int32) (h : kv_H) : kv_M kv_u kK_X5_addBytes [.ref 41, .int x1] h (f_X5_addBytes x1 h) := by
  refine kv_met (ls := [some (.ref 41), some (.int x1), none]) (show plainName RX5 = true by decide +kernel) (fun _ => rfl) (fun _ => Nat.le_of_ble_eq_true rfl) ?_
  unfold f_X5_addBytes
  refine kr_const (v := 24) d_X5_addBytes_0 ?_
  refine kr_istore2 d_X5_addBytes_2 (Nat.le_of_ble_eq_true rfl) kv_c1i ?_
  refine s_f_X5_addBytes_L3 x1 kv_fu 24 h _ (fun  h3 => ?_)
  exact kr_return d_X5_addBytes_48 rfl

/-! X5_sortOf -/
def f_X5_sortOf (x1 : Int32) (h : kv_H) : Option (Int32 × kv_H) :=
  kv_jn (fun  (h1 : kv_H) =>
  if x1 < (48 : Int32) then (some (3, h1))
    else (if (57 : Int32) < x1 then (some (3, h1))
      else (some (2, h1)))) (fun (J14 : kv_H → Option (Int32 × kv_H)) =>
  if x1 < (97 : Int32) then (J14 h)
  else (if (122 : Int32) < x1 then (J14 h)
    else (some (1, h))))
set_option maxRecDepth 20000 in
theorem m_X5_sortOf (x1 : Int32) (h : kv_H) : kv_M kv_i kK_X5_sortOf [.int x1] h (f_X5_sortOf x1 h) := by
  refine kv_met (ls := [some (.int x1)]) (show plainName RX5 = true by decide +kernel) (fun _ => rfl) (fun _ => Nat.le_of_ble_eq_true rfl) ?_
  unfold f_X5_sortOf
  refine kr_iload0 d_X5_sortOf_0 ?_
  refine kr_const (v := 97) d_X5_sortOf_1 ?_
  refine kr_jn (P := fun J14 =>  ∀ (h1 : kv_H), kv_S kv_i kK_X5_sortOf 14 [some (.int x1)] [] h1 (J14  h1)) (fun  h1 => ?_) (fun J14 hJ14 => ?_)
  · refine kr_iload0 d_X5_sortOf_14 ?_
    refine kr_const (v := 48) d_X5_sortOf_15 ?_
    refine kr_icmp_lt d_X5_sortOf_17 ?_ ?_
    · refine kr_const (v := 3) d_X5_sortOf_30 ?_
      exact kr_ireturn d_X5_sortOf_31 rfl
    · refine kr_iload0 d_X5_sortOf_20 ?_
      refine kr_const (v := 57) d_X5_sortOf_21 ?_
      refine kr_icmp_gt d_X5_sortOf_23 ?_ ?_
      · refine kr_const (v := 3) d_X5_sortOf_30 ?_
        exact kr_ireturn d_X5_sortOf_31 rfl
      · refine kr_const (v := 2) d_X5_sortOf_26 ?_
        refine kr_goto d_X5_sortOf_27 ?_
        exact kr_ireturn d_X5_sortOf_31 rfl
  refine kr_icmp_lt d_X5_sortOf_3 ?_ ?_
  · exact hJ14 h
  · refine kr_iload0 d_X5_sortOf_6 ?_
    refine kr_const (v := 122) d_X5_sortOf_7 ?_
    refine kr_icmp_gt d_X5_sortOf_9 ?_ ?_
    · exact hJ14 h
    · refine kr_const (v := 1) d_X5_sortOf_12 ?_
      exact kr_ireturn d_X5_sortOf_13 rfl


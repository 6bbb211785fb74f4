/-! grp_ex -/
def f_X10_eitherB_L10 (rc : Nat → Int32 → kv_H → Option (Int32 × kv_H)) (c1 : Int32) : Nat → kv_H → (kv_H → Option (Int32 × kv_H)) → Option (Int32 × kv_H)
  | 0, _, _ => none
  | n + 1, h, C => kv_b (f_X10_isSign 124 h) (fun r4 h3 =>
    if r4 = 0 then (C h3)
    else (kv_b (f_X10_nextToken h3) (fun _ h5 =>
      kv_b (rc 1 c1 h5) (fun r7 h6 =>
      if r7 = 0 then (some (0, h6))
      else (kv_b (f_X10_step 2 124 h6) (fun _ h8 =>
        f_X10_eitherB_L10 rc c1 n h8 C))))))
def f_X10_eitherB (rc : Nat → Int32 → kv_H → Option (Int32 × kv_H)) (x1 : Int32) (h : kv_H) : Option (Int32 × kv_H) :=
  kv_b (rc 1 x1 h) (fun r2 h1 =>
  if r2 = 0 then (some (0, h1))
  else (f_X10_eitherB_L10 rc x1 kv_fu  h1 (fun  h9 =>
    some (1, h9))))
def f_X10_bothB_L10 (rc : Nat → Int32 → kv_H → Option (Int32 × kv_H)) (c1 : Int32) : Nat → kv_H → (kv_H → Option (Int32 × kv_H)) → Option (Int32 × kv_H)
  | 0, _, _ => none
  | n + 1, h, C => kv_b (f_X10_isSign 38 h) (fun r4 h3 =>
    if r4 = 0 then (C h3)
    else (kv_b (f_X10_nextToken h3) (fun _ h5 =>
      kv_b (rc 2 c1 h5) (fun r7 h6 =>
      if r7 = 0 then (some (0, h6))
      else (kv_b (f_X10_step 2 38 h6) (fun _ h8 =>
        f_X10_bothB_L10 rc c1 n h8 C))))))
def f_X10_bothB (rc : Nat → Int32 → kv_H → Option (Int32 × kv_H)) (x1 : Int32) (h : kv_H) : Option (Int32 × kv_H) :=
  kv_b (rc 2 x1 h) (fun r2 h1 =>
  if r2 = 0 then (some (0, h1))
  else (f_X10_bothB_L10 rc x1 kv_fu  h1 (fun  h9 =>
    some (1, h9))))
def f_X10_testB (rc : Nat → Int32 → kv_H → Option (Int32 × kv_H)) (x1 : Int32) (h : kv_H) : Option (Int32 × kv_H) :=
  kv_b (rc 3 x1 h) (fun r2 h1 =>
  if r2 = 0 then (some (0, h1))
  else (kv_b (f_X10_isSign 60 h1) (fun r4 h3 =>
    kv_jn (fun  (h5 : kv_H) =>
    kv_vl (h5 111 26) (fun e6 =>
      kv_b (f_X10_nextToken h5) (fun _ h7 =>
      kv_b (rc 3 x1 h7) (fun r9 h8 =>
      if r9 = 0 then (some (0, h8))
      else (kv_b (f_X10_step 2 e6 h8) (fun _ h10 =>
        some (1, h10))))))) (fun (J37 : kv_H → Option (Int32 × kv_H)) =>
    if r4 = 0 then (kv_b (f_X10_isSign 61 h3) (fun r12 h11 =>
      if r12 = 0 then (kv_b (f_X10_isSign 62 h11) (fun r14 h13 =>
        if r14 = 0 then (some (1, h13))
        else (J37 h13)))
      else (J37 h11)))
    else (J37 h3)))))
def f_X10_sumB_L10 (rc : Nat → Int32 → kv_H → Option (Int32 × kv_H)) (c1 : Int32) : Nat → kv_H → (kv_H → Option (Int32 × kv_H)) → Option (Int32 × kv_H)
  | 0, _, _ => none
  | n + 1, h, C => kv_b (f_X10_isSign 43 h) (fun r4 h3 =>
    kv_jn (fun  (h5 : kv_H) =>
    kv_vl (h5 111 26) (fun e6 =>
      kv_b (f_X10_nextToken h5) (fun _ h7 =>
      kv_b (rc 4 c1 h7) (fun r9 h8 =>
      if r9 = 0 then (some (0, h8))
      else (kv_b (f_X10_step 2 e6 h8) (fun _ h10 =>
        f_X10_sumB_L10 rc c1 n h10 C)))))) (fun (J28 : kv_H → Option (Int32 × kv_H)) =>
    if r4 = 0 then (kv_b (f_X10_isSign 45 h3) (fun r12 h11 =>
      if r12 = 0 then (C h11)
      else (J28 h11)))
    else (J28 h3)))
def f_X10_sumB (rc : Nat → Int32 → kv_H → Option (Int32 × kv_H)) (x1 : Int32) (h : kv_H) : Option (Int32 × kv_H) :=
  kv_b (rc 4 x1 h) (fun r2 h1 =>
  if r2 = 0 then (some (0, h1))
  else (f_X10_sumB_L10 rc x1 kv_fu  h1 (fun  h13 =>
    some (1, h13))))
def f_X10_termB_L10 (rc : Nat → Int32 → kv_H → Option (Int32 × kv_H)) (c1 : Int32) : Nat → kv_H → (kv_H → Option (Int32 × kv_H)) → Option (Int32 × kv_H)
  | 0, _, _ => none
  | n + 1, h, C => kv_b (f_X10_isSign 42 h) (fun r4 h3 =>
    kv_jn (fun  (h5 : kv_H) =>
    kv_vl (h5 111 26) (fun e6 =>
      kv_b (f_X10_nextToken h5) (fun _ h7 =>
      kv_b (rc 5 c1 h7) (fun r9 h8 =>
      if r9 = 0 then (some (0, h8))
      else (kv_b (f_X10_step 2 e6 h8) (fun _ h10 =>
        f_X10_termB_L10 rc c1 n h10 C)))))) (fun (J28 : kv_H → Option (Int32 × kv_H)) =>
    if r4 = 0 then (kv_b (f_X10_isSign 47 h3) (fun r12 h11 =>
      if r12 = 0 then (C h11)
      else (J28 h11)))
    else (J28 h3)))
def f_X10_termB (rc : Nat → Int32 → kv_H → Option (Int32 × kv_H)) (x1 : Int32) (h : kv_H) : Option (Int32 × kv_H) :=
  kv_b (rc 5 x1 h) (fun r2 h1 =>
  if r2 = 0 then (some (0, h1))
  else (f_X10_termB_L10 rc x1 kv_fu  h1 (fun  h13 =>
    some (1, h13))))
def f_X10_part0B (rc : Nat → Int32 → kv_H → Option (Int32 × kv_H)) (x1 : Int32) (h : kv_H) : Option (Int32 × kv_H) :=
  if (h 111 24) = (2 : Int32) then (kv_b (f_X10_step 0 (h 111 25) h) (fun _ h26 =>
    kv_hl (kv_up h26 111 31 ((h26 111 31) + 1)) (fun h27 =>
    kv_b (f_X10_nextToken h27) (fun _ h28 =>
    some (1, h28)))))
  else (kv_jn (fun  (h1 : kv_H) =>
    kv_b (f_X10_isSign 33 h1) (fun r3 h2 =>
      kv_jn (fun  (h4 : kv_H) =>
      kv_b (f_X10_isSign 40 h4) (fun r6 h5 =>
        if r6 = 0 then (some (0, h5))
        else (if (h5 111 27) = (8 : Int32) then (some (0, h5))
          else (kv_hl (kv_up h5 111 27 ((h5 111 27) + 1)) (fun h7 =>
            kv_b (f_X10_nextToken h7) (fun _ h8 =>
            kv_b (rc 0 x1 h8) (fun r10 h9 =>
            if r10 = 0 then (some (0, h9))
            else (kv_b (f_X10_isSign 41 h9) (fun r12 h11 =>
              if r12 = 0 then (some (0, h11))
              else (kv_hl (kv_up h11 111 27 ((h11 111 27) - 1)) (fun h13 =>
                kv_b (f_X10_nextToken h13) (fun _ h14 =>
                some (1, h14))))))))))))) (fun (J145 : kv_H → Option (Int32 × kv_H)) =>
      if r3 = 0 then (J145 h2)
      else (if (8 : Int32) ≤ (h2 111 28) then (J145 h2)
        else (kv_hl (kv_up h2 111 28 ((h2 111 28) + 1)) (fun h15 =>
          kv_b (f_X10_nextToken h15) (fun _ h16 =>
          kv_b (rc 5 x1 h16) (fun r18 h17 =>
          if r18 = 0 then (some (0, h17))
          else (kv_hl (kv_up h17 111 28 ((h17 111 28) - 1)) (fun h19 =>
            kv_b (f_X10_step 2 33 h19) (fun _ h20 =>
            some (1, h20)))))))))))) (fun (J84 : kv_H → Option (Int32 × kv_H)) =>
    if (h 111 24) = (1 : Int32) then (if (h 111 26) = 0 then (J84 h)
      else (kv_b (f_X10_isName x1 (h 111 26) h) (fun r22 h21 =>
        if r22 = 0 then (J84 h21)
        else (kv_b (f_X10_step 1 (h21 111 26) h21) (fun _ h23 =>
          kv_hl (kv_up h23 111 31 ((h23 111 31) + 1)) (fun h24 =>
          kv_b (f_X10_nextToken h24) (fun _ h25 =>
          some (1, h25))))))))
    else (J84 h)))
def f_ex : Nat → Nat → Int32 → kv_H → Option (Int32 × kv_H)
  | 0, _, _, _ => none
  | d + 1, t, a, h => if t = 0 then f_X10_eitherB (f_ex d) a h else if t = 1 then f_X10_bothB (f_ex d) a h else if t = 2 then f_X10_testB (f_ex d) a h else if t = 3 then f_X10_sumB (f_ex d) a h else if t = 4 then f_X10_termB (f_ex d) a h else f_X10_part0B (f_ex d) a h
def f_X10_either (d : Nat) (x1 : Int32) (h : kv_H) : Option (Int32 × kv_H) := f_ex d 0 x1 h
def f_X10_both (d : Nat) (x1 : Int32) (h : kv_H) : Option (Int32 × kv_H) := f_ex d 1 x1 h
def f_X10_test (d : Nat) (x1 : Int32) (h : kv_H) : Option (Int32 × kv_H) := f_ex d 2 x1 h
def f_X10_sum (d : Nat) (x1 : Int32) (h : kv_H) : Option (Int32 × kv_H) := f_ex d 3 x1 h
def f_X10_term (d : Nat) (x1 : Int32) (h : kv_H) : Option (Int32 × kv_H) := f_ex d 4 x1 h
def f_X10_part0 (d : Nat) (x1 : Int32) (h : kv_H) : Option (Int32 × kv_H) := f_ex d 5 x1 h
set_option maxRecDepth 20000 in
theorem s_f_X10_eitherB_L10 (d : Nat) (rc : Nat → Int32 → kv_H → Option (Int32 × kv_H)) (hr_X10_either : ∀ (x1 : Int32) (h : kv_H), kv_M kv_i (kK_X10_either d) [.ref 111, .int x1] h (rc 0 x1 h)) (hr_X10_both : ∀ (x1 : Int32) (h : kv_H), kv_M kv_i (kK_X10_both d) [.ref 111, .int x1] h (rc 1 x1 h)) (hr_X10_test : ∀ (x1 : Int32) (h : kv_H), kv_M kv_i (kK_X10_test d) [.ref 111, .int x1] h (rc 2 x1 h)) (hr_X10_sum : ∀ (x1 : Int32) (h : kv_H), kv_M kv_i (kK_X10_sum d) [.ref 111, .int x1] h (rc 3 x1 h)) (hr_X10_term : ∀ (x1 : Int32) (h : kv_H), kv_M kv_i (kK_X10_term d) [.ref 111, .int x1] h (rc 4 x1 h)) (hr_X10_part0 : ∀ (x1 : Int32) (h : kv_H), kv_M kv_i (kK_X10_part0 d) [.ref 111, .int x1] h (rc 5 x1 h)) (c1 : Int32) : ∀ (n : Nat)  (h : kv_H) (C : kv_H → Option (Int32 × kv_H)), (∀  (h : kv_H), kv_S kv_i (kK_X10_either (d + 1)) 43 [none, none] [] h (C h)) → kv_S kv_i (kK_X10_either (d + 1)) 10 [some (.ref 111), some (.int c1)] [] h (f_X10_eitherB_L10 rc c1 n h C) := by
  intro n
  induction n with
  | zero => intros; exact kv_none
  | succ n ih =>
    intro h C hC
    unfold f_X10_eitherB_L10
    refine kr_aload0 (d_X10_either_10 _) ?_
    refine kr_const (v := 124) (d_X10_either_11 _) ?_
    refine kr_iv_i (As := [.int 124]) (d_X10_either_13 _) cl_X10_284 (m_X10_isSign 124 h) sh_111 (kv_dl (Nat.le_of_ble_eq_true rfl)) rfl (Nat.le_of_ble_eq_true rfl) (fun r4 h3 => ?_)
    refine kr_if_eq (d_X10_either_16 _) ?_ ?_
    · refine kr_kill0 ?_
      refine kr_kill1 ?_
      exact hC h3
    · refine kr_aload0 (d_X10_either_19 _) ?_
      refine kr_iv_u (As := []) (d_X10_either_20 _) cl_X10_287 (m_X10_nextToken h3) sh_111 (kv_dl (Nat.le_of_ble_eq_true rfl)) rfl (Nat.le_of_ble_eq_true rfl) (fun h5 => ?_)
      refine kr_aload0 (d_X10_either_23 _) ?_
      refine kr_iload1 (d_X10_either_24 _) ?_
      refine kr_iv_i (As := [.int c1]) (d_X10_either_25 _) (cl_X10_281 _) (hr_X10_both c1 h5) sh_111 kv_dr rfl (Nat.le_of_ble_eq_true rfl) (fun r7 h6 => ?_)
      refine kr_if_ne (d_X10_either_28 _) ?_ ?_
      · refine kr_aload0 (d_X10_either_33 _) ?_
        refine kr_const (v := 2) (d_X10_either_34 _) ?_
        refine kr_const (v := 124) (d_X10_either_35 _) ?_
        refine kr_iv_u (As := [.int 2, .int 124]) (d_X10_either_37 _) cl_X10_290 (m_X10_step 2 124 h6) sh_111 (kv_dl (Nat.le_of_ble_eq_true rfl)) rfl (Nat.le_of_ble_eq_true rfl) (fun h8 => ?_)
        refine kr_goto (d_X10_either_40 _) ?_
        exact ih h8 C hC
      · refine kr_const (v := 0) (d_X10_either_31 _) ?_
        exact kr_zreturnK (by decide) (d_X10_either_32 _) rfl

set_option maxRecDepth 20000 in
theorem m_X10_eitherB (d : Nat) (rc : Nat → Int32 → kv_H → Option (Int32 × kv_H)) (hr_X10_either : ∀ (x1 : Int32) (h : kv_H), kv_M kv_i (kK_X10_either d) [.ref 111, .int x1] h (rc 0 x1 h)) (hr_X10_both : ∀ (x1 : Int32) (h : kv_H), kv_M kv_i (kK_X10_both d) [.ref 111, .int x1] h (rc 1 x1 h)) (hr_X10_test : ∀ (x1 : Int32) (h : kv_H), kv_M kv_i (kK_X10_test d) [.ref 111, .int x1] h (rc 2 x1 h)) (hr_X10_sum : ∀ (x1 : Int32) (h : kv_H), kv_M kv_i (kK_X10_sum d) [.ref 111, .int x1] h (rc 3 x1 h)) (hr_X10_term : ∀ (x1 : Int32) (h : kv_H), kv_M kv_i (kK_X10_term d) [.ref 111, .int x1] h (rc 4 x1 h)) (hr_X10_part0 : ∀ (x1 : Int32) (h : kv_H), kv_M kv_i (kK_X10_part0 d) [.ref 111, .int x1] h (rc 5 x1 h)) (x1 : Int32) (h : kv_H) : kv_M kv_i (kK_X10_either (d + 1)) [.ref 111, .int x1] h (f_X10_eitherB rc x1 h) := by
  refine kv_met (ls := [some (.ref 111), some (.int x1)]) (show plainName RX10 = true by decide +kernel) (fun _ => rfl) (fun _ => Nat.le_of_ble_eq_true rfl) ?_
  unfold f_X10_eitherB
  refine kr_aload0 (d_X10_either_0 _) ?_
  refine kr_iload1 (d_X10_either_1 _) ?_
  refine kr_iv_i (As := [.int x1]) (d_X10_either_2 _) (cl_X10_281 _) (hr_X10_both x1 h) sh_111 kv_dr rfl (Nat.le_of_ble_eq_true rfl) (fun r2 h1 => ?_)
  refine kr_if_ne (d_X10_either_5 _) ?_ ?_
  · refine s_f_X10_eitherB_L10 d rc hr_X10_either hr_X10_both hr_X10_test hr_X10_sum hr_X10_term hr_X10_part0 x1 kv_fu  h1 _ (fun  h9 => ?_)
    refine kr_const (v := 1) (d_X10_either_43 _) ?_
    exact kr_zreturnK (by decide) (d_X10_either_44 _) rfl
  · refine kr_const (v := 0) (d_X10_either_8 _) ?_
    exact kr_zreturnK (by decide) (d_X10_either_9 _) rfl

set_option maxRecDepth 20000 in
theorem s_f_X10_bothB_L10 (d : Nat) (rc : Nat → Int32 → kv_H → Option (Int32 × kv_H)) (hr_X10_either : ∀ (x1 : Int32) (h : kv_H), kv_M kv_i (kK_X10_either d) [.ref 111, .int x1] h (rc 0 x1 h)) (hr_X10_both : ∀ (x1 : Int32) (h : kv_H), kv_M kv_i (kK_X10_both d) [.ref 111, .int x1] h (rc 1 x1 h)) (hr_X10_test : ∀ (x1 : Int32) (h : kv_H), kv_M kv_i (kK_X10_test d) [.ref 111, .int x1] h (rc 2 x1 h)) (hr_X10_sum : ∀ (x1 : Int32) (h : kv_H), kv_M kv_i (kK_X10_sum d) [.ref 111, .int x1] h (rc 3 x1 h)) (hr_X10_term : ∀ (x1 : Int32) (h : kv_H), kv_M kv_i (kK_X10_term d) [.ref 111, .int x1] h (rc 4 x1 h)) (hr_X10_part0 : ∀ (x1 : Int32) (h : kv_H), kv_M kv_i (kK_X10_part0 d) [.ref 111, .int x1] h (rc 5 x1 h)) (c1 : Int32) : ∀ (n : Nat)  (h : kv_H) (C : kv_H → Option (Int32 × kv_H)), (∀  (h : kv_H), kv_S kv_i (kK_X10_both (d + 1)) 43 [none, none] [] h (C h)) → kv_S kv_i (kK_X10_both (d + 1)) 10 [some (.ref 111), some (.int c1)] [] h (f_X10_bothB_L10 rc c1 n h C) := by
  intro n
  induction n with
  | zero => intros; exact kv_none
  | succ n ih =>
    intro h C hC
    unfold f_X10_bothB_L10
    refine kr_aload0 (d_X10_both_10 _) ?_
    refine kr_const (v := 38) (d_X10_both_11 _) ?_
    refine kr_iv_i (As := [.int 38]) (d_X10_both_13 _) cl_X10_284 (m_X10_isSign 38 h) sh_111 (kv_dl (Nat.le_of_ble_eq_true rfl)) rfl (Nat.le_of_ble_eq_true rfl) (fun r4 h3 => ?_)
    refine kr_if_eq (d_X10_both_16 _) ?_ ?_
    · refine kr_kill0 ?_
      refine kr_kill1 ?_
      exact hC h3
    · refine kr_aload0 (d_X10_both_19 _) ?_
      refine kr_iv_u (As := []) (d_X10_both_20 _) cl_X10_287 (m_X10_nextToken h3) sh_111 (kv_dl (Nat.le_of_ble_eq_true rfl)) rfl (Nat.le_of_ble_eq_true rfl) (fun h5 => ?_)
      refine kr_aload0 (d_X10_both_23 _) ?_
      refine kr_iload1 (d_X10_both_24 _) ?_
      refine kr_iv_i (As := [.int c1]) (d_X10_both_25 _) (cl_X10_293 _) (hr_X10_test c1 h5) sh_111 kv_dr rfl (Nat.le_of_ble_eq_true rfl) (fun r7 h6 => ?_)
      refine kr_if_ne (d_X10_both_28 _) ?_ ?_
      · refine kr_aload0 (d_X10_both_33 _) ?_
        refine kr_const (v := 2) (d_X10_both_34 _) ?_
        refine kr_const (v := 38) (d_X10_both_35 _) ?_
        refine kr_iv_u (As := [.int 2, .int 38]) (d_X10_both_37 _) cl_X10_290 (m_X10_step 2 38 h6) sh_111 (kv_dl (Nat.le_of_ble_eq_true rfl)) rfl (Nat.le_of_ble_eq_true rfl) (fun h8 => ?_)
        refine kr_goto (d_X10_both_40 _) ?_
        exact ih h8 C hC
      · refine kr_const (v := 0) (d_X10_both_31 _) ?_
        exact kr_zreturnK (by decide) (d_X10_both_32 _) rfl

set_option maxRecDepth 20000 in
theorem m_X10_bothB (d : Nat) (rc : Nat → Int32 → kv_H → Option (Int32 × kv_H)) (hr_X10_either : ∀ (x1 : Int32) (h : kv_H), kv_M kv_i (kK_X10_either d) [.ref 111, .int x1] h (rc 0 x1 h)) (hr_X10_both : ∀ (x1 : Int32) (h : kv_H), kv_M kv_i (kK_X10_both d) [.ref 111, .int x1] h (rc 1 x1 h)) (hr_X10_test : ∀ (x1 : Int32) (h : kv_H), kv_M kv_i (kK_X10_test d) [.ref 111, .int x1] h (rc 2 x1 h)) (hr_X10_sum : ∀ (x1 : Int32) (h : kv_H), kv_M kv_i (kK_X10_sum d) [.ref 111, .int x1] h (rc 3 x1 h)) (hr_X10_term : ∀ (x1 : Int32) (h : kv_H), kv_M kv_i (kK_X10_term d) [.ref 111, .int x1] h (rc 4 x1 h)) (hr_X10_part0 : ∀ (x1 : Int32) (h : kv_H), kv_M kv_i (kK_X10_part0 d) [.ref 111, .int x1] h (rc 5 x1 h)) (x1 : Int32) (h : kv_H) : kv_M kv_i (kK_X10_both (d + 1)) [.ref 111, .int x1] h (f_X10_bothB rc x1 h) := by
  refine kv_met (ls := [some (.ref 111), some (.int x1)]) (show plainName RX10 = true by decide +kernel) (fun _ => rfl) (fun _ => Nat.le_of_ble_eq_true rfl) ?_
  unfold f_X10_bothB
  refine kr_aload0 (d_X10_both_0 _) ?_
  refine kr_iload1 (d_X10_both_1 _) ?_
  refine kr_iv_i (As := [.int x1]) (d_X10_both_2 _) (cl_X10_293 _) (hr_X10_test x1 h) sh_111 kv_dr rfl (Nat.le_of_ble_eq_true rfl) (fun r2 h1 => ?_)
  refine kr_if_ne (d_X10_both_5 _) ?_ ?_
  · refine s_f_X10_bothB_L10 d rc hr_X10_either hr_X10_both hr_X10_test hr_X10_sum hr_X10_term hr_X10_part0 x1 kv_fu  h1 _ (fun  h9 => ?_)
    refine kr_const (v := 1) (d_X10_both_43 _) ?_
    exact kr_zreturnK (by decide) (d_X10_both_44 _) rfl
  · refine kr_const (v := 0) (d_X10_both_8 _) ?_
    exact kr_zreturnK (by decide) (d_X10_both_9 _) rfl

set_option maxRecDepth 20000 in
theorem m_X10_testB (d : Nat) (rc : Nat → Int32 → kv_H → Option (Int32 × kv_H)) (hr_X10_either : ∀ (x1 : Int32) (h : kv_H), kv_M kv_i (kK_X10_either d) [.ref 111, .int x1] h (rc 0 x1 h)) (hr_X10_both : ∀ (x1 : Int32) (h : kv_H), kv_M kv_i (kK_X10_both d) [.ref 111, .int x1] h (rc 1 x1 h)) (hr_X10_test : ∀ (x1 : Int32) (h : kv_H), kv_M kv_i (kK_X10_test d) [.ref 111, .int x1] h (rc 2 x1 h)) (hr_X10_sum : ∀ (x1 : Int32) (h : kv_H), kv_M kv_i (kK_X10_sum d) [.ref 111, .int x1] h (rc 3 x1 h)) (hr_X10_term : ∀ (x1 : Int32) (h : kv_H), kv_M kv_i (kK_X10_term d) [.ref 111, .int x1] h (rc 4 x1 h)) (hr_X10_part0 : ∀ (x1 : Int32) (h : kv_H), kv_M kv_i (kK_X10_part0 d) [.ref 111, .int x1] h (rc 5 x1 h)) (x1 : Int32) (h : kv_H) : kv_M kv_i (kK_X10_test (d + 1)) [.ref 111, .int x1] h (f_X10_testB rc x1 h) := by
  refine kv_met (ls := [some (.ref 111), some (.int x1), none]) (show plainName RX10 = true by decide +kernel) (fun _ => rfl) (fun _ => Nat.le_of_ble_eq_true rfl) ?_
  unfold f_X10_testB
  refine kr_aload0 (d_X10_test_0 _) ?_
  refine kr_iload1 (d_X10_test_1 _) ?_
  refine kr_iv_i (As := [.int x1]) (d_X10_test_2 _) (cl_X10_296 _) (hr_X10_sum x1 h) sh_111 kv_dr rfl (Nat.le_of_ble_eq_true rfl) (fun r2 h1 => ?_)
  refine kr_if_ne (d_X10_test_5 _) ?_ ?_
  · refine kr_aload0 (d_X10_test_10 _) ?_
    refine kr_const (v := 60) (d_X10_test_11 _) ?_
    refine kr_iv_i (As := [.int 60]) (d_X10_test_13 _) cl_X10_284 (m_X10_isSign 60 h1) sh_111 (kv_dl (Nat.le_of_ble_eq_true rfl)) rfl (Nat.le_of_ble_eq_true rfl) (fun r4 h3 => ?_)
    refine kr_jn (P := fun J37 =>  ∀ (h5 : kv_H), kv_S kv_i (kK_X10_test (d + 1)) 37 [some (.ref 111), some (.int x1), none] [] h5 (J37  h5)) (fun  h5 => ?_) (fun J37 hJ37 => ?_)
    · refine kr_aload0 (d_X10_test_37 _) ?_
      refine kr_getI (d_X10_test_38 _) fl_X10_258 sh_111 rfl ?_
      refine kr_vl (fun e6 => ?_)
      refine kr_istore2 (d_X10_test_41 _) (Nat.le_of_ble_eq_true rfl) kv_c1i ?_
      refine kr_aload0 (d_X10_test_42 _) ?_
      refine kr_iv_u (As := []) (d_X10_test_43 _) cl_X10_287 (m_X10_nextToken h5) sh_111 (kv_dl (Nat.le_of_ble_eq_true rfl)) rfl (Nat.le_of_ble_eq_true rfl) (fun h7 => ?_)
      refine kr_aload0 (d_X10_test_46 _) ?_
      refine kr_iload1 (d_X10_test_47 _) ?_
      refine kr_iv_i (As := [.int x1]) (d_X10_test_48 _) (cl_X10_296 _) (hr_X10_sum x1 h7) sh_111 kv_dr rfl (Nat.le_of_ble_eq_true rfl) (fun r9 h8 => ?_)
      refine kr_if_ne (d_X10_test_51 _) ?_ ?_
      · refine kr_aload0 (d_X10_test_56 _) ?_
        refine kr_const (v := 2) (d_X10_test_57 _) ?_
        refine kr_iload2 (d_X10_test_58 _) ?_
        refine kr_iv_u (As := [.int 2, .int e6]) (d_X10_test_59 _) cl_X10_290 (m_X10_step 2 e6 h8) sh_111 (kv_dl (Nat.le_of_ble_eq_true rfl)) rfl (Nat.le_of_ble_eq_true rfl) (fun h10 => ?_)
        refine kr_const (v := 1) (d_X10_test_62 _) ?_
        exact kr_zreturnK (by decide) (d_X10_test_63 _) rfl
      · refine kr_const (v := 0) (d_X10_test_54 _) ?_
        exact kr_zreturnK (by decide) (d_X10_test_55 _) rfl
    refine kr_if_ne (d_X10_test_16 _) ?_ ?_
    · exact hJ37 h3
    · refine kr_aload0 (d_X10_test_19 _) ?_
      refine kr_const (v := 61) (d_X10_test_20 _) ?_
      refine kr_iv_i (As := [.int 61]) (d_X10_test_22 _) cl_X10_284 (m_X10_isSign 61 h3) sh_111 (kv_dl (Nat.le_of_ble_eq_true rfl)) rfl (Nat.le_of_ble_eq_true rfl) (fun r12 h11 => ?_)
      refine kr_if_ne (d_X10_test_25 _) ?_ ?_
      · exact hJ37 h11
      · refine kr_aload0 (d_X10_test_28 _) ?_
        refine kr_const (v := 62) (d_X10_test_29 _) ?_
        refine kr_iv_i (As := [.int 62]) (d_X10_test_31 _) cl_X10_284 (m_X10_isSign 62 h11) sh_111 (kv_dl (Nat.le_of_ble_eq_true rfl)) rfl (Nat.le_of_ble_eq_true rfl) (fun r14 h13 => ?_)
        refine kr_if_eq (d_X10_test_34 _) ?_ ?_
        · refine kr_const (v := 1) (d_X10_test_62 _) ?_
          exact kr_zreturnK (by decide) (d_X10_test_63 _) rfl
        · exact hJ37 h13
  · refine kr_const (v := 0) (d_X10_test_8 _) ?_
    exact kr_zreturnK (by decide) (d_X10_test_9 _) rfl

set_option maxRecDepth 20000 in
theorem s_f_X10_sumB_L10 (d : Nat) (rc : Nat → Int32 → kv_H → Option (Int32 × kv_H)) (hr_X10_either : ∀ (x1 : Int32) (h : kv_H), kv_M kv_i (kK_X10_either d) [.ref 111, .int x1] h (rc 0 x1 h)) (hr_X10_both : ∀ (x1 : Int32) (h : kv_H), kv_M kv_i (kK_X10_both d) [.ref 111, .int x1] h (rc 1 x1 h)) (hr_X10_test : ∀ (x1 : Int32) (h : kv_H), kv_M kv_i (kK_X10_test d) [.ref 111, .int x1] h (rc 2 x1 h)) (hr_X10_sum : ∀ (x1 : Int32) (h : kv_H), kv_M kv_i (kK_X10_sum d) [.ref 111, .int x1] h (rc 3 x1 h)) (hr_X10_term : ∀ (x1 : Int32) (h : kv_H), kv_M kv_i (kK_X10_term d) [.ref 111, .int x1] h (rc 4 x1 h)) (hr_X10_part0 : ∀ (x1 : Int32) (h : kv_H), kv_M kv_i (kK_X10_part0 d) [.ref 111, .int x1] h (rc 5 x1 h)) (c1 : Int32) : ∀ (n : Nat)  (h : kv_H) (C : kv_H → Option (Int32 × kv_H)), (∀  (h : kv_H), kv_S kv_i (kK_X10_sum (d + 1)) 56 [none, none, none] [] h (C h)) → kv_S kv_i (kK_X10_sum (d + 1)) 10 [some (.ref 111), some (.int c1), none] [] h (f_X10_sumB_L10 rc c1 n h C) := by
  intro n
  induction n with
  | zero => intros; exact kv_none
  | succ n ih =>
    intro h C hC
    unfold f_X10_sumB_L10
    refine kr_aload0 (d_X10_sum_10 _) ?_
    refine kr_const (v := 43) (d_X10_sum_11 _) ?_
    refine kr_iv_i (As := [.int 43]) (d_X10_sum_13 _) cl_X10_284 (m_X10_isSign 43 h) sh_111 (kv_dl (Nat.le_of_ble_eq_true rfl)) rfl (Nat.le_of_ble_eq_true rfl) (fun r4 h3 => ?_)
    refine kr_jn (P := fun J28 =>  ∀ (h5 : kv_H), kv_S kv_i (kK_X10_sum (d + 1)) 28 [some (.ref 111), some (.int c1), none] [] h5 (J28  h5)) (fun  h5 => ?_) (fun J28 hJ28 => ?_)
    · refine kr_aload0 (d_X10_sum_28 _) ?_
      refine kr_getI (d_X10_sum_29 _) fl_X10_258 sh_111 rfl ?_
      refine kr_vl (fun e6 => ?_)
      refine kr_istore2 (d_X10_sum_32 _) (Nat.le_of_ble_eq_true rfl) kv_c1i ?_
      refine kr_aload0 (d_X10_sum_33 _) ?_
      refine kr_iv_u (As := []) (d_X10_sum_34 _) cl_X10_287 (m_X10_nextToken h5) sh_111 (kv_dl (Nat.le_of_ble_eq_true rfl)) rfl (Nat.le_of_ble_eq_true rfl) (fun h7 => ?_)
      refine kr_aload0 (d_X10_sum_37 _) ?_
      refine kr_iload1 (d_X10_sum_38 _) ?_
      refine kr_iv_i (As := [.int c1]) (d_X10_sum_39 _) (cl_X10_299 _) (hr_X10_term c1 h7) sh_111 kv_dr rfl (Nat.le_of_ble_eq_true rfl) (fun r9 h8 => ?_)
      refine kr_if_ne (d_X10_sum_42 _) ?_ ?_
      · refine kr_aload0 (d_X10_sum_47 _) ?_
        refine kr_const (v := 2) (d_X10_sum_48 _) ?_
        refine kr_iload2 (d_X10_sum_49 _) ?_
        refine kr_iv_u (As := [.int 2, .int e6]) (d_X10_sum_50 _) cl_X10_290 (m_X10_step 2 e6 h8) sh_111 (kv_dl (Nat.le_of_ble_eq_true rfl)) rfl (Nat.le_of_ble_eq_true rfl) (fun h10 => ?_)
        refine kr_goto (d_X10_sum_53 _) ?_
        refine kr_kill2 ?_
        exact ih h10 C hC
      · refine kr_const (v := 0) (d_X10_sum_45 _) ?_
        exact kr_zreturnK (by decide) (d_X10_sum_46 _) rfl
    refine kr_if_ne (d_X10_sum_16 _) ?_ ?_
    · exact hJ28 h3
    · refine kr_aload0 (d_X10_sum_19 _) ?_
      refine kr_const (v := 45) (d_X10_sum_20 _) ?_
      refine kr_iv_i (As := [.int 45]) (d_X10_sum_22 _) cl_X10_284 (m_X10_isSign 45 h3) sh_111 (kv_dl (Nat.le_of_ble_eq_true rfl)) rfl (Nat.le_of_ble_eq_true rfl) (fun r12 h11 => ?_)
      refine kr_if_eq (d_X10_sum_25 _) ?_ ?_
      · refine kr_kill0 ?_
        refine kr_kill1 ?_
        exact hC h11
      · exact hJ28 h11

set_option maxRecDepth 20000 in
theorem m_X10_sumB (d : Nat) (rc : Nat → Int32 → kv_H → Option (Int32 × kv_H)) (hr_X10_either : ∀ (x1 : Int32) (h : kv_H), kv_M kv_i (kK_X10_either d) [.ref 111, .int x1] h (rc 0 x1 h)) (hr_X10_both : ∀ (x1 : Int32) (h : kv_H), kv_M kv_i (kK_X10_both d) [.ref 111, .int x1] h (rc 1 x1 h)) (hr_X10_test : ∀ (x1 : Int32) (h : kv_H), kv_M kv_i (kK_X10_test d) [.ref 111, .int x1] h (rc 2 x1 h)) (hr_X10_sum : ∀ (x1 : Int32) (h : kv_H), kv_M kv_i (kK_X10_sum d) [.ref 111, .int x1] h (rc 3 x1 h)) (hr_X10_term : ∀ (x1 : Int32) (h : kv_H), kv_M kv_i (kK_X10_term d) [.ref 111, .int x1] h (rc 4 x1 h)) (hr_X10_part0 : ∀ (x1 : Int32) (h : kv_H), kv_M kv_i (kK_X10_part0 d) [.ref 111, .int x1] h (rc 5 x1 h)) (x1 : Int32) (h : kv_H) : kv_M kv_i (kK_X10_sum (d + 1)) [.ref 111, .int x1] h (f_X10_sumB rc x1 h) := by
  refine kv_met (ls := [some (.ref 111), some (.int x1), none]) (show plainName RX10 = true by decide +kernel) (fun _ => rfl) (fun _ => Nat.le_of_ble_eq_true rfl) ?_
  unfold f_X10_sumB
  refine kr_aload0 (d_X10_sum_0 _) ?_
  refine kr_iload1 (d_X10_sum_1 _) ?_
  refine kr_iv_i (As := [.int x1]) (d_X10_sum_2 _) (cl_X10_299 _) (hr_X10_term x1 h) sh_111 kv_dr rfl (Nat.le_of_ble_eq_true rfl) (fun r2 h1 => ?_)
  refine kr_if_ne (d_X10_sum_5 _) ?_ ?_
  · refine s_f_X10_sumB_L10 d rc hr_X10_either hr_X10_both hr_X10_test hr_X10_sum hr_X10_term hr_X10_part0 x1 kv_fu  h1 _ (fun  h13 => ?_)
    refine kr_const (v := 1) (d_X10_sum_56 _) ?_
    exact kr_zreturnK (by decide) (d_X10_sum_57 _) rfl
  · refine kr_const (v := 0) (d_X10_sum_8 _) ?_
    exact kr_zreturnK (by decide) (d_X10_sum_9 _) rfl

set_option maxRecDepth 20000 in
theorem s_f_X10_termB_L10 (d : Nat) (rc : Nat → Int32 → kv_H → Option (Int32 × kv_H)) (hr_X10_either : ∀ (x1 : Int32) (h : kv_H), kv_M kv_i (kK_X10_either d) [.ref 111, .int x1] h (rc 0 x1 h)) (hr_X10_both : ∀ (x1 : Int32) (h : kv_H), kv_M kv_i (kK_X10_both d) [.ref 111, .int x1] h (rc 1 x1 h)) (hr_X10_test : ∀ (x1 : Int32) (h : kv_H), kv_M kv_i (kK_X10_test d) [.ref 111, .int x1] h (rc 2 x1 h)) (hr_X10_sum : ∀ (x1 : Int32) (h : kv_H), kv_M kv_i (kK_X10_sum d) [.ref 111, .int x1] h (rc 3 x1 h)) (hr_X10_term : ∀ (x1 : Int32) (h : kv_H), kv_M kv_i (kK_X10_term d) [.ref 111, .int x1] h (rc 4 x1 h)) (hr_X10_part0 : ∀ (x1 : Int32) (h : kv_H), kv_M kv_i (kK_X10_part0 d) [.ref 111, .int x1] h (rc 5 x1 h)) (c1 : Int32) : ∀ (n : Nat)  (h : kv_H) (C : kv_H → Option (Int32 × kv_H)), (∀  (h : kv_H), kv_S kv_i (kK_X10_term (d + 1)) 56 [none, none, none] [] h (C h)) → kv_S kv_i (kK_X10_term (d + 1)) 10 [some (.ref 111), some (.int c1), none] [] h (f_X10_termB_L10 rc c1 n h C) := by
  intro n
  induction n with
  | zero => intros; exact kv_none
  | succ n ih =>
    intro h C hC
    unfold f_X10_termB_L10
    refine kr_aload0 (d_X10_term_10 _) ?_
    refine kr_const (v := 42) (d_X10_term_11 _) ?_
    refine kr_iv_i (As := [.int 42]) (d_X10_term_13 _) cl_X10_284 (m_X10_isSign 42 h) sh_111 (kv_dl (Nat.le_of_ble_eq_true rfl)) rfl (Nat.le_of_ble_eq_true rfl) (fun r4 h3 => ?_)
    refine kr_jn (P := fun J28 =>  ∀ (h5 : kv_H), kv_S kv_i (kK_X10_term (d + 1)) 28 [some (.ref 111), some (.int c1), none] [] h5 (J28  h5)) (fun  h5 => ?_) (fun J28 hJ28 => ?_)
    · refine kr_aload0 (d_X10_term_28 _) ?_
      refine kr_getI (d_X10_term_29 _) fl_X10_258 sh_111 rfl ?_
      refine kr_vl (fun e6 => ?_)
      refine kr_istore2 (d_X10_term_32 _) (Nat.le_of_ble_eq_true rfl) kv_c1i ?_
      refine kr_aload0 (d_X10_term_33 _) ?_
      refine kr_iv_u (As := []) (d_X10_term_34 _) cl_X10_287 (m_X10_nextToken h5) sh_111 (kv_dl (Nat.le_of_ble_eq_true rfl)) rfl (Nat.le_of_ble_eq_true rfl) (fun h7 => ?_)
      refine kr_aload0 (d_X10_term_37 _) ?_
      refine kr_iload1 (d_X10_term_38 _) ?_
      refine kr_iv_i (As := [.int c1]) (d_X10_term_39 _) (cl_X10_302 _) (hr_X10_part0 c1 h7) sh_111 kv_dr rfl (Nat.le_of_ble_eq_true rfl) (fun r9 h8 => ?_)
      refine kr_if_ne (d_X10_term_42 _) ?_ ?_
      · refine kr_aload0 (d_X10_term_47 _) ?_
        refine kr_const (v := 2) (d_X10_term_48 _) ?_
        refine kr_iload2 (d_X10_term_49 _) ?_
        refine kr_iv_u (As := [.int 2, .int e6]) (d_X10_term_50 _) cl_X10_290 (m_X10_step 2 e6 h8) sh_111 (kv_dl (Nat.le_of_ble_eq_true rfl)) rfl (Nat.le_of_ble_eq_true rfl) (fun h10 => ?_)
        refine kr_goto (d_X10_term_53 _) ?_
        refine kr_kill2 ?_
        exact ih h10 C hC
      · refine kr_const (v := 0) (d_X10_term_45 _) ?_
        exact kr_zreturnK (by decide) (d_X10_term_46 _) rfl
    refine kr_if_ne (d_X10_term_16 _) ?_ ?_
    · exact hJ28 h3
    · refine kr_aload0 (d_X10_term_19 _) ?_
      refine kr_const (v := 47) (d_X10_term_20 _) ?_
      refine kr_iv_i (As := [.int 47]) (d_X10_term_22 _) cl_X10_284 (m_X10_isSign 47 h3) sh_111 (kv_dl (Nat.le_of_ble_eq_true rfl)) rfl (Nat.le_of_ble_eq_true rfl) (fun r12 h11 => ?_)
      refine kr_if_eq (d_X10_term_25 _) ?_ ?_
      · refine kr_kill0 ?_
        refine kr_kill1 ?_
        exact hC h11
      · exact hJ28 h11

set_option maxRecDepth 20000 in
theorem m_X10_termB (d : Nat) (rc : Nat → Int32 → kv_H → Option (Int32 × kv_H)) (hr_X10_either : ∀ (x1 : Int32) (h : kv_H), kv_M kv_i (kK_X10_either d) [.ref 111, .int x1] h (rc 0 x1 h)) (hr_X10_both : ∀ (x1 : Int32) (h : kv_H), kv_M kv_i (kK_X10_both d) [.ref 111, .int x1] h (rc 1 x1 h)) (hr_X10_test : ∀ (x1 : Int32) (h : kv_H), kv_M kv_i (kK_X10_test d) [.ref 111, .int x1] h (rc 2 x1 h)) (hr_X10_sum : ∀ (x1 : Int32) (h : kv_H), kv_M kv_i (kK_X10_sum d) [.ref 111, .int x1] h (rc 3 x1 h)) (hr_X10_term : ∀ (x1 : Int32) (h : kv_H), kv_M kv_i (kK_X10_term d) [.ref 111, .int x1] h (rc 4 x1 h)) (hr_X10_part0 : ∀ (x1 : Int32) (h : kv_H), kv_M kv_i (kK_X10_part0 d) [.ref 111, .int x1] h (rc 5 x1 h)) (x1 : Int32) (h : kv_H) : kv_M kv_i (kK_X10_term (d + 1)) [.ref 111, .int x1] h (f_X10_termB rc x1 h) := by
  refine kv_met (ls := [some (.ref 111), some (.int x1), none]) (show plainName RX10 = true by decide +kernel) (fun _ => rfl) (fun _ => Nat.le_of_ble_eq_true rfl) ?_
  unfold f_X10_termB
  refine kr_aload0 (d_X10_term_0 _) ?_
  refine kr_iload1 (d_X10_term_1 _) ?_
  refine kr_iv_i (As := [.int x1]) (d_X10_term_2 _) (cl_X10_302 _) (hr_X10_part0 x1 h) sh_111 kv_dr rfl (Nat.le_of_ble_eq_true rfl) (fun r2 h1 => ?_)
  refine kr_if_ne (d_X10_term_5 _) ?_ ?_
  · refine s_f_X10_termB_L10 d rc hr_X10_either hr_X10_both hr_X10_test hr_X10_sum hr_X10_term hr_X10_part0 x1 kv_fu  h1 _ (fun  h13 => ?_)
    refine kr_const (v := 1) (d_X10_term_56 _) ?_
    exact kr_zreturnK (by decide) (d_X10_term_57 _) rfl
  · refine kr_const (v := 0) (d_X10_term_8 _) ?_
    exact kr_zreturnK (by decide) (d_X10_term_9 _) rfl

set_option maxRecDepth 20000 in
theorem m_X10_part0B (d : Nat) (rc : Nat → Int32 → kv_H → Option (Int32 × kv_H)) (hr_X10_either : ∀ (x1 : Int32) (h : kv_H), kv_M kv_i (kK_X10_either d) [.ref 111, .int x1] h (rc 0 x1 h)) (hr_X10_both : ∀ (x1 : Int32) (h : kv_H), kv_M kv_i (kK_X10_both d) [.ref 111, .int x1] h (rc 1 x1 h)) (hr_X10_test : ∀ (x1 : Int32) (h : kv_H), kv_M kv_i (kK_X10_test d) [.ref 111, .int x1] h (rc 2 x1 h)) (hr_X10_sum : ∀ (x1 : Int32) (h : kv_H), kv_M kv_i (kK_X10_sum d) [.ref 111, .int x1] h (rc 3 x1 h)) (hr_X10_term : ∀ (x1 : Int32) (h : kv_H), kv_M kv_i (kK_X10_term d) [.ref 111, .int x1] h (rc 4 x1 h)) (hr_X10_part0 : ∀ (x1 : Int32) (h : kv_H), kv_M kv_i (kK_X10_part0 d) [.ref 111, .int x1] h (rc 5 x1 h)) (x1 : Int32) (h : kv_H) : kv_M kv_i (kK_X10_part0 (d + 1)) [.ref 111, .int x1] h (f_X10_part0B rc x1 h) := by
  refine kv_met (ls := [some (.ref 111), some (.int x1)]) (show plainName RX10 = true by decide +kernel) (fun _ => rfl) (fun _ => Nat.le_of_ble_eq_true rfl) ?_
  unfold f_X10_part0B
  refine kr_aload0 (d_X10_part0_0 _) ?_
  refine kr_getI (d_X10_part0_1 _) fl_X10_249 sh_111 rfl ?_
  refine kr_const (v := 2) (d_X10_part0_4 _) ?_
  refine kr_icmp_ne (d_X10_part0_5 _) ?_ ?_
  · refine kr_aload0 (d_X10_part0_33 _) ?_
    refine kr_getI (d_X10_part0_34 _) fl_X10_249 sh_111 rfl ?_
    refine kr_const (v := 1) (d_X10_part0_37 _) ?_
    refine kr_jn (P := fun J84 =>  ∀ (h1 : kv_H), kv_S kv_i (kK_X10_part0 (d + 1)) 84 [some (.ref 111), some (.int x1)] [] h1 (J84  h1)) (fun  h1 => ?_) (fun J84 hJ84 => ?_)
    · refine kr_aload0 (d_X10_part0_84 _) ?_
      refine kr_const (v := 33) (d_X10_part0_85 _) ?_
      refine kr_iv_i (As := [.int 33]) (d_X10_part0_87 _) cl_X10_284 (m_X10_isSign 33 h1) sh_111 (kv_dl (Nat.le_of_ble_eq_true rfl)) rfl (Nat.le_of_ble_eq_true rfl) (fun r3 h2 => ?_)
      refine kr_jn (P := fun J145 =>  ∀ (h4 : kv_H), kv_S kv_i (kK_X10_part0 (d + 1)) 145 [some (.ref 111), some (.int x1)] [] h4 (J145  h4)) (fun  h4 => ?_) (fun J145 hJ145 => ?_)
      · refine kr_aload0 (d_X10_part0_145 _) ?_
        refine kr_const (v := 40) (d_X10_part0_146 _) ?_
        refine kr_iv_i (As := [.int 40]) (d_X10_part0_148 _) cl_X10_284 (m_X10_isSign 40 h4) sh_111 (kv_dl (Nat.le_of_ble_eq_true rfl)) rfl (Nat.le_of_ble_eq_true rfl) (fun r6 h5 => ?_)
        refine kr_if_eq (d_X10_part0_151 _) ?_ ?_
        · refine kr_const (v := 0) (d_X10_part0_163 _) ?_
          exact kr_zreturnK (by decide) (d_X10_part0_164 _) rfl
        · refine kr_aload0 (d_X10_part0_154 _) ?_
          refine kr_getI (d_X10_part0_155 _) fl_X10_314 sh_111 rfl ?_
          refine kr_const (v := 8) (d_X10_part0_158 _) ?_
          refine kr_icmp_ne (d_X10_part0_160 _) ?_ ?_
          · refine kr_aload0 (d_X10_part0_165 _) ?_
            refine kr_dup (d_X10_part0_166 _) rfl ?_
            refine kr_getI (d_X10_part0_167 _) fl_X10_314 sh_111 rfl ?_
            refine kr_const (v := 1) (d_X10_part0_170 _) ?_
            refine kr_iadd (d_X10_part0_171 _) ?_
            refine kr_putI (d_X10_part0_172 _) fp_X10_314 sh_111 rfl rfl rfl ?_
            refine kr_hl (fun h7 => ?_)
            refine kr_aload0 (d_X10_part0_175 _) ?_
            refine kr_iv_u (As := []) (d_X10_part0_176 _) cl_X10_287 (m_X10_nextToken h7) sh_111 (kv_dl (Nat.le_of_ble_eq_true rfl)) rfl (Nat.le_of_ble_eq_true rfl) (fun h8 => ?_)
            refine kr_aload0 (d_X10_part0_179 _) ?_
            refine kr_iload1 (d_X10_part0_180 _) ?_
            refine kr_iv_i (As := [.int x1]) (d_X10_part0_181 _) (cl_X10_317 _) (hr_X10_either x1 h8) sh_111 kv_dr rfl (Nat.le_of_ble_eq_true rfl) (fun r10 h9 => ?_)
            refine kr_if_eq (d_X10_part0_184 _) ?_ ?_
            · refine kr_const (v := 0) (d_X10_part0_196 _) ?_
              exact kr_zreturnK (by decide) (d_X10_part0_197 _) rfl
            · refine kr_aload0 (d_X10_part0_187 _) ?_
              refine kr_const (v := 41) (d_X10_part0_188 _) ?_
              refine kr_iv_i (As := [.int 41]) (d_X10_part0_190 _) cl_X10_284 (m_X10_isSign 41 h9) sh_111 (kv_dl (Nat.le_of_ble_eq_true rfl)) rfl (Nat.le_of_ble_eq_true rfl) (fun r12 h11 => ?_)
              refine kr_if_ne (d_X10_part0_193 _) ?_ ?_
              · refine kr_aload0 (d_X10_part0_198 _) ?_
                refine kr_dup (d_X10_part0_199 _) rfl ?_
                refine kr_getI (d_X10_part0_200 _) fl_X10_314 sh_111 rfl ?_
                refine kr_const (v := 1) (d_X10_part0_203 _) ?_
                refine kr_isub (d_X10_part0_204 _) ?_
                refine kr_putI (d_X10_part0_205 _) fp_X10_314 sh_111 rfl rfl rfl ?_
                refine kr_hl (fun h13 => ?_)
                refine kr_aload0 (d_X10_part0_208 _) ?_
                refine kr_iv_u (As := []) (d_X10_part0_209 _) cl_X10_287 (m_X10_nextToken h13) sh_111 (kv_dl (Nat.le_of_ble_eq_true rfl)) rfl (Nat.le_of_ble_eq_true rfl) (fun h14 => ?_)
                refine kr_const (v := 1) (d_X10_part0_212 _) ?_
                exact kr_zreturnK (by decide) (d_X10_part0_213 _) rfl
              · refine kr_const (v := 0) (d_X10_part0_196 _) ?_
                exact kr_zreturnK (by decide) (d_X10_part0_197 _) rfl
          · refine kr_const (v := 0) (d_X10_part0_163 _) ?_
            exact kr_zreturnK (by decide) (d_X10_part0_164 _) rfl
      refine kr_if_eq (d_X10_part0_90 _) ?_ ?_
      · exact hJ145 h2
      · refine kr_aload0 (d_X10_part0_93 _) ?_
        refine kr_getI (d_X10_part0_94 _) fl_X10_311 sh_111 rfl ?_
        refine kr_const (v := 8) (d_X10_part0_97 _) ?_
        refine kr_icmp_ge (d_X10_part0_99 _) ?_ ?_
        · exact hJ145 h2
        · refine kr_aload0 (d_X10_part0_102 _) ?_
          refine kr_dup (d_X10_part0_103 _) rfl ?_
          refine kr_getI (d_X10_part0_104 _) fl_X10_311 sh_111 rfl ?_
          refine kr_const (v := 1) (d_X10_part0_107 _) ?_
          refine kr_iadd (d_X10_part0_108 _) ?_
          refine kr_putI (d_X10_part0_109 _) fp_X10_311 sh_111 rfl rfl rfl ?_
          refine kr_hl (fun h15 => ?_)
          refine kr_aload0 (d_X10_part0_112 _) ?_
          refine kr_iv_u (As := []) (d_X10_part0_113 _) cl_X10_287 (m_X10_nextToken h15) sh_111 (kv_dl (Nat.le_of_ble_eq_true rfl)) rfl (Nat.le_of_ble_eq_true rfl) (fun h16 => ?_)
          refine kr_aload0 (d_X10_part0_116 _) ?_
          refine kr_iload1 (d_X10_part0_117 _) ?_
          refine kr_iv_i (As := [.int x1]) (d_X10_part0_118 _) (cl_X10_302 _) (hr_X10_part0 x1 h16) sh_111 kv_dr rfl (Nat.le_of_ble_eq_true rfl) (fun r18 h17 => ?_)
          refine kr_if_ne (d_X10_part0_121 _) ?_ ?_
          · refine kr_aload0 (d_X10_part0_126 _) ?_
            refine kr_dup (d_X10_part0_127 _) rfl ?_
            refine kr_getI (d_X10_part0_128 _) fl_X10_311 sh_111 rfl ?_
            refine kr_const (v := 1) (d_X10_part0_131 _) ?_
            refine kr_isub (d_X10_part0_132 _) ?_
            refine kr_putI (d_X10_part0_133 _) fp_X10_311 sh_111 rfl rfl rfl ?_
            refine kr_hl (fun h19 => ?_)
            refine kr_aload0 (d_X10_part0_136 _) ?_
            refine kr_const (v := 2) (d_X10_part0_137 _) ?_
            refine kr_const (v := 33) (d_X10_part0_138 _) ?_
            refine kr_iv_u (As := [.int 2, .int 33]) (d_X10_part0_140 _) cl_X10_290 (m_X10_step 2 33 h19) sh_111 (kv_dl (Nat.le_of_ble_eq_true rfl)) rfl (Nat.le_of_ble_eq_true rfl) (fun h20 => ?_)
            refine kr_const (v := 1) (d_X10_part0_143 _) ?_
            exact kr_zreturnK (by decide) (d_X10_part0_144 _) rfl
          · refine kr_const (v := 0) (d_X10_part0_124 _) ?_
            exact kr_zreturnK (by decide) (d_X10_part0_125 _) rfl
    refine kr_icmp_ne (d_X10_part0_38 _) ?_ ?_
    · exact hJ84 h
    · refine kr_aload0 (d_X10_part0_41 _) ?_
      refine kr_getI (d_X10_part0_42 _) fl_X10_258 sh_111 rfl ?_
      refine kr_if_eq (d_X10_part0_45 _) ?_ ?_
      · exact hJ84 h
      · refine kr_iload1 (d_X10_part0_48 _) ?_
        refine kr_aload0 (d_X10_part0_49 _) ?_
        refine kr_getI (d_X10_part0_50 _) fl_X10_258 sh_111 rfl ?_
        refine kr_is_i (As := [.int x1, .int (h 111 26)]) (d_X10_part0_53 _) cl_X10_308 (m_X10_isName x1 (h 111 26) h) (kv_dl (Nat.le_of_ble_eq_true rfl)) rfl (Nat.le_of_ble_eq_true rfl) (fun r22 h21 => ?_)
        refine kr_if_eq (d_X10_part0_56 _) ?_ ?_
        · exact hJ84 h21
        · refine kr_aload0 (d_X10_part0_59 _) ?_
          refine kr_const (v := 1) (d_X10_part0_60 _) ?_
          refine kr_aload0 (d_X10_part0_61 _) ?_
          refine kr_getI (d_X10_part0_62 _) fl_X10_258 sh_111 rfl ?_
          refine kr_iv_u (As := [.int 1, .int (h21 111 26)]) (d_X10_part0_65 _) cl_X10_290 (m_X10_step 1 (h21 111 26) h21) sh_111 (kv_dl (Nat.le_of_ble_eq_true rfl)) rfl (Nat.le_of_ble_eq_true rfl) (fun h23 => ?_)
          refine kr_aload0 (d_X10_part0_68 _) ?_
          refine kr_dup (d_X10_part0_69 _) rfl ?_
          refine kr_getI (d_X10_part0_70 _) fl_X10_305 sh_111 rfl ?_
          refine kr_const (v := 1) (d_X10_part0_73 _) ?_
          refine kr_iadd (d_X10_part0_74 _) ?_
          refine kr_putI (d_X10_part0_75 _) fp_X10_305 sh_111 rfl rfl rfl ?_
          refine kr_hl (fun h24 => ?_)
          refine kr_aload0 (d_X10_part0_78 _) ?_
          refine kr_iv_u (As := []) (d_X10_part0_79 _) cl_X10_287 (m_X10_nextToken h24) sh_111 (kv_dl (Nat.le_of_ble_eq_true rfl)) rfl (Nat.le_of_ble_eq_true rfl) (fun h25 => ?_)
          refine kr_const (v := 1) (d_X10_part0_82 _) ?_
          exact kr_zreturnK (by decide) (d_X10_part0_83 _) rfl
  · refine kr_aload0 (d_X10_part0_8 _) ?_
    refine kr_const (v := 0) (d_X10_part0_9 _) ?_
    refine kr_aload0 (d_X10_part0_10 _) ?_
    refine kr_getI (d_X10_part0_11 _) fl_X10_264 sh_111 rfl ?_
    refine kr_iv_u (As := [.int 0, .int (h 111 25)]) (d_X10_part0_14 _) cl_X10_290 (m_X10_step 0 (h 111 25) h) sh_111 (kv_dl (Nat.le_of_ble_eq_true rfl)) rfl (Nat.le_of_ble_eq_true rfl) (fun h26 => ?_)
    refine kr_aload0 (d_X10_part0_17 _) ?_
    refine kr_dup (d_X10_part0_18 _) rfl ?_
    refine kr_getI (d_X10_part0_19 _) fl_X10_305 sh_111 rfl ?_
    refine kr_const (v := 1) (d_X10_part0_22 _) ?_
    refine kr_iadd (d_X10_part0_23 _) ?_
    refine kr_putI (d_X10_part0_24 _) fp_X10_305 sh_111 rfl rfl rfl ?_
    refine kr_hl (fun h27 => ?_)
    refine kr_aload0 (d_X10_part0_27 _) ?_
    refine kr_iv_u (As := []) (d_X10_part0_28 _) cl_X10_287 (m_X10_nextToken h27) sh_111 (kv_dl (Nat.le_of_ble_eq_true rfl)) rfl (Nat.le_of_ble_eq_true rfl) (fun h28 => ?_)
    refine kr_const (v := 1) (d_X10_part0_31 _) ?_
    exact kr_zreturnK (by decide) (d_X10_part0_32 _) rfl

theorem m_ex : ∀ (d : Nat), (∀ (x1 : Int32) (h : kv_H), kv_M kv_i (kK_X10_either d) [.ref 111, .int x1] h (f_ex d 0 x1 h)) ∧ (∀ (x1 : Int32) (h : kv_H), kv_M kv_i (kK_X10_both d) [.ref 111, .int x1] h (f_ex d 1 x1 h)) ∧ (∀ (x1 : Int32) (h : kv_H), kv_M kv_i (kK_X10_test d) [.ref 111, .int x1] h (f_ex d 2 x1 h)) ∧ (∀ (x1 : Int32) (h : kv_H), kv_M kv_i (kK_X10_sum d) [.ref 111, .int x1] h (f_ex d 3 x1 h)) ∧ (∀ (x1 : Int32) (h : kv_H), kv_M kv_i (kK_X10_term d) [.ref 111, .int x1] h (f_ex d 4 x1 h)) ∧ (∀ (x1 : Int32) (h : kv_H), kv_M kv_i (kK_X10_part0 d) [.ref 111, .int x1] h (f_ex d 5 x1 h))
  | 0 => ⟨fun _ _ _ _ _ _ q => (by cases q), fun _ _ _ _ _ _ q => (by cases q), fun _ _ _ _ _ _ q => (by cases q), fun _ _ _ _ _ _ q => (by cases q), fun _ _ _ _ _ _ q => (by cases q), fun _ _ _ _ _ _ q => (by cases q)⟩
  | d + 1 => ⟨fun x1 h => m_X10_eitherB d (f_ex d) (m_ex d).1 (m_ex d).2.1 (m_ex d).2.2.1 (m_ex d).2.2.2.1 (m_ex d).2.2.2.2.1 (m_ex d).2.2.2.2.2 x1 h, fun x1 h => m_X10_bothB d (f_ex d) (m_ex d).1 (m_ex d).2.1 (m_ex d).2.2.1 (m_ex d).2.2.2.1 (m_ex d).2.2.2.2.1 (m_ex d).2.2.2.2.2 x1 h, fun x1 h => m_X10_testB d (f_ex d) (m_ex d).1 (m_ex d).2.1 (m_ex d).2.2.1 (m_ex d).2.2.2.1 (m_ex d).2.2.2.2.1 (m_ex d).2.2.2.2.2 x1 h, fun x1 h => m_X10_sumB d (f_ex d) (m_ex d).1 (m_ex d).2.1 (m_ex d).2.2.1 (m_ex d).2.2.2.1 (m_ex d).2.2.2.2.1 (m_ex d).2.2.2.2.2 x1 h, fun x1 h => m_X10_termB d (f_ex d) (m_ex d).1 (m_ex d).2.1 (m_ex d).2.2.1 (m_ex d).2.2.2.1 (m_ex d).2.2.2.2.1 (m_ex d).2.2.2.2.2 x1 h, fun x1 h => m_X10_part0B d (f_ex d) (m_ex d).1 (m_ex d).2.1 (m_ex d).2.2.1 (m_ex d).2.2.2.1 (m_ex d).2.2.2.2.1 (m_ex d).2.2.2.2.2 x1 h⟩
theorem m_X10_either (d : Nat) (x1 : Int32) (h : kv_H) : kv_M kv_i (kK_X10_either d) [.ref 111, .int x1] h (f_X10_either d x1 h) := (m_ex d).1 x1 h
theorem m_X10_both (d : Nat) (x1 : Int32) (h : kv_H) : kv_M kv_i (kK_X10_both d) [.ref 111, .int x1] h (f_X10_both d x1 h) := (m_ex d).2.1 x1 h
theorem m_X10_test (d : Nat) (x1 : Int32) (h : kv_H) : kv_M kv_i (kK_X10_test d) [.ref 111, .int x1] h (f_X10_test d x1 h) := (m_ex d).2.2.1 x1 h
theorem m_X10_sum (d : Nat) (x1 : Int32) (h : kv_H) : kv_M kv_i (kK_X10_sum d) [.ref 111, .int x1] h (f_X10_sum d x1 h) := (m_ex d).2.2.2.1 x1 h
theorem m_X10_term (d : Nat) (x1 : Int32) (h : kv_H) : kv_M kv_i (kK_X10_term d) [.ref 111, .int x1] h (f_X10_term d x1 h) := (m_ex d).2.2.2.2.1 x1 h
theorem m_X10_part0 (d : Nat) (x1 : Int32) (h : kv_H) : kv_M kv_i (kK_X10_part0 d) [.ref 111, .int x1] h (f_X10_part0 d x1 h) := (m_ex d).2.2.2.2.2 x1 h
/-! X10_parse -/
def f_X10_parse (h : kv_H) : Option (Int32 × kv_H) :=
  kv_hl (kv_up h 111 23 0) (fun h1 =>
  kv_hl (kv_up h1 111 24 3) (fun h2 =>
  kv_hl (kv_up h2 111 27 0) (fun h3 =>
  kv_hl (kv_up h3 111 28 0) (fun h4 =>
  kv_hl (kv_up h4 111 29 0) (fun h5 =>
  kv_hl (kv_up h5 111 31 0) (fun h6 =>
  kv_jn (fun (y7 : Int32) (h8 : kv_H) =>
  kv_hl (kv_up h8 111 30 y7) (fun h9 =>
    kv_b (f_X10_nextToken h9) (fun _ h10 =>
    kv_b (f_X10_key h10) (fun r12 h11 =>
    kv_jn (fun (y13 : Int32) (h14 : kv_H) =>
    kv_jn (fun (x15 : Int32) (h16 : kv_H) =>
      kv_hl (kv_up h16 111 21 0) (fun h17 =>
        if x15 = 0 then (some ((-1), h17))
        else (some (r12, h17)))) (fun (J111 : Int32 → kv_H → Option (Int32 × kv_H)) =>
      if y13 = 0 then (J111 y13 h14)
      else (kv_b (f_X10_nextToken h14) (fun _ h18 =>
        kv_b (f_X10_either 100 r12 h18) (fun r20 h19 =>
        if r20 = 0 then (J111 0 h19)
        else (if (h19 111 24) = 0 then (J111 1 h19)
          else (J111 0 h19))))))) (fun (J81 : Int32 → kv_H → Option (Int32 × kv_H)) =>
    if r12 < 0 then (J81 0 h11)
    else (J81 1 h11)))))) (fun (J60 : Int32 → kv_H → Option (Int32 × kv_H)) =>
  if (14 : Int32) ≤ (h6 112 1) then (J60 2898 h6)
  else (kv_b (f_X10_textAt (h6 112 1) h6) (fun r22 h21 =>
    J60 (r22 + 4) h21)))))))))
set_option maxRecDepth 20000 in
theorem m_X10_parse (h : kv_H) : kv_M kv_i kK_X10_parse [.ref 111] h (f_X10_parse h) := by
  refine kv_met (ls := [some (.ref 111), none, none]) (show plainName RX10 = true by decide +kernel) (fun _ => rfl) (fun _ => Nat.le_of_ble_eq_true rfl) ?_
  unfold f_X10_parse
  refine kr_aload0 d_X10_parse_0 ?_
  refine kr_const (v := 0) d_X10_parse_1 ?_
  refine kr_putI d_X10_parse_2 fp_X10_246 sh_111 rfl rfl rfl ?_
  refine kr_hl (fun h1 => ?_)
  refine kr_aload0 d_X10_parse_5 ?_
  refine kr_const (v := 3) d_X10_parse_6 ?_
  refine kr_putI d_X10_parse_7 fp_X10_249 sh_111 rfl rfl rfl ?_
  refine kr_hl (fun h2 => ?_)
  refine kr_aload0 d_X10_parse_10 ?_
  refine kr_const (v := 0) d_X10_parse_11 ?_
  refine kr_putI d_X10_parse_12 fp_X10_314 sh_111 rfl rfl rfl ?_
  refine kr_hl (fun h3 => ?_)
  refine kr_aload0 d_X10_parse_15 ?_
  refine kr_const (v := 0) d_X10_parse_16 ?_
  refine kr_putI d_X10_parse_17 fp_X10_311 sh_111 rfl rfl rfl ?_
  refine kr_hl (fun h4 => ?_)
  refine kr_aload0 d_X10_parse_20 ?_
  refine kr_const (v := 0) d_X10_parse_21 ?_
  refine kr_putI d_X10_parse_22 fp_X10_278 sh_111 rfl rfl rfl ?_
  refine kr_hl (fun h5 => ?_)
  refine kr_aload0 d_X10_parse_25 ?_
  refine kr_const (v := 0) d_X10_parse_26 ?_
  refine kr_putI d_X10_parse_27 fp_X10_305 sh_111 rfl rfl rfl ?_
  refine kr_hl (fun h6 => ?_)
  refine kr_aload0 d_X10_parse_30 ?_
  refine kr_aload0 d_X10_parse_31 ?_
  refine kr_getR (q := 112) d_X10_parse_32 fl_X10_7 sh_111 rfl ?_
  refine kr_const (v := 1) d_X10_parse_35 ?_
  refine kr_ialoadC (j := 1) ⟨by decide, by decide, by decide⟩ d_X10_parse_36 sh_112 ?_
  refine kr_const (v := 14) d_X10_parse_37 ?_
  refine kr_jn (P := fun J60 => ∀ (y7 : Int32), ∀ (h8 : kv_H), kv_S kv_i kK_X10_parse 60 [some (.ref 111), none, none] [.int y7, .ref 111] h8 (J60 y7 h8)) (fun y7 h8 => ?_) (fun J60 hJ60 => ?_)
  · refine kr_putI d_X10_parse_60 fp_X10_275 sh_111 rfl rfl rfl ?_
    refine kr_hl (fun h9 => ?_)
    refine kr_aload0 d_X10_parse_63 ?_
    refine kr_iv_u (As := []) d_X10_parse_64 cl_X10_287 (m_X10_nextToken h9) sh_111 (Nat.le_of_ble_eq_true rfl) rfl (Nat.le_of_ble_eq_true rfl) (fun h10 => ?_)
    refine kr_aload0 d_X10_parse_67 ?_
    refine kr_iv_i (As := []) d_X10_parse_68 cl_X10_323 (m_X10_key h10) sh_111 (Nat.le_of_ble_eq_true rfl) rfl (Nat.le_of_ble_eq_true rfl) (fun r12 h11 => ?_)
    refine kr_istore1 d_X10_parse_71 (Nat.le_of_ble_eq_true rfl) kv_c1a ?_
    refine kr_iload1 d_X10_parse_72 ?_
    refine kr_jn (P := fun J81 => ∀ (y13 : Int32), ∀ (h14 : kv_H), kv_S kv_i kK_X10_parse 81 [some (.ref 111), some (.int r12), none] [.int y13] h14 (J81 y13 h14)) (fun y13 h14 => ?_) (fun J81 hJ81 => ?_)
    · refine kr_istore2 d_X10_parse_81 (Nat.le_of_ble_eq_true rfl) kv_c1i ?_
      refine kr_iload2 d_X10_parse_82 ?_
      refine kr_jn (P := fun J111 => ∀ (x15 : Int32), ∀ (h16 : kv_H), kv_S kv_i kK_X10_parse 111 [some (.ref 111), some (.int r12), some (.int x15)] [] h16 (J111 x15 h16)) (fun x15 h16 => ?_) (fun J111 hJ111 => ?_)
      · refine kr_aload0 d_X10_parse_111 ?_
        refine kr_const (v := 0) d_X10_parse_112 ?_
        refine kr_putI d_X10_parse_113 fp_X10_235 sh_111 rfl rfl rfl ?_
        refine kr_hl (fun h17 => ?_)
        refine kr_iload2 d_X10_parse_116 ?_
        refine kr_if_eq d_X10_parse_117 ?_ ?_
        · refine kr_const (v := (-1)) d_X10_parse_124 ?_
          exact kr_ireturn d_X10_parse_125 rfl
        · refine kr_iload1 d_X10_parse_120 ?_
          refine kr_goto d_X10_parse_121 ?_
          exact kr_ireturn d_X10_parse_125 rfl
      refine kr_if_eq d_X10_parse_83 ?_ ?_
      · exact hJ111 y13 h14
      · refine kr_aload0 d_X10_parse_86 ?_
        refine kr_iv_u (As := []) d_X10_parse_87 cl_X10_287 (m_X10_nextToken h14) sh_111 (Nat.le_of_ble_eq_true rfl) rfl (Nat.le_of_ble_eq_true rfl) (fun h18 => ?_)
        refine kr_aload0 d_X10_parse_90 ?_
        refine kr_iload1 d_X10_parse_91 ?_
        refine kr_iv_i (As := [.int r12]) d_X10_parse_92 (cl_X10_317 _) (m_X10_either 100 r12 h18) sh_111 (Nat.le_of_ble_eq_true rfl) rfl (Nat.le_of_ble_eq_true rfl) (fun r20 h19 => ?_)
        refine kr_if_eq d_X10_parse_95 ?_ ?_
        · refine kr_const (v := 0) d_X10_parse_109 ?_
          refine kr_istore2 d_X10_parse_110 (Nat.le_of_ble_eq_true rfl) kv_c1i ?_
          exact hJ111 0 h19
        · refine kr_aload0 d_X10_parse_98 ?_
          refine kr_getI d_X10_parse_99 fl_X10_249 sh_111 rfl ?_
          refine kr_if_ne d_X10_parse_102 ?_ ?_
          · refine kr_const (v := 0) d_X10_parse_109 ?_
            refine kr_istore2 d_X10_parse_110 (Nat.le_of_ble_eq_true rfl) kv_c1i ?_
            exact hJ111 0 h19
          · refine kr_const (v := 1) d_X10_parse_105 ?_
            refine kr_goto d_X10_parse_106 ?_
            refine kr_istore2 d_X10_parse_110 (Nat.le_of_ble_eq_true rfl) kv_c1i ?_
            exact hJ111 1 h19
    refine kr_if_lt d_X10_parse_73 ?_ ?_
    · refine kr_const (v := 0) d_X10_parse_80 ?_
      exact hJ81 0 h11
    · refine kr_const (v := 1) d_X10_parse_76 ?_
      refine kr_goto d_X10_parse_77 ?_
      exact hJ81 1 h11
  refine kr_icmp_ge d_X10_parse_39 ?_ ?_
  · refine kr_const (v := 2898) d_X10_parse_57 ?_
    exact hJ60 2898 h6
  · refine kr_aload0 d_X10_parse_42 ?_
    refine kr_aload0 d_X10_parse_43 ?_
    refine kr_getR (q := 112) d_X10_parse_44 fl_X10_7 sh_111 rfl ?_
    refine kr_const (v := 1) d_X10_parse_47 ?_
    refine kr_ialoadC (j := 1) ⟨by decide, by decide, by decide⟩ d_X10_parse_48 sh_112 ?_
    refine kr_iv_i (As := [.int (h6 112 1)]) d_X10_parse_49 cl_X10_320 (m_X10_textAt (h6 112 1) h6) sh_111 (Nat.le_of_ble_eq_true rfl) rfl (Nat.le_of_ble_eq_true rfl) (fun r22 h21 => ?_)
    refine kr_const (v := 4) d_X10_parse_52 ?_
    refine kr_iadd d_X10_parse_53 ?_
    refine kr_goto d_X10_parse_54 ?_
    exact hJ60 (r22 + 4) h21

/-! X10_text -/
def f_X10_text (h : kv_H) : Option (Int32 × kv_H) :=
  kv_b (f_X10_parse h) (fun r2 h1 =>
  if 0 ≤ r2 then (if (h1 112 1) = (14 : Int32) then (some ((-1000000003), h1))
    else (kv_b (f_X10_textAt (h1 112 1) h1) (fun r4 h3 =>
      kv_k (r4 + 0) 3098 (kv_hl (kv_up h3 112 (r4 + 0).toNatClampNeg r2) (fun h5 =>
      kv_k (r4 + 1) 3098 (kv_hl (kv_up h5 112 (r4 + 1).toNatClampNeg (h5 111 31)) (fun h6 =>
      kv_k (r4 + 2) 3098 (kv_hl (kv_up h6 112 (r4 + 2).toNatClampNeg (h6 111 29)) (fun h7 =>
      kv_hl (kv_up h7 112 1 ((h7 112 1) + 1)) (fun h8 =>
      some (((h8 112 1) - 1), h8)))))))))))
  else (some (((-100) - (h1 111 22)), h1)))
set_option maxRecDepth 20000 in
theorem m_X10_text (h : kv_H) : kv_M kv_i kK_X10_text [.ref 111] h (f_X10_text h) := by
  refine kv_met (ls := [some (.ref 111), none, none]) (show plainName RX10 = true by decide +kernel) (fun _ => rfl) (fun _ => Nat.le_of_ble_eq_true rfl) ?_
  unfold f_X10_text
  refine kr_aload0 d_X10_text_0 ?_
  refine kr_iv_i (As := []) d_X10_text_1 cl_X10_326 (m_X10_parse h) sh_111 (Nat.le_of_ble_eq_true rfl) rfl (Nat.le_of_ble_eq_true rfl) (fun r2 h1 => ?_)
  refine kr_istore1 d_X10_text_4 (Nat.le_of_ble_eq_true rfl) kv_c1a ?_
  refine kr_iload1 d_X10_text_5 ?_
  refine kr_if_ge d_X10_text_6 ?_ ?_
  · refine kr_aload0 d_X10_text_17 ?_
    refine kr_getR (q := 112) d_X10_text_18 fl_X10_7 sh_111 rfl ?_
    refine kr_const (v := 1) d_X10_text_21 ?_
    refine kr_ialoadC (j := 1) ⟨by decide, by decide, by decide⟩ d_X10_text_22 sh_112 ?_
    refine kr_const (v := 14) d_X10_text_23 ?_
    refine kr_icmp_ne d_X10_text_25 ?_ ?_
    · refine kr_aload0 d_X10_text_31 ?_
      refine kr_aload0 d_X10_text_32 ?_
      refine kr_getR (q := 112) d_X10_text_33 fl_X10_7 sh_111 rfl ?_
      refine kr_const (v := 1) d_X10_text_36 ?_
      refine kr_ialoadC (j := 1) ⟨by decide, by decide, by decide⟩ d_X10_text_37 sh_112 ?_
      refine kr_iv_i (As := [.int (h1 112 1)]) d_X10_text_38 cl_X10_320 (m_X10_textAt (h1 112 1) h1) sh_111 (Nat.le_of_ble_eq_true rfl) rfl (Nat.le_of_ble_eq_true rfl) (fun r4 h3 => ?_)
      refine kr_istore2 d_X10_text_41 (Nat.le_of_ble_eq_true rfl) kv_c1i ?_
      refine kr_aload0 d_X10_text_42 ?_
      refine kr_getR (q := 112) d_X10_text_43 fl_X10_7 sh_111 rfl ?_
      refine kr_iload2 d_X10_text_46 ?_
      refine kr_const (v := 0) d_X10_text_47 ?_
      refine kr_iadd d_X10_text_48 ?_
      refine kr_iload1 d_X10_text_49 ?_
      refine kr_iastore d_X10_text_50 sh_112 ?_
      refine kr_hl (fun h5 => ?_)
      refine kr_aload0 d_X10_text_51 ?_
      refine kr_getR (q := 112) d_X10_text_52 fl_X10_7 sh_111 rfl ?_
      refine kr_iload2 d_X10_text_55 ?_
      refine kr_const (v := 1) d_X10_text_56 ?_
      refine kr_iadd d_X10_text_57 ?_
      refine kr_aload0 d_X10_text_58 ?_
      refine kr_getI d_X10_text_59 fl_X10_305 sh_111 rfl ?_
      refine kr_iastore d_X10_text_62 sh_112 ?_
      refine kr_hl (fun h6 => ?_)
      refine kr_aload0 d_X10_text_63 ?_
      refine kr_getR (q := 112) d_X10_text_64 fl_X10_7 sh_111 rfl ?_
      refine kr_iload2 d_X10_text_67 ?_
      refine kr_const (v := 2) d_X10_text_68 ?_
      refine kr_iadd d_X10_text_69 ?_
      refine kr_aload0 d_X10_text_70 ?_
      refine kr_getI d_X10_text_71 fl_X10_278 sh_111 rfl ?_
      refine kr_iastore d_X10_text_74 sh_112 ?_
      refine kr_hl (fun h7 => ?_)
      refine kr_aload0 d_X10_text_75 ?_
      refine kr_getR (q := 112) d_X10_text_76 fl_X10_7 sh_111 rfl ?_
      refine kr_const (v := 1) d_X10_text_79 ?_
      refine kr_dup2 d_X10_text_80 rfl rfl ?_
      refine kr_ialoadC (j := 1) ⟨by decide, by decide, by decide⟩ d_X10_text_81 sh_112 ?_
      refine kr_const (v := 1) d_X10_text_82 ?_
      refine kr_iadd d_X10_text_83 ?_
      refine kr_iastoreC (j := 1) ⟨by decide, by decide, by decide⟩ d_X10_text_84 sh_112 ?_
      refine kr_hl (fun h8 => ?_)
      refine kr_aload0 d_X10_text_85 ?_
      refine kr_getR (q := 112) d_X10_text_86 fl_X10_7 sh_111 rfl ?_
      refine kr_const (v := 1) d_X10_text_89 ?_
      refine kr_ialoadC (j := 1) ⟨by decide, by decide, by decide⟩ d_X10_text_90 sh_112 ?_
      refine kr_const (v := 1) d_X10_text_91 ?_
      refine kr_isub d_X10_text_92 ?_
      exact kr_ireturn d_X10_text_93 rfl
    · refine kr_const (v := (-1000000003)) d_X10_text_28 ?_
      exact kr_ireturn d_X10_text_30 rfl
  · refine kr_const (v := (-100)) d_X10_text_9 ?_
    refine kr_aload0 d_X10_text_11 ?_
    refine kr_getI d_X10_text_12 fl_X10_252 sh_111 rfl ?_
    refine kr_isub d_X10_text_15 ?_
    exact kr_ireturn d_X10_text_16 rfl

/-! X10_textTold -/
def f_X10_textTold (x1 : Int32) (x2 : Int32) (h : kv_H) : Option (Int32 × kv_H) :=
  kv_b (f_X10_isText x1 h) (fun r2 h1 =>
  if r2 = 0 then (some ((-1000000001), h1))
  else (kv_b (f_X10_isIn (x2.toInt64) 0 1 h1) (fun r4 h3 =>
    if r4 = 0 then (some ((-1000000001), h3))
    else (kv_b (f_X10_textAt x1 h3) (fun r6 h5 =>
      kv_k (r6 + x2) 3098 (some ((h5 112 (r6 + x2).toNatClampNeg), h5)))))))
set_option maxRecDepth 20000 in
theorem m_X10_textTold (x1 : Int32) (x2 : Int32) (h : kv_H) : kv_M kv_i kK_X10_textTold [.ref 111, .int x1, .int x2] h (f_X10_textTold x1 x2 h) := by
  refine kv_met (ls := [some (.ref 111), some (.int x1), some (.int x2)]) (show plainName RX10 = true by decide +kernel) (fun _ => rfl) (fun _ => Nat.le_of_ble_eq_true rfl) ?_
  unfold f_X10_textTold
  refine kr_aload0 d_X10_textTold_0 ?_
  refine kr_iload1 d_X10_textTold_1 ?_
  refine kr_iv_i (As := [.int x1]) d_X10_textTold_2 cl_X10_329 (m_X10_isText x1 h) sh_111 (Nat.le_of_ble_eq_true rfl) rfl (Nat.le_of_ble_eq_true rfl) (fun r2 h1 => ?_)
  refine kr_if_eq d_X10_textTold_5 ?_ ?_
  · refine kr_const (v := (-1000000001)) d_X10_textTold_18 ?_
    exact kr_ireturn d_X10_textTold_20 rfl
  · refine kr_iload2 d_X10_textTold_8 ?_
    refine kr_i2l d_X10_textTold_9 ?_
    refine kr_constL (v := 0) d_X10_textTold_10 ?_
    refine kr_constL (v := 1) d_X10_textTold_11 ?_
    refine kr_is_i (As := [.long (x2.toInt64), .long 0, .long 1]) d_X10_textTold_12 cl_X10_83 (m_X10_isIn (x2.toInt64) 0 1 h1) (Nat.le_of_ble_eq_true rfl) rfl (Nat.le_of_ble_eq_true rfl) (fun r4 h3 => ?_)
    refine kr_if_ne d_X10_textTold_15 ?_ ?_
    · refine kr_aload0 d_X10_textTold_21 ?_
      refine kr_getR (q := 112) d_X10_textTold_22 fl_X10_7 sh_111 rfl ?_
      refine kr_aload0 d_X10_textTold_25 ?_
      refine kr_iload1 d_X10_textTold_26 ?_
      refine kr_iv_i (As := [.int x1]) d_X10_textTold_27 cl_X10_320 (m_X10_textAt x1 h3) sh_111 (Nat.le_of_ble_eq_true rfl) rfl (Nat.le_of_ble_eq_true rfl) (fun r6 h5 => ?_)
      refine kr_iload2 d_X10_textTold_30 ?_
      refine kr_iadd d_X10_textTold_31 ?_
      refine kr_iaload d_X10_textTold_32 sh_112 ?_
      exact kr_ireturn d_X10_textTold_33 rfl
    · refine kr_const (v := (-1000000001)) d_X10_textTold_18 ?_
      exact kr_ireturn d_X10_textTold_20 rfl

/-! X10_why -/
def f_X10_why (x1 : Int32) (h : kv_H) : Option (Int32 × kv_H) :=
  kv_b (f_X10_isIn (x1.toInt64) 0 2 h) (fun r2 h1 =>
  if r2 = 0 then (some ((-1000000001), h1))
  else (kv_b (f_X10_counts x1 h1) (fun r4 h3 =>
    kv_b (f_X10_orNone r4 h3) (fun r6 h5 =>
    some (r6, h5)))))
set_option maxRecDepth 20000 in
theorem m_X10_why (x1 : Int32) (h : kv_H) : kv_M kv_i kK_X10_why [.ref 111, .int x1] h (f_X10_why x1 h) := by
  refine kv_met (ls := [some (.ref 111), some (.int x1)]) (show plainName RX10 = true by decide +kernel) (fun _ => rfl) (fun _ => Nat.le_of_ble_eq_true rfl) ?_
  unfold f_X10_why
  refine kr_iload1 d_X10_why_0 ?_
  refine kr_i2l d_X10_why_1 ?_
  refine kr_constL (v := 0) d_X10_why_2 ?_
  refine kr_constL (v := 2) d_X10_why_3 ?_
  refine kr_is_i (As := [.long (x1.toInt64), .long 0, .long 2]) d_X10_why_6 cl_X10_83 (m_X10_isIn (x1.toInt64) 0 2 h) (Nat.le_of_ble_eq_true rfl) rfl (Nat.le_of_ble_eq_true rfl) (fun r2 h1 => ?_)
  refine kr_if_eq d_X10_why_9 ?_ ?_
  · refine kr_const (v := (-1000000001)) d_X10_why_23 ?_
    exact kr_ireturn d_X10_why_25 rfl
  · refine kr_aload0 d_X10_why_12 ?_
    refine kr_iload1 d_X10_why_13 ?_
    refine kr_iv_i (As := [.int x1]) d_X10_why_14 cl_X10_88 (m_X10_counts x1 h1) sh_111 (Nat.le_of_ble_eq_true rfl) rfl (Nat.le_of_ble_eq_true rfl) (fun r4 h3 => ?_)
    refine kr_is_i (As := [.int r4]) d_X10_why_17 cl_X10_126 (m_X10_orNone r4 h3) (Nat.le_of_ble_eq_true rfl) rfl (Nat.le_of_ble_eq_true rfl) (fun r6 h5 => ?_)
    refine kr_goto d_X10_why_20 ?_
    exact kr_ireturn d_X10_why_25 rfl

/-! X10_isSheet -/
def f_X10_isSheet (x1 : Int32) (h : kv_H) : Option (Int32 × kv_H) :=
  kv_b (f_X10_isIn (x1.toInt64) 0 3 h) (fun r2 h1 =>
  kv_t .boolean r2 (some (r2, h1)))
set_option maxRecDepth 20000 in
theorem m_X10_isSheet (x1 : Int32) (h : kv_H) : kv_M kv_i kK_X10_isSheet [.int x1] h (f_X10_isSheet x1 h) := by
  refine kv_met (ls := [some (.int x1)]) (show plainName RX10 = true by decide +kernel) (fun _ => rfl) (fun _ => Nat.le_of_ble_eq_true rfl) ?_
  unfold f_X10_isSheet
  refine kr_iload0 d_X10_isSheet_0 ?_
  refine kr_i2l d_X10_isSheet_1 ?_
  refine kr_constL (v := 0) d_X10_isSheet_2 ?_
  refine kr_constL (v := 3) d_X10_isSheet_3 ?_
  refine kr_is_i (As := [.long (x1.toInt64), .long 0, .long 3]) d_X10_isSheet_6 cl_X10_83 (m_X10_isIn (x1.toInt64) 0 3 h) (Nat.le_of_ble_eq_true rfl) rfl (Nat.le_of_ble_eq_true rfl) (fun r2 h1 => ?_)
  exact kr_zreturn d_X10_isSheet_9 rfl

/-! X10_sheet -/
def f_X10_sheet_L69 (c1 : Int32) : Nat → Int32 → kv_H → (kv_H → Option (Int32 × kv_H)) → Option (Int32 × kv_H)
  | 0, _, _, _ => none
  | n + 1, v4, h, C => if (24 : Int32) ≤ v4 then (C h)
    else (kv_k ((24 * c1) + v4) 96 (kv_hl (kv_up h 117 ((24 * c1) + v4).toNatClampNeg 0) (fun h11 =>
      f_X10_sheet_L69 c1 n (v4 + 1) h11 C)))
def f_X10_sheet (x1 : Int32) (x2 : Int32) (x3 : Int32) (h : kv_H) : Option (Int32 × kv_H) :=
  kv_b (f_X10_isSheet x1 h) (fun r2 h1 =>
  if r2 = 0 then (some ((-1000000001), h1))
  else (kv_b (f_X10_isIn (x2.toInt64) (-1) 1 h1) (fun r4 h3 =>
    if r4 = 0 then (some ((-1000000001), h3))
    else (kv_jn (fun  (h5 : kv_H) =>
      kv_jn (fun  (h6 : kv_H) =>
        kv_k x1 4 (kv_hl (kv_up h6 115 x1.toNatClampNeg x2) (fun h7 =>
          kv_jn (fun (y8 : Int32) (h9 : kv_H) =>
          kv_k x1 4 (kv_hl (kv_up h9 116 x1.toNatClampNeg y8) (fun h10 =>
            f_X10_sheet_L69 x1 kv_fu 0 h10 (fun  h12 =>
            kv_k x1 4 (some ((h12 116 x1.toNatClampNeg), h12)))))) (fun (J65 : Int32 → kv_H → Option (Int32 × kv_H)) =>
          if 0 ≤ x2 then (J65 x3 h7)
          else (J65 0 h7))))) (fun (J44 : kv_H → Option (Int32 × kv_H)) =>
        if x2 < 0 then (J44 h5)
        else (if 0 ≤ x3 then (J44 h5)
          else (some ((-1000000014), h5))))) (fun (J32 : kv_H → Option (Int32 × kv_H)) =>
      if x2 < 0 then (J32 h3)
      else (if x3 ≤ (24 : Int32) then (J32 h3)
        else (some ((-1000000001), h3))))))))
set_option maxRecDepth 20000 in
theorem s_f_X10_sheet_L69 (c1 : Int32) : ∀ (n : Nat) (v4 : Int32) (h : kv_H) (C : kv_H → Option (Int32 × kv_H)), (∀  (h : kv_H), kv_S kv_i kK_X10_sheet 95 [some (.ref 111), some (.int c1), none, none, none] [] h (C h)) → kv_S kv_i kK_X10_sheet 69 [some (.ref 111), some (.int c1), none, none, some (.int v4)] [] h (f_X10_sheet_L69 c1 n v4 h C) := by
  intro n
  induction n with
  | zero => intros; exact kv_none
  | succ n ih =>
    intro v4 h C hC
    unfold f_X10_sheet_L69
    refine kr_iload4 d_X10_sheet_69 ?_
    refine kr_const (v := 24) d_X10_sheet_71 ?_
    refine kr_icmp_ge d_X10_sheet_73 ?_ ?_
    · refine kr_kill4 ?_
      exact hC h
    · refine kr_aload0 d_X10_sheet_76 ?_
      refine kr_getR (q := 117) d_X10_sheet_77 fl_X10_25 sh_111 rfl ?_
      refine kr_const (v := 24) d_X10_sheet_80 ?_
      refine kr_iload1 d_X10_sheet_82 ?_
      refine kr_imul d_X10_sheet_83 ?_
      refine kr_iload4 d_X10_sheet_84 ?_
      refine kr_iadd d_X10_sheet_86 ?_
      refine kr_const (v := 0) d_X10_sheet_87 ?_
      refine kr_iastore d_X10_sheet_88 sh_117 ?_
      refine kr_hl (fun h11 => ?_)
      refine kr_iinc4 d_X10_sheet_89 (Nat.le_of_ble_eq_true rfl) kv_c1n ?_
      refine kr_goto d_X10_sheet_92 ?_
      exact ih (v4 + 1) h11 C hC

set_option maxRecDepth 20000 in
theorem m_X10_sheet (x1 : Int32) (x2 : Int32) (x3 : Int32) (h : kv_H) : kv_M kv_i kK_X10_sheet [.ref 111, .int x1, .int x2, .int x3] h (f_X10_sheet x1 x2 x3 h) := by
  refine kv_met (ls := [some (.ref 111), some (.int x1), some (.int x2), some (.int x3), none]) (show plainName RX10 = true by decide +kernel) (fun _ => rfl) (fun _ => Nat.le_of_ble_eq_true rfl) ?_
  unfold f_X10_sheet
  refine kr_iload1 d_X10_sheet_0 ?_
  refine kr_is_i (As := [.int x1]) d_X10_sheet_1 cl_X10_336 (m_X10_isSheet x1 h) (Nat.le_of_ble_eq_true rfl) rfl (Nat.le_of_ble_eq_true rfl) (fun r2 h1 => ?_)
  refine kr_if_eq d_X10_sheet_4 ?_ ?_
  · refine kr_const (v := (-1000000001)) d_X10_sheet_29 ?_
    exact kr_ireturn d_X10_sheet_31 rfl
  · refine kr_iload2 d_X10_sheet_7 ?_
    refine kr_i2l d_X10_sheet_8 ?_
    refine kr_constL (v := (-1)) d_X10_sheet_9 ?_
    refine kr_constL (v := 1) d_X10_sheet_12 ?_
    refine kr_is_i (As := [.long (x2.toInt64), .long (-1), .long 1]) d_X10_sheet_13 cl_X10_83 (m_X10_isIn (x2.toInt64) (-1) 1 h1) (Nat.le_of_ble_eq_true rfl) rfl (Nat.le_of_ble_eq_true rfl) (fun r4 h3 => ?_)
    refine kr_if_eq d_X10_sheet_16 ?_ ?_
    · refine kr_const (v := (-1000000001)) d_X10_sheet_29 ?_
      exact kr_ireturn d_X10_sheet_31 rfl
    · refine kr_iload2 d_X10_sheet_19 ?_
      refine kr_jn (P := fun J32 =>  ∀ (h5 : kv_H), kv_S kv_i kK_X10_sheet 32 [some (.ref 111), some (.int x1), some (.int x2), some (.int x3), none] [] h5 (J32  h5)) (fun  h5 => ?_) (fun J32 hJ32 => ?_)
      · refine kr_iload2 d_X10_sheet_32 ?_
        refine kr_jn (P := fun J44 =>  ∀ (h6 : kv_H), kv_S kv_i kK_X10_sheet 44 [some (.ref 111), some (.int x1), some (.int x2), some (.int x3), none] [] h6 (J44  h6)) (fun  h6 => ?_) (fun J44 hJ44 => ?_)
        · refine kr_aload0 d_X10_sheet_44 ?_
          refine kr_getR (q := 115) d_X10_sheet_45 fl_X10_19 sh_111 rfl ?_
          refine kr_iload1 d_X10_sheet_48 ?_
          refine kr_iload2 d_X10_sheet_49 ?_
          refine kr_iastore d_X10_sheet_50 sh_115 ?_
          refine kr_hl (fun h7 => ?_)
          refine kr_aload0 d_X10_sheet_51 ?_
          refine kr_getR (q := 116) d_X10_sheet_52 fl_X10_22 sh_111 rfl ?_
          refine kr_iload1 d_X10_sheet_55 ?_
          refine kr_iload2 d_X10_sheet_56 ?_
          refine kr_jn (P := fun J65 => ∀ (y8 : Int32), ∀ (h9 : kv_H), kv_S kv_i kK_X10_sheet 65 [some (.ref 111), some (.int x1), none, none, none] [.int y8, .int x1, .ref 116] h9 (J65 y8 h9)) (fun y8 h9 => ?_) (fun J65 hJ65 => ?_)
          · refine kr_iastore d_X10_sheet_65 sh_116 ?_
            refine kr_hl (fun h10 => ?_)
            refine kr_const (v := 0) d_X10_sheet_66 ?_
            refine kr_istore4 d_X10_sheet_67 (Nat.le_of_ble_eq_true rfl) kv_c1n ?_
            refine s_f_X10_sheet_L69 x1 kv_fu 0 h10 _ (fun  h12 => ?_)
            refine kr_aload0 d_X10_sheet_95 ?_
            refine kr_getR (q := 116) d_X10_sheet_96 fl_X10_22 sh_111 rfl ?_
            refine kr_iload1 d_X10_sheet_99 ?_
            refine kr_iaload d_X10_sheet_100 sh_116 ?_
            exact kr_ireturn d_X10_sheet_101 rfl
          refine kr_if_ge d_X10_sheet_57 ?_ ?_
          · refine kr_iload3 d_X10_sheet_64 ?_
            refine kr_kill2 ?_
            refine kr_kill3 ?_
            exact hJ65 x3 h7
          · refine kr_const (v := 0) d_X10_sheet_60 ?_
            refine kr_goto d_X10_sheet_61 ?_
            refine kr_kill2 ?_
            refine kr_kill3 ?_
            exact hJ65 0 h7
        refine kr_if_lt d_X10_sheet_33 ?_ ?_
        · exact hJ44 h5
        · refine kr_iload3 d_X10_sheet_36 ?_
          refine kr_if_ge d_X10_sheet_37 ?_ ?_
          · exact hJ44 h5
          · refine kr_const (v := (-1000000014)) d_X10_sheet_40 ?_
            exact kr_ireturn d_X10_sheet_43 rfl
      refine kr_if_lt d_X10_sheet_20 ?_ ?_
      · exact hJ32 h3
      · refine kr_iload3 d_X10_sheet_23 ?_
        refine kr_const (v := 24) d_X10_sheet_24 ?_
        refine kr_icmp_le d_X10_sheet_26 ?_ ?_
        · exact hJ32 h3
        · refine kr_const (v := (-1000000001)) d_X10_sheet_29 ?_
          exact kr_ireturn d_X10_sheet_31 rfl

/-! X10_mark -/
def f_X10_mark (x1 : Int32) (x2 : Int32) (x3 : Int32) (h : kv_H) : Option (Int32 × kv_H) :=
  kv_b (f_X10_isSheet x1 h) (fun r2 h1 =>
  if r2 = 0 then (some ((-1000000001), h1))
  else (kv_k x1 4 (if 0 ≤ (h1 115 x1.toNatClampNeg) then (kv_k x1 4 (kv_b (f_X10_isIn (x2.toInt64) 0 (((h1 116 x1.toNatClampNeg) - 1).toInt64) h1) (fun r4 h3 =>
      if r4 = 0 then (some ((-1000000013), h3))
      else (kv_k x1 4 (kv_jn (fun  (h5 : kv_H) =>
        kv_k x1 4 (kv_jn (fun  (h6 : kv_H) =>
          kv_k x1 4 (if (h6 115 x1.toNatClampNeg) = 0 then (kv_k ((24 * x1) + x2) 96 (kv_hl (kv_up h6 117 ((24 * x1) + x2).toNatClampNeg ((x3 <<< (16 &&& 31)) >>> (16 &&& 31))) (fun h8 =>
              some (1, h8))))
            else (kv_k ((24 * x1) + x2) 96 (kv_hl (kv_up h6 117 ((24 * x1) + x2).toNatClampNeg x3) (fun h7 =>
              some (1, h7)))))) (fun (J96 : kv_H → Option (Int32 × kv_H)) =>
          if (h5 115 x1.toNatClampNeg) = (1 : Int32) then (if x3 = (-1000000005 : Int32) then (J96 h5)
            else (kv_b (f_X10_isIn (x3.toInt64) (-99999) 99999 h5) (fun r10 h9 =>
              if r10 = 0 then (some ((-1000000001), h9))
              else (J96 h9))))
          else (J96 h5)))) (fun (J63 : kv_H → Option (Int32 × kv_H)) =>
        if (h3 115 x1.toNatClampNeg) = 0 then (if x3 = (-1000000005 : Int32) then (some ((-1000000012), h3))
          else (J63 h3))
        else (J63 h3)))))))
    else (some ((-1000000011), h1)))))
set_option maxRecDepth 20000 in
theorem m_X10_mark (x1 : Int32) (x2 : Int32) (x3 : Int32) (h : kv_H) : kv_M kv_i kK_X10_mark [.ref 111, .int x1, .int x2, .int x3] h (f_X10_mark x1 x2 x3 h) := by
  refine kv_met (ls := [some (.ref 111), some (.int x1), some (.int x2), some (.int x3)]) (show plainName RX10 = true by decide +kernel) (fun _ => rfl) (fun _ => Nat.le_of_ble_eq_true rfl) ?_
  unfold f_X10_mark
  refine kr_iload1 d_X10_mark_0 ?_
  refine kr_is_i (As := [.int x1]) d_X10_mark_1 cl_X10_336 (m_X10_isSheet x1 h) (Nat.le_of_ble_eq_true rfl) rfl (Nat.le_of_ble_eq_true rfl) (fun r2 h1 => ?_)
  refine kr_if_ne d_X10_mark_4 ?_ ?_
  · refine kr_aload0 d_X10_mark_10 ?_
    refine kr_getR (q := 115) d_X10_mark_11 fl_X10_19 sh_111 rfl ?_
    refine kr_iload1 d_X10_mark_14 ?_
    refine kr_iaload d_X10_mark_15 sh_115 ?_
    refine kr_if_ge d_X10_mark_16 ?_ ?_
    · refine kr_iload2 d_X10_mark_23 ?_
      refine kr_i2l d_X10_mark_24 ?_
      refine kr_constL (v := 0) d_X10_mark_25 ?_
      refine kr_aload0 d_X10_mark_26 ?_
      refine kr_getR (q := 116) d_X10_mark_27 fl_X10_22 sh_111 rfl ?_
      refine kr_iload1 d_X10_mark_30 ?_
      refine kr_iaload d_X10_mark_31 sh_116 ?_
      refine kr_const (v := 1) d_X10_mark_32 ?_
      refine kr_isub d_X10_mark_33 ?_
      refine kr_i2l d_X10_mark_34 ?_
      refine kr_is_i (As := [.long (x2.toInt64), .long 0, .long (((h1 116 x1.toNatClampNeg) - 1).toInt64)]) d_X10_mark_35 cl_X10_83 (m_X10_isIn (x2.toInt64) 0 (((h1 116 x1.toNatClampNeg) - 1).toInt64) h1) (Nat.le_of_ble_eq_true rfl) rfl (Nat.le_of_ble_eq_true rfl) (fun r4 h3 => ?_)
      refine kr_if_ne d_X10_mark_38 ?_ ?_
      · refine kr_aload0 d_X10_mark_45 ?_
        refine kr_getR (q := 115) d_X10_mark_46 fl_X10_19 sh_111 rfl ?_
        refine kr_iload1 d_X10_mark_49 ?_
        refine kr_iaload d_X10_mark_50 sh_115 ?_
        refine kr_jn (P := fun J63 =>  ∀ (h5 : kv_H), kv_S kv_i kK_X10_mark 63 [some (.ref 111), some (.int x1), some (.int x2), some (.int x3)] [] h5 (J63  h5)) (fun  h5 => ?_) (fun J63 hJ63 => ?_)
        · refine kr_aload0 d_X10_mark_63 ?_
          refine kr_getR (q := 115) d_X10_mark_64 fl_X10_19 sh_111 rfl ?_
          refine kr_iload1 d_X10_mark_67 ?_
          refine kr_iaload d_X10_mark_68 sh_115 ?_
          refine kr_const (v := 1) d_X10_mark_69 ?_
          refine kr_jn (P := fun J96 =>  ∀ (h6 : kv_H), kv_S kv_i kK_X10_mark 96 [some (.ref 111), some (.int x1), some (.int x2), some (.int x3)] [] h6 (J96  h6)) (fun  h6 => ?_) (fun J96 hJ96 => ?_)
          · refine kr_aload0 d_X10_mark_96 ?_
            refine kr_getR (q := 117) d_X10_mark_97 fl_X10_25 sh_111 rfl ?_
            refine kr_const (v := 24) d_X10_mark_100 ?_
            refine kr_iload1 d_X10_mark_102 ?_
            refine kr_imul d_X10_mark_103 ?_
            refine kr_iload2 d_X10_mark_104 ?_
            refine kr_iadd d_X10_mark_105 ?_
            refine kr_aload0 d_X10_mark_106 ?_
            refine kr_getR (q := 115) d_X10_mark_107 fl_X10_19 sh_111 rfl ?_
            refine kr_iload1 d_X10_mark_110 ?_
            refine kr_iaload d_X10_mark_111 sh_115 ?_
            refine kr_if_ne d_X10_mark_112 ?_ ?_
            · refine kr_iload3 d_X10_mark_125 ?_
              refine kr_iastore d_X10_mark_126 sh_117 ?_
              refine kr_hl (fun h7 => ?_)
              refine kr_const (v := 1) d_X10_mark_127 ?_
              exact kr_ireturn d_X10_mark_128 rfl
            · refine kr_iload3 d_X10_mark_115 ?_
              refine kr_const (v := 16) d_X10_mark_116 ?_
              refine kr_ishl d_X10_mark_118 ?_
              refine kr_const (v := 16) d_X10_mark_119 ?_
              refine kr_ishr d_X10_mark_121 ?_
              refine kr_goto d_X10_mark_122 ?_
              refine kr_iastore d_X10_mark_126 sh_117 ?_
              refine kr_hl (fun h8 => ?_)
              refine kr_const (v := 1) d_X10_mark_127 ?_
              exact kr_ireturn d_X10_mark_128 rfl
          refine kr_icmp_ne d_X10_mark_70 ?_ ?_
          · exact hJ96 h5
          · refine kr_iload3 d_X10_mark_73 ?_
            refine kr_const (v := (-1000000005)) d_X10_mark_74 ?_
            refine kr_icmp_eq d_X10_mark_76 ?_ ?_
            · exact hJ96 h5
            · refine kr_iload3 d_X10_mark_79 ?_
              refine kr_i2l d_X10_mark_80 ?_
              refine kr_constL (v := (-99999)) d_X10_mark_81 ?_
              refine kr_constL (v := 99999) d_X10_mark_84 ?_
              refine kr_is_i (As := [.long (x3.toInt64), .long (-99999), .long 99999]) d_X10_mark_87 cl_X10_83 (m_X10_isIn (x3.toInt64) (-99999) 99999 h5) (Nat.le_of_ble_eq_true rfl) rfl (Nat.le_of_ble_eq_true rfl) (fun r10 h9 => ?_)
              refine kr_if_ne d_X10_mark_90 ?_ ?_
              · exact hJ96 h9
              · refine kr_const (v := (-1000000001)) d_X10_mark_93 ?_
                exact kr_ireturn d_X10_mark_95 rfl
        refine kr_if_ne d_X10_mark_51 ?_ ?_
        · exact hJ63 h3
        · refine kr_iload3 d_X10_mark_54 ?_
          refine kr_const (v := (-1000000005)) d_X10_mark_55 ?_
          refine kr_icmp_ne d_X10_mark_57 ?_ ?_
          · exact hJ63 h3
          · refine kr_const (v := (-1000000012)) d_X10_mark_60 ?_
            exact kr_ireturn d_X10_mark_62 rfl
      · refine kr_const (v := (-1000000013)) d_X10_mark_41 ?_
        exact kr_ireturn d_X10_mark_44 rfl
    · refine kr_const (v := (-1000000011)) d_X10_mark_19 ?_
      exact kr_ireturn d_X10_mark_22 rfl
  · refine kr_const (v := (-1000000001)) d_X10_mark_7 ?_
    exact kr_ireturn d_X10_mark_9 rfl

/-! X10_pour -/
def f_X10_pour_L25 (c1 : Int32) : Nat → Int32 → kv_H → (Int32 → kv_H → Option (Int32 × kv_H)) → Option (Int32 × kv_H)
  | 0, _, _, _ => none
  | n + 1, v2, h, C => kv_k c1 4 (if (h 116 c1.toNatClampNeg) ≤ v2 then (C v2 h)
    else (kv_k ((24 * c1) + v2) 96 (kv_b (f_X10_isLeaf (h 117 ((24 * c1) + v2).toNatClampNeg) h) (fun r4 h3 =>
      if r4 = 0 then (C v2 h3)
      else (if (24 : Int32) ≤ (h3 112 8) then (C v2 h3)
        else (kv_k ((24 * c1) + v2) 96 (kv_k (74 + (h3 112 8)) 3098 (kv_hl (kv_up h3 112 (74 + (h3 112 8)).toNatClampNeg (h3 117 ((24 * c1) + v2).toNatClampNeg)) (fun h5 =>
          kv_hl (kv_up h5 112 8 ((h5 112 8) + 1)) (fun h6 =>
          f_X10_pour_L25 c1 n (v2 + 1) h6 C))))))))))
def f_X10_pour (x1 : Int32) (h : kv_H) : Option (Int32 × kv_H) :=
  kv_b (f_X10_isSheet x1 h) (fun r2 h1 =>
  if r2 = 0 then (some ((-1000000001), h1))
  else (kv_k x1 4 (if 0 ≤ (h1 115 x1.toNatClampNeg) then (f_X10_pour_L25 x1 kv_fu 0 h1 (fun z7 h8 =>
      some (z7, h8)))
    else (some ((-1000000011), h1)))))
set_option maxRecDepth 20000 in
theorem s_f_X10_pour_L25 (c1 : Int32) : ∀ (n : Nat) (v2 : Int32) (h : kv_H) (C : Int32 → kv_H → Option (Int32 × kv_H)), (∀ (w2 : Int32) (h : kv_H), kv_S kv_i kK_X10_pour 108 [none, none, some (.int w2)] [] h (C w2 h)) → kv_S kv_i kK_X10_pour 25 [some (.ref 111), some (.int c1), some (.int v2)] [] h (f_X10_pour_L25 c1 n v2 h C) := by
  intro n
  induction n with
  | zero => intros; exact kv_none
  | succ n ih =>
    intro v2 h C hC
    unfold f_X10_pour_L25
    refine kr_iload2 d_X10_pour_25 ?_
    refine kr_aload0 d_X10_pour_26 ?_
    refine kr_getR (q := 116) d_X10_pour_27 fl_X10_22 sh_111 rfl ?_
    refine kr_iload1 d_X10_pour_30 ?_
    refine kr_iaload d_X10_pour_31 sh_116 ?_
    refine kr_icmp_ge d_X10_pour_32 ?_ ?_
    · refine kr_kill0 ?_
      refine kr_kill1 ?_
      exact hC v2 h
    · refine kr_aload0 d_X10_pour_35 ?_
      refine kr_aload0 d_X10_pour_36 ?_
      refine kr_getR (q := 117) d_X10_pour_37 fl_X10_25 sh_111 rfl ?_
      refine kr_const (v := 24) d_X10_pour_40 ?_
      refine kr_iload1 d_X10_pour_42 ?_
      refine kr_imul d_X10_pour_43 ?_
      refine kr_iload2 d_X10_pour_44 ?_
      refine kr_iadd d_X10_pour_45 ?_
      refine kr_iaload d_X10_pour_46 sh_117 ?_
      refine kr_iv_i (As := [.int (h 117 ((24 * c1) + v2).toNatClampNeg)]) d_X10_pour_47 cl_X10_116 (m_X10_isLeaf (h 117 ((24 * c1) + v2).toNatClampNeg) h) sh_111 (Nat.le_of_ble_eq_true rfl) rfl (Nat.le_of_ble_eq_true rfl) (fun r4 h3 => ?_)
      refine kr_if_eq d_X10_pour_50 ?_ ?_
      · refine kr_kill0 ?_
        refine kr_kill1 ?_
        exact hC v2 h3
      · refine kr_aload0 d_X10_pour_53 ?_
        refine kr_getR (q := 112) d_X10_pour_54 fl_X10_7 sh_111 rfl ?_
        refine kr_const (v := 8) d_X10_pour_57 ?_
        refine kr_ialoadC (j := 8) ⟨by decide, by decide, by decide⟩ d_X10_pour_59 sh_112 ?_
        refine kr_const (v := 24) d_X10_pour_60 ?_
        refine kr_icmp_ge d_X10_pour_62 ?_ ?_
        · refine kr_kill0 ?_
          refine kr_kill1 ?_
          exact hC v2 h3
        · refine kr_aload0 d_X10_pour_65 ?_
          refine kr_getR (q := 112) d_X10_pour_66 fl_X10_7 sh_111 rfl ?_
          refine kr_const (v := 74) d_X10_pour_69 ?_
          refine kr_aload0 d_X10_pour_71 ?_
          refine kr_getR (q := 112) d_X10_pour_72 fl_X10_7 sh_111 rfl ?_
          refine kr_const (v := 8) d_X10_pour_75 ?_
          refine kr_ialoadC (j := 8) ⟨by decide, by decide, by decide⟩ d_X10_pour_77 sh_112 ?_
          refine kr_iadd d_X10_pour_78 ?_
          refine kr_aload0 d_X10_pour_79 ?_
          refine kr_getR (q := 117) d_X10_pour_80 fl_X10_25 sh_111 rfl ?_
          refine kr_const (v := 24) d_X10_pour_83 ?_
          refine kr_iload1 d_X10_pour_85 ?_
          refine kr_imul d_X10_pour_86 ?_
          refine kr_iload2 d_X10_pour_87 ?_
          refine kr_iadd d_X10_pour_88 ?_
          refine kr_iaload d_X10_pour_89 sh_117 ?_
          refine kr_iastore d_X10_pour_90 sh_112 ?_
          refine kr_hl (fun h5 => ?_)
          refine kr_aload0 d_X10_pour_91 ?_
          refine kr_getR (q := 112) d_X10_pour_92 fl_X10_7 sh_111 rfl ?_
          refine kr_const (v := 8) d_X10_pour_95 ?_
          refine kr_dup2 d_X10_pour_97 rfl rfl ?_
          refine kr_ialoadC (j := 8) ⟨by decide, by decide, by decide⟩ d_X10_pour_98 sh_112 ?_
          refine kr_const (v := 1) d_X10_pour_99 ?_
          refine kr_iadd d_X10_pour_100 ?_
          refine kr_iastoreC (j := 8) ⟨by decide, by decide, by decide⟩ d_X10_pour_101 sh_112 ?_
          refine kr_hl (fun h6 => ?_)
          refine kr_iinc2 d_X10_pour_102 (Nat.le_of_ble_eq_true rfl) kv_c1i ?_
          refine kr_goto d_X10_pour_105 ?_
          exact ih (v2 + 1) h6 C hC

set_option maxRecDepth 20000 in
theorem m_X10_pour (x1 : Int32) (h : kv_H) : kv_M kv_i kK_X10_pour [.ref 111, .int x1] h (f_X10_pour x1 h) := by
  refine kv_met (ls := [some (.ref 111), some (.int x1), none]) (show plainName RX10 = true by decide +kernel) (fun _ => rfl) (fun _ => Nat.le_of_ble_eq_true rfl) ?_
  unfold f_X10_pour
  refine kr_iload1 d_X10_pour_0 ?_
  refine kr_is_i (As := [.int x1]) d_X10_pour_1 cl_X10_336 (m_X10_isSheet x1 h) (Nat.le_of_ble_eq_true rfl) rfl (Nat.le_of_ble_eq_true rfl) (fun r2 h1 => ?_)
  refine kr_if_ne d_X10_pour_4 ?_ ?_
  · refine kr_aload0 d_X10_pour_10 ?_
    refine kr_getR (q := 115) d_X10_pour_11 fl_X10_19 sh_111 rfl ?_
    refine kr_iload1 d_X10_pour_14 ?_
    refine kr_iaload d_X10_pour_15 sh_115 ?_
    refine kr_if_ge d_X10_pour_16 ?_ ?_
    · refine kr_const (v := 0) d_X10_pour_23 ?_
      refine kr_istore2 d_X10_pour_24 (Nat.le_of_ble_eq_true rfl) kv_c1i ?_
      refine s_f_X10_pour_L25 x1 kv_fu 0 h1 _ (fun z7 h8 => ?_)
      refine kr_iload2 d_X10_pour_108 ?_
      exact kr_ireturn d_X10_pour_109 rfl
    · refine kr_const (v := (-1000000011)) d_X10_pour_19 ?_
      exact kr_ireturn d_X10_pour_22 rfl
  · refine kr_const (v := (-1000000001)) d_X10_pour_7 ?_
    exact kr_ireturn d_X10_pour_9 rfl

/-! X10_reads -/
def f_X10_reads_L25 (c1 : Int32) : Nat → Int32 → kv_H → (kv_H → Option (Int32 × kv_H)) → Option (Int32 × kv_H)
  | 0, _, _, _ => none
  | n + 1, v2, h, C => kv_k c1 4 (if (h 116 c1.toNatClampNeg) ≤ v2 then (C h)
    else (kv_k ((24 * c1) + v2) 96 (kv_vl (h 117 ((24 * c1) + v2).toNatClampNeg) (fun e3 =>
      if e3 = (-1000000005 : Int32) then (f_X10_reads_L25 c1 n (v2 + 1) h C)
      else (kv_b (f_X10_isLeaf v2 h) (fun r5 h4 =>
        if r5 = 0 then (some (v2, h4))
        else (kv_b (f_X10_leafAt v2 h4) (fun r7 h6 =>
          kv_k (r7 + 5) 3098 (if e3 = (h6 112 (r7 + 5).toNatClampNeg) then (f_X10_reads_L25 c1 n (v2 + 1) h6 C)
          else (some (v2, h6)))))))))))
def f_X10_reads (x1 : Int32) (h : kv_H) : Option (Int32 × kv_H) :=
  kv_b (f_X10_isSheet x1 h) (fun r2 h1 =>
  if r2 = 0 then (some ((-1000000001), h1))
  else (kv_k x1 4 (if 0 ≤ (h1 115 x1.toNatClampNeg) then (f_X10_reads_L25 x1 kv_fu 0 h1 (fun  h8 =>
      some ((-1000000005), h8)))
    else (some ((-1000000011), h1)))))
set_option maxRecDepth 20000 in
theorem s_f_X10_reads_L25 (c1 : Int32) : ∀ (n : Nat) (v2 : Int32) (h : kv_H) (C : kv_H → Option (Int32 × kv_H)), (∀  (h : kv_H), kv_S kv_i kK_X10_reads 85 [none, none, none, none] [] h (C h)) → kv_S kv_i kK_X10_reads 25 [some (.ref 111), some (.int c1), some (.int v2), none] [] h (f_X10_reads_L25 c1 n v2 h C) := by
  intro n
  induction n with
  | zero => intros; exact kv_none
  | succ n ih =>
    intro v2 h C hC
    unfold f_X10_reads_L25
    refine kr_iload2 d_X10_reads_25 ?_
    refine kr_aload0 d_X10_reads_26 ?_
    refine kr_getR (q := 116) d_X10_reads_27 fl_X10_22 sh_111 rfl ?_
    refine kr_iload1 d_X10_reads_30 ?_
    refine kr_iaload d_X10_reads_31 sh_116 ?_
    refine kr_icmp_ge d_X10_reads_32 ?_ ?_
    · refine kr_kill0 ?_
      refine kr_kill1 ?_
      refine kr_kill2 ?_
      exact hC h
    · refine kr_aload0 d_X10_reads_35 ?_
      refine kr_getR (q := 117) d_X10_reads_36 fl_X10_25 sh_111 rfl ?_
      refine kr_const (v := 24) d_X10_reads_39 ?_
      refine kr_iload1 d_X10_reads_41 ?_
      refine kr_imul d_X10_reads_42 ?_
      refine kr_iload2 d_X10_reads_43 ?_
      refine kr_iadd d_X10_reads_44 ?_
      refine kr_iaload d_X10_reads_45 sh_117 ?_
      refine kr_vl (fun e3 => ?_)
      refine kr_istore3 d_X10_reads_46 (Nat.le_of_ble_eq_true rfl) kv_c1i ?_
      refine kr_iload3 d_X10_reads_47 ?_
      refine kr_const (v := (-1000000005)) d_X10_reads_48 ?_
      refine kr_icmp_eq d_X10_reads_50 ?_ ?_
      · refine kr_iinc2 d_X10_reads_79 (Nat.le_of_ble_eq_true rfl) kv_c1i ?_
        refine kr_goto d_X10_reads_82 ?_
        refine kr_kill3 ?_
        exact ih (v2 + 1) h C hC
      · refine kr_aload0 d_X10_reads_53 ?_
        refine kr_iload2 d_X10_reads_54 ?_
        refine kr_iv_i (As := [.int v2]) d_X10_reads_55 cl_X10_116 (m_X10_isLeaf v2 h) sh_111 (Nat.le_of_ble_eq_true rfl) rfl (Nat.le_of_ble_eq_true rfl) (fun r5 h4 => ?_)
        refine kr_if_eq d_X10_reads_58 ?_ ?_
        · refine kr_iload2 d_X10_reads_77 ?_
          exact kr_ireturn d_X10_reads_78 rfl
        · refine kr_iload3 d_X10_reads_61 ?_
          refine kr_aload0 d_X10_reads_62 ?_
          refine kr_getR (q := 112) d_X10_reads_63 fl_X10_7 sh_111 rfl ?_
          refine kr_aload0 d_X10_reads_66 ?_
          refine kr_iload2 d_X10_reads_67 ?_
          refine kr_iv_i (As := [.int v2]) d_X10_reads_68 cl_X10_92 (m_X10_leafAt v2 h4) sh_111 (Nat.le_of_ble_eq_true rfl) rfl (Nat.le_of_ble_eq_true rfl) (fun r7 h6 => ?_)
          refine kr_const (v := 5) d_X10_reads_71 ?_
          refine kr_iadd d_X10_reads_72 ?_
          refine kr_iaload d_X10_reads_73 sh_112 ?_
          refine kr_icmp_eq d_X10_reads_74 ?_ ?_
          · refine kr_iinc2 d_X10_reads_79 (Nat.le_of_ble_eq_true rfl) kv_c1i ?_
            refine kr_goto d_X10_reads_82 ?_
            refine kr_kill3 ?_
            exact ih (v2 + 1) h6 C hC
          · refine kr_iload2 d_X10_reads_77 ?_
            exact kr_ireturn d_X10_reads_78 rfl

set_option maxRecDepth 20000 in
theorem m_X10_reads (x1 : Int32) (h : kv_H) : kv_M kv_i kK_X10_reads [.ref 111, .int x1] h (f_X10_reads x1 h) := by
  refine kv_met (ls := [some (.ref 111), some (.int x1), none, none]) (show plainName RX10 = true by decide +kernel) (fun _ => rfl) (fun _ => Nat.le_of_ble_eq_true rfl) ?_
  unfold f_X10_reads
  refine kr_iload1 d_X10_reads_0 ?_
  refine kr_is_i (As := [.int x1]) d_X10_reads_1 cl_X10_336 (m_X10_isSheet x1 h) (Nat.le_of_ble_eq_true rfl) rfl (Nat.le_of_ble_eq_true rfl) (fun r2 h1 => ?_)
  refine kr_if_ne d_X10_reads_4 ?_ ?_
  · refine kr_aload0 d_X10_reads_10 ?_
    refine kr_getR (q := 115) d_X10_reads_11 fl_X10_19 sh_111 rfl ?_
    refine kr_iload1 d_X10_reads_14 ?_
    refine kr_iaload d_X10_reads_15 sh_115 ?_
    refine kr_if_ge d_X10_reads_16 ?_ ?_
    · refine kr_const (v := 0) d_X10_reads_23 ?_
      refine kr_istore2 d_X10_reads_24 (Nat.le_of_ble_eq_true rfl) kv_c1i ?_
      refine s_f_X10_reads_L25 x1 kv_fu 0 h1 _ (fun  h8 => ?_)
      refine kr_const (v := (-1000000005)) d_X10_reads_85 ?_
      exact kr_ireturn d_X10_reads_87 rfl
    · refine kr_const (v := (-1000000011)) d_X10_reads_19 ?_
      exact kr_ireturn d_X10_reads_22 rfl
  · refine kr_const (v := (-1000000001)) d_X10_reads_7 ?_
    exact kr_ireturn d_X10_reads_9 rfl


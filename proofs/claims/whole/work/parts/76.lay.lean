/-! PURE PART: lay a sheet; lay -/
theorem pz_copyRow (k1 k2 N : Nat) (hN : N < 2147483648) (h : kv_H) : f_X9_copyRow k1 N k2 N h = some ((), kv_row h k2 (va_cpy (h k1) (h k2) 0 0 N)) := by
  rw [f_X9_copyRow, if_neg (nI_nlt (Nat.le_refl N) hN), show (0 : Int32).toNatClampNeg = 0 from rfl, kv_y, if_neg (by
    rw [pz_cl hN, show (0 : Int32).toNatClampNeg = 0 from rfl]
    rintro (y | y | y | y | y)
    · exact absurd y (by decide)
    · exact absurd y (by decide)
    · exact pz_ng hN y
    · omega
    · omega), pz_hl, pz_cl hN]
theorem pz_lay2 (x3 : Int32) (a : Nat) (ha : a < 5) (h : kv_H) (c3 : pz_c3 h) (c4 : pz_c4 h) : pz_op [4] pz_c4 (f_X9_lay (nI a) (nI 2) x3) (f_X10_lay (nI a) (nI 2) x3) h := by
  obtain ⟨e1, -⟩ := c4 a ha
  rcases pz_cases x3 4 (by omega) with q | ⟨b, hb, rfl⟩
  · refine pz_op_same (-1000000001) c4 ?_ ?_
    · simp only [f_X9_lay, pz_isSlotU, pz_b, pz_ifif]; simp (disch := omega) only [pz_lit, pz_leT, pz_leF, pz_ltT, pz_ltF, pz_eqT, pz_eqF, pz_nlt, pz_nle, pz_nlt1, pz_nle1, pz_neq, pz_neq1, pz_nnlT, pz_nnlF, pz_nneT, pz_nneF, pz_cl, pz_kN, pz_add, pz_mul, pz_sub, ↓pz_jn, ↓pz_hl, ↓pz_vl, ↓pz_vL, pz_b, ↓reduceIte, or_false, or_true, false_or, true_or, not_true, not_false_iff, and_true, true_and, and_false, false_and, or_self, e1, pz_isSheetB q]
    · simp only [f_X10_lay, pz_isSlotMU, pz_b, pz_ifif]; simp (disch := omega) only [pz_lit, pz_leT, pz_leF, pz_ltT, pz_ltF, pz_eqT, pz_eqF, pz_nlt, pz_nle, pz_nlt1, pz_nle1, pz_neq, pz_neq1, pz_nnlT, pz_nnlF, pz_nneT, pz_nneF, pz_cl, pz_kN, pz_add, pz_mul, pz_sub, ↓pz_jn, ↓pz_hl, ↓pz_vl, ↓pz_vL, pz_b, ↓reduceIte, or_false, or_true, false_or, true_or, not_true, not_false_iff, and_true, true_and, and_false, false_and, or_self, pz_isSheetMB q]
  obtain ⟨s1, s2⟩ := c3 b hb
  rcases s2 with s2 | ⟨s2, len, hl, s3, s4, s5⟩
  · have s1' := s1.trans s2
    refine pz_op_same (-1000000011) c4 ?_ ?_
    · simp only [f_X9_lay, pz_isSheetU, pz_isSheetMU, pz_isSlotU, pz_isSlotMU, pz_isKindU, pz_hasU, pz_in, pz_in0, pz_in_m1_1, pz_in_m9_9, pz_in_0_1, pz_in_0_2, pz_in_0_3, pz_in_0_4, pz_in_0_5, pz_in_0_60, pz_in_1_2, pz_in_1_20, pz_in_1_24, pz_in_1_3, pz_in_1_30, pz_in_1_8, pz_in_1_9, pz_in_0_99, pz_in_0_9, pz_b, pz_tbi, pz_ifif, pz_leafAtU, pz_textAtU, pz_orNoneU]; simp (disch := omega) only [pz_lit, pz_leT, pz_leF, pz_ltT, pz_ltF, pz_eqT, pz_eqF, pz_nlt, pz_nle, pz_nlt1, pz_nle1, pz_neq, pz_neq1, pz_nnlT, pz_nnlF, pz_nneT, pz_nneF, pz_cl, pz_kN, pz_add, pz_mul, pz_sub, ↓pz_jn, ↓pz_hl, ↓pz_vl, ↓pz_vL, pz_b, ↓reduceIte, or_false, or_true, false_or, true_or, not_true, not_false_iff, and_true, true_and, and_false, false_and, or_self, e1, s1']
    · simp only [f_X10_lay, pz_isSheetU, pz_isSheetMU, pz_isSlotU, pz_isSlotMU, pz_isKindU, pz_hasU, pz_in, pz_in0, pz_in_m1_1, pz_in_m9_9, pz_in_0_1, pz_in_0_2, pz_in_0_3, pz_in_0_4, pz_in_0_5, pz_in_0_60, pz_in_1_2, pz_in_1_20, pz_in_1_24, pz_in_1_3, pz_in_1_30, pz_in_1_8, pz_in_1_9, pz_in_0_99, pz_in_0_9, pz_b, pz_tbi, pz_ifif, pz_leafAtU, pz_textAtU, pz_orNoneU]; simp (disch := omega) only [pz_lit, pz_leT, pz_leF, pz_ltT, pz_ltF, pz_eqT, pz_eqF, pz_nlt, pz_nle, pz_nlt1, pz_nle1, pz_neq, pz_neq1, pz_nnlT, pz_nnlF, pz_nneT, pz_nneF, pz_cl, pz_kN, pz_add, pz_mul, pz_sub, ↓pz_jn, ↓pz_hl, ↓pz_vl, ↓pz_vL, pz_b, ↓reduceIte, or_false, or_true, false_or, true_or, not_true, not_false_iff, and_true, true_and, and_false, false_and, or_self, s2]
  have n1 : ¬ h (18 + 2 * b) 1 = -nI 1 := by rw [s1]; rcases s2 with s2 | s2 <;> rw [s2] <;> decide
  have n3 : nI 0 ≤ h 115 b := by rcases s2 with s2 | s2 <;> rw [s2] <;> decide
  have T : f_X3_becomes (26 + 3 * a + 1) (18 + 2 * b) h = some ((), kv_row (kv_up (kv_up h (26 + 3 * a + 1) 1 (h (18 + 2 * b) 1)) (26 + 3 * a + 1) 2 (nI len)) (26 + 3 * a + 1 + 1) (va_cpy (h (18 + 2 * b + 1)) (h (26 + 3 * a + 1 + 1)) 0 0 24)) := by
    rw [f_X3_becomes, pz_hl, pz_hl, pz_copyRow _ _ 24 (by omega), pz_b]
    simp (disch := omega) only [pz_upne, s3]
  obtain ⟨h1, eh1⟩ : ∃ g, g = kv_up (kv_row (kv_up (kv_up h (26 + 3 * a + 1) 1 (h (18 + 2 * b) 1)) (26 + 3 * a + 1) 2 (nI len)) (26 + 3 * a + 1 + 1) (va_cpy (h (18 + 2 * b + 1)) (h (26 + 3 * a + 1 + 1)) 0 0 24)) (26 + 3 * a) 1 (nI 2) := ⟨_, rfl⟩
  have f1 : ∀ g, (g < 26 + 3 * a ∨ 28 + 3 * a < g) → h1 g = h g := by
    intro g hg; rw [eh1]; simp (disch := omega) only [pz_upne, pz_rowne]
  have g115 : h1 115 = h 115 := f1 115 (by omega)
  have g116 : h1 116 = h 116 := f1 116 (by omega)
  have g117 : h1 117 = h 117 := f1 117 (by omega)
  have g118 : h1 118 = h 118 := f1 118 (by omega)
  refine ⟨h 118 a, h1, pz_st (kv_up (kv_up (kv_up (kv_up h1 118 a (nI 2)) 119 a (nI b)) 120 a (nI 0)) 121 a (nI len)) 122 (24 * a) (24 * a + 24) (fun k => h 117 (24 * b + (k - 24 * a))), ?_, ?_, ?_, ?_⟩
  · simp only [f_X9_lay, pz_isSheetU, pz_isSheetMU, pz_isSlotU, pz_isSlotMU, pz_isKindU, pz_hasU, pz_in, pz_in0, pz_in_m1_1, pz_in_m9_9, pz_in_0_1, pz_in_0_2, pz_in_0_3, pz_in_0_4, pz_in_0_5, pz_in_0_60, pz_in_1_2, pz_in_1_20, pz_in_1_24, pz_in_1_3, pz_in_1_30, pz_in_1_8, pz_in_1_9, pz_in_0_99, pz_in_0_9, pz_b, pz_tbi, pz_ifif, pz_leafAtU, pz_textAtU, pz_orNoneU]; simp (disch := omega) only [pz_lit, pz_leT, pz_leF, pz_ltT, pz_ltF, pz_eqT, pz_eqF, pz_nlt, pz_nle, pz_nlt1, pz_nle1, pz_neq, pz_neq1, pz_nnlT, pz_nnlF, pz_nneT, pz_nneF, pz_cl, pz_kN, pz_add, pz_mul, pz_sub, ↓pz_jn, ↓pz_hl, ↓pz_vl, ↓pz_vL, pz_b, ↓reduceIte, or_false, or_true, false_or, true_or, not_true, not_false_iff, and_true, true_and, and_false, false_and, or_self, e1, n1, T, eh1]
  · simp only [f_X10_lay, pz_isSheetU, pz_isSheetMU, pz_isSlotU, pz_isSlotMU, pz_isKindU, pz_hasU, pz_in, pz_in0, pz_in_m1_1, pz_in_m9_9, pz_in_0_1, pz_in_0_2, pz_in_0_3, pz_in_0_4, pz_in_0_5, pz_in_0_60, pz_in_1_2, pz_in_1_20, pz_in_1_24, pz_in_1_3, pz_in_1_30, pz_in_1_8, pz_in_1_9, pz_in_0_99, pz_in_0_9, pz_b, pz_tbi, pz_ifif, pz_leafAtU, pz_textAtU, pz_orNoneU]
    simp (disch := omega) only [pz_lit, pz_leT, pz_leF, pz_ltT, pz_ltF, pz_eqT, pz_eqF, pz_nlt, pz_nle, pz_nlt1, pz_nle1, pz_neq, pz_neq1, pz_nnlT, pz_nnlF, pz_nneT, pz_nneF, pz_cl, pz_kN, pz_add, pz_mul, pz_sub, ↓pz_jn, ↓pz_hl, ↓pz_vl, ↓pz_vL, pz_b, ↓reduceIte, or_false, or_true, false_or, true_or, not_true, not_false_iff, and_true, true_and, and_false, false_and, or_self, pz_upne, g115, g116, g117, g118, n3, s4, pz_layM a b _ ha hb]
  · intro i hi
    by_cases z : i = a
    · subst z
      refine ⟨?_, Or.inr (Or.inr (Or.inl ⟨?_, len, hl, ?_, ?_, ?_⟩))⟩
      · rw [pz_stne _ (by omega), pz_stne _ (by omega), eh1]; simp (disch := omega) only [pz_upne, pz_upeq, pz_upd, if_neg, if_pos, if_true, if_false]
      · rw [pz_stne _ (by omega)]; simp (disch := omega) only [pz_upne, pz_upeq, pz_upd, if_neg, if_pos, if_true, if_false]; rfl
      · rw [pz_stne _ (by omega), eh1, show 27 + 3 * i = 26 + 3 * i + 1 from by omega]; simp (disch := omega) only [pz_upne, pz_upeq, pz_upd, if_neg, if_pos, if_true, if_false, pz_rowne]
      · rw [pz_stne _ (by omega)]; simp (disch := omega) only [pz_upne, pz_upeq, pz_upd, if_neg, if_pos, if_true, if_false]
      · intro k hk
        rw [pz_stne _ (by omega), pz_stin _ (by omega) (by omega), eh1, show 28 + 3 * i = 26 + 3 * i + 1 + 1 from by omega]
        simp (disch := omega) only [pz_upne, pz_roweq]
        rw [pk_cpy_in (by omega) (by omega), Nat.sub_zero, Nat.zero_add, show 18 + 2 * b + 1 = 19 + 2 * b from by omega, s5 k hk, show 24 * i + k - 24 * i = k from by omega]
    · refine pz_sl_fr hi (c4 i hi) ?_ ?_ ?_ ?_ ?_ ?_ ?_ ?_
      · intro j; rw [pz_stne _ (by omega)]; simp (disch := omega) only [pz_upne, pz_upeq, pz_upd, if_neg, if_pos, if_true, if_false, f1]
      · intro j; rw [pz_stne _ (by omega)]; simp (disch := omega) only [pz_upne, pz_upeq, pz_upd, if_neg, if_pos, if_true, if_false, f1]
      · intro j; rw [pz_stne _ (by omega)]; simp (disch := omega) only [pz_upne, pz_upeq, pz_upd, if_neg, if_pos, if_true, if_false, f1]
      · rw [pz_stne _ (by omega)]; simp (disch := omega) only [pz_upne, pz_upeq, pz_upd, if_neg, if_pos, if_true, if_false, f1]
      · rw [pz_stne _ (by omega)]; simp (disch := omega) only [pz_upne, pz_upeq, pz_upd, if_neg, if_pos, if_true, if_false, f1]
      · rw [pz_stne _ (by omega)]; simp (disch := omega) only [pz_upne, pz_upeq, pz_upd, if_neg, if_pos, if_true, if_false, f1]
      · rw [pz_stne _ (by omega)]; simp (disch := omega) only [pz_upne, pz_upeq, pz_upd, if_neg, if_pos, if_true, if_false, f1]
      · intro k hk; rw [pz_stout _ (by omega)]; simp (disch := omega) only [pz_upne, pz_upeq, pz_upd, if_neg, if_pos, if_true, if_false, f1]
  · refine pz_fr_st (pz_fr_up (pz_fr_up (pz_fr_up (pz_fr_up ?_ (by rw [pz_reg4 (by omega)]; decide)) (by rw [pz_reg4 (by omega)]; decide)) (by rw [pz_reg4 (by omega)]; decide)) (by rw [pz_reg4 (by omega)]; decide)) (fun b => by rw [pz_reg4 (by omega)]; decide)
    intro g j q1 q2
    by_cases z : 26 + 3 * a ≤ g ∧ g ≤ 28 + 3 * a
    · exfalso; apply q1; rw [pz_reg4 (by omega)]; decide
    · rw [f1 g (by omega)]
theorem pz_lay (x1 x2 x3 : Int32) (h : kv_H) (c3 : pz_c3 h) (c4 : pz_c4 h) (c5 : pz_c5 h) : pz_op [4] pz_c4 (f_X9_lay x1 x2 x3) (f_X10_lay x1 x2 x3) h := by
  rcases pz_cases x1 5 (by omega) with q | ⟨a, ha, rfl⟩
  · refine pz_op_same (-1000000001) c4 (by rw [f_X9_lay, pz_isSlotB q]; rfl) ?_
    have B : ∀ g, f_X10_isSlot x1 g = some (0, g) := fun g => pz_isSlotMB q g
    simp only [f_X10_lay, B, pz_b, pz_jn, pz_isLeafU10, pz_isSheetMU, if_true, ite_self]
  rcases pz_cases x2 4 (by omega) with q | ⟨k, hk, rfl⟩
  · have nk : ∀ k : Nat, k < 4 → ¬ x2 = nI k := by
      intro k hk e
      rcases q with q | q
      · rw [e] at q; exact pz_ng (by omega) q
      · rw [e, pz_le (by omega) (by omega)] at q; omega
    have k0 : ¬ x2 = 0 := nk 0 (by omega)
    have k1 : ¬ x2 = 1 := nk 1 (by omega)
    have k2 : ¬ x2 = 2 := nk 2 (by omega)
    have k3 : ¬ x2 = 3 := nk 3 (by omega)
    refine pz_op_same (-1000000001) c4 ?_ ?_
    · rw [f_X9_lay, pz_isSlotG ha, pz_b, if_neg (by decide)]
      rcases pz_badI (n := 3) q (by omega) with z | z
      · exact if_pos z
      · rw [if_neg (show ¬ x2 ≤ (3 : Int32) from (pz_lt_asym z).2.1)]; exact ite_self _
    · rw [f_X10_lay]
      simp only [pz_jn, if_neg k0, if_neg k1, if_neg k2, if_neg k3, pz_isSlotMG ha, pz_b]
      rfl
  have : k = 0 ∨ k = 1 ∨ k = 2 ∨ k = 3 := by omega
  rcases this with rfl | rfl | rfl | rfl
  · exact pz_lay03 x3 a ha h c4 0 (Or.inl rfl)
  · exact pz_lay1 x3 a ha h c4 c5
  · exact pz_lay2 x3 a ha h c3 c4
  · exact pz_lay03 x3 a ha h c4 3 (Or.inr rfl)

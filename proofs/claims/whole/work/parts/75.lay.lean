/-! PURE PART: lay a leaf -/
theorem pz_lay1 (x3 : Int32) (a : Nat) (ha : a < 5) (h : kv_H) (c4 : pz_c4 h) (c5 : pz_c5 h) : pz_op [4] pz_c4 (f_X9_lay (nI a) (nI 1) x3) (f_X10_lay (nI a) (nI 1) x3) h := by
  obtain ⟨n, D, t, TX, ch, V, X, sp, ru, ca, R, w⟩ := c5
  have hn := w.1.2.1.2.1.1
  have l9 : h 82 8 = nI n := w.1.1.1
  have l10 : h 112 0 = nI n := w.1.2.1.1.1
  obtain ⟨e1, -⟩ := c4 a ha
  rcases pz_cases x3 n (by omega) with q | ⟨i, hi, rfl⟩
  · refine pz_op_same (-1000000001) c4 ?_ ?_
    · simp only [f_X9_lay, pz_isSheetU, pz_isSheetMU, pz_isSlotU, pz_isSlotMU, pz_isKindU, pz_hasU, pz_in, pz_in0, pz_in_m1_1, pz_in_m9_9, pz_in_0_1, pz_in_0_2, pz_in_0_3, pz_in_0_4, pz_in_0_5, pz_in_0_60, pz_in_1_2, pz_in_1_20, pz_in_1_24, pz_in_1_3, pz_in_1_30, pz_in_1_8, pz_in_1_9, pz_in_0_99, pz_in_0_9, pz_b, pz_tbi, pz_ifif, pz_leafAtU, pz_textAtU, pz_orNoneU]; simp (disch := omega) only [pz_lit, pz_leT, pz_leF, pz_ltT, pz_ltF, pz_eqT, pz_eqF, pz_nlt, pz_nle, pz_nlt1, pz_nle1, pz_neq, pz_neq1, pz_nnlT, pz_nnlF, pz_nneT, pz_nneF, pz_cl, pz_kN, pz_add, pz_mul, pz_sub, ↓pz_jn, ↓pz_hl, ↓pz_vl, ↓pz_vL, pz_b, ↓reduceIte, or_false, or_true, false_or, true_or, not_true, not_false_iff, and_true, true_and, and_false, false_and, or_self, e1, pz_leaf9B l9 (by omega) q]
    · simp only [f_X10_lay, pz_isSheetU, pz_isSheetMU, pz_isSlotU, pz_isSlotMU, pz_isKindU, pz_hasU, pz_in, pz_in0, pz_in_m1_1, pz_in_m9_9, pz_in_0_1, pz_in_0_2, pz_in_0_3, pz_in_0_4, pz_in_0_5, pz_in_0_60, pz_in_1_2, pz_in_1_20, pz_in_1_24, pz_in_1_3, pz_in_1_30, pz_in_1_8, pz_in_1_9, pz_in_0_99, pz_in_0_9, pz_b, pz_tbi, pz_ifif, pz_leafAtU, pz_textAtU, pz_orNoneU]; simp (disch := omega) only [pz_lit, pz_leT, pz_leF, pz_ltT, pz_ltF, pz_eqT, pz_eqF, pz_nlt, pz_nle, pz_nlt1, pz_nle1, pz_neq, pz_neq1, pz_nnlT, pz_nnlF, pz_nneT, pz_nneF, pz_cl, pz_kN, pz_add, pz_mul, pz_sub, ↓pz_jn, ↓pz_hl, ↓pz_vl, ↓pz_vL, pz_b, ↓reduceIte, or_false, or_true, false_or, true_or, not_true, not_false_iff, and_true, true_and, and_false, false_and, or_self, pz_leaf10B l10 (by omega) q]
  have lc := w.1.1.2 i hi
  have lm := w.1.2.1.1
  have bb := w.1.2.1.2.1.2 i hi
  have k0 : h 83 i = nI (D 0 i) := lc.1
  have k1 : h 84 i = nI (D 1 i) := lc.2.1
  have k2 : h 85 i = nI (D 2 i) := lc.2.2.1
  have k3 : h 86 i = nI (D 3 i) := lc.2.2.2.1
  have T : f_X4_takeLeaf (26 + 3 * a) 82 (nI i) h = some ((), kv_up (kv_up (kv_up (kv_up h (26 + 3 * a) 3 (nI (D 0 i))) (26 + 3 * a) 4 (nI (D 1 i))) (26 + 3 * a) 5 (nI (D 2 i))) (26 + 3 * a) 6 (nI (D 3 i))) := by
    rw [f_X4_takeLeaf, pz_kN (by omega) (by omega), pz_hl, pz_kN (by omega) (by omega), pz_hl, pz_kN (by omega) (by omega), pz_hl, pz_kN (by omega) (by omega), pz_hl, pz_cl (by omega)]
    simp (disch := omega) only [pz_upne, k0, k1, k2, k3, Nat.reduceAdd]
  obtain ⟨h1, eh1⟩ : ∃ g, g = kv_up (kv_up (kv_up (kv_up (kv_up h (26 + 3 * a) 3 (nI (D 0 i))) (26 + 3 * a) 4 (nI (D 1 i))) (26 + 3 * a) 5 (nI (D 2 i))) (26 + 3 * a) 6 (nI (D 3 i))) (26 + 3 * a) 1 (nI 1) := ⟨_, rfl⟩
  have f1 : ∀ b, b ≠ 26 + 3 * a → h1 b = h b := by intro b hb; rw [eh1]; simp (disch := omega) only [pz_upne]
  have s112 : h1 112 = h 112 := f1 112 (by omega)
  have s118 : h1 118 = h 118 := f1 118 (by omega)
  have g0 : h1 112 (10 + 7 * i) = nI (D 0 i) := by rw [s112]; exact (lm.2 i hi).1
  refine ⟨h 118 a, h1, kv_up (kv_up (kv_up h1 118 a (nI 1)) 119 a (nI (D 0 i))) 120 a (pz_wv (nI (D 0 i)) (nI (D 1 i)) (nI (D 2 i)) (nI (D 3 i))), ?_, ?_, ?_, ?_⟩
  · simp only [f_X9_lay, pz_isSheetU, pz_isSheetMU, pz_isSlotU, pz_isSlotMU, pz_isKindU, pz_hasU, pz_in, pz_in0, pz_in_m1_1, pz_in_m9_9, pz_in_0_1, pz_in_0_2, pz_in_0_3, pz_in_0_4, pz_in_0_5, pz_in_0_60, pz_in_1_2, pz_in_1_20, pz_in_1_24, pz_in_1_3, pz_in_1_30, pz_in_1_8, pz_in_1_9, pz_in_0_99, pz_in_0_9, pz_b, pz_tbi, pz_ifif, pz_leafAtU, pz_textAtU, pz_orNoneU]; simp (disch := omega) only [pz_lit, pz_leT, pz_leF, pz_ltT, pz_ltF, pz_eqT, pz_eqF, pz_nlt, pz_nle, pz_nlt1, pz_nle1, pz_neq, pz_neq1, pz_nnlT, pz_nnlF, pz_nneT, pz_nneF, pz_cl, pz_kN, pz_add, pz_mul, pz_sub, ↓pz_jn, ↓pz_hl, ↓pz_vl, ↓pz_vL, pz_b, ↓reduceIte, or_false, or_true, false_or, true_or, not_true, not_false_iff, and_true, true_and, and_false, false_and, or_self, e1, pz_leaf9G l9 (by omega) hi, T, eh1]
  · have W : ∀ g : kv_H, g 112 = h1 112 → f_X10_worth (nI i) g = some (pz_wv (nI (D 0 i)) (nI (D 1 i)) (nI (D 2 i)) (nI (D 3 i)), g) := fun g eg => pz_worth10 (by rw [eg, s112]; exact lm) hn i hi
    have L : f_X10_isLeaf (nI i) h1 = some (1, h1) := pz_leaf10G (by rw [s112]; exact l10) (by omega) hi
    simp only [f_X10_lay, pz_isSheetU, pz_isSheetMU, pz_isSlotU, pz_isSlotMU, pz_isKindU, pz_hasU, pz_in, pz_in0, pz_in_m1_1, pz_in_m9_9, pz_in_0_1, pz_in_0_2, pz_in_0_3, pz_in_0_4, pz_in_0_5, pz_in_0_60, pz_in_1_2, pz_in_1_20, pz_in_1_24, pz_in_1_3, pz_in_1_30, pz_in_1_8, pz_in_1_9, pz_in_0_99, pz_in_0_9, pz_b, pz_tbi, pz_ifif, pz_leafAtU, pz_textAtU, pz_orNoneU]
    simp (disch := omega) only [pz_lit, pz_leT, pz_leF, pz_ltT, pz_ltF, pz_eqT, pz_eqF, pz_nlt, pz_nle, pz_nlt1, pz_nle1, pz_neq, pz_neq1, pz_nnlT, pz_nnlF, pz_nneT, pz_nneF, pz_cl, pz_kN, pz_add, pz_mul, pz_sub, ↓pz_jn, ↓pz_hl, ↓pz_vl, ↓pz_vL, pz_b, ↓reduceIte, or_false, or_true, false_or, true_or, not_true, not_false_iff, and_true, true_and, and_false, false_and, or_self, L, pz_upne, g0, s118]
    rw [W _ (by simp (disch := omega) only [pz_upne]), pz_b]
  · intro b hb
    by_cases z : b = a
    · subst z
      refine ⟨?_, Or.inr (Or.inl ⟨?_, ?_, ?_, D 0 i, by omega, ?_⟩)⟩
      · simp (disch := omega) only [pz_upne, pz_upeq, pz_upd, if_neg, if_pos, if_true, if_false, eh1]
      · simp (disch := omega) only [pz_upne, pz_upeq, pz_upd, if_neg, if_pos, if_true, if_false, eh1]; rfl
      · simp (disch := omega) only [pz_upne, pz_upeq, pz_upd, if_neg, if_pos, if_true, if_false, eh1]
      · simp (disch := omega) only [pz_upne, pz_upeq, pz_upd, if_neg, if_pos, if_true, if_false, eh1]
      · simp (disch := omega) only [pz_upne, pz_upeq, pz_upd, if_neg, if_pos, if_true, if_false, eh1]
    · refine pz_sl_fr hb (c4 b hb) ?_ ?_ ?_ ?_ ?_ ?_ ?_ ?_ <;> intros <;> simp (disch := omega) only [pz_upne, pz_upeq, pz_upd, if_neg, if_pos, if_true, if_false, f1]
  · refine pz_fr_up (pz_fr_up (pz_fr_up ?_ (by rw [pz_reg4 (by omega)]; decide)) (by rw [pz_reg4 (by omega)]; decide)) (by rw [pz_reg4 (by omega)]; decide)
    intro b j q1 q2
    by_cases z : b = 26 + 3 * a
    · exfalso; apply q1; rw [pz_reg4 (by omega)]; decide
    · rw [f1 b z]

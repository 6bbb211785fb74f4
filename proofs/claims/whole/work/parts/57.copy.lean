/-! PURE PART: copy -/
theorem pz_nn (x : Int32) : x < nI 0 ∨ ∃ j : Nat, j < 2147483648 ∧ x = nI j := by
  by_cases q : x < 0
  · exact Or.inl q
  · obtain ⟨j, hj, e⟩ := nI_of q; exact Or.inr ⟨j, hj, e⟩
theorem pz_gt64 {a b c : Nat} (ha : a < 2147483648) (hb : b < 2147483648) (hc : c < 2147483648) : (0 < lg_cmp ((nI a).toInt64 + (nI b).toInt64) ((nI c).toInt64)) = (c < a + b) := by
  apply propext; rw [lg_cmp_gt, nI_l ha, nI_l hb, nI_l hc, lN_add]
  exact pk_lLT (by omega) (by omega)
theorem pz_le64 {a b c : Nat} (ha : a < 2147483648) (hb : b < 2147483648) (hc : c < 2147483648) : (lg_cmp ((nI a).toInt64 + (nI b).toInt64) ((nI c).toInt64) ≤ 0) = (a + b ≤ c) := by
  apply propext; rw [lg_cmp_le, nI_l ha, nI_l hb, nI_l hc, lN_add]
  exact pk_lLE (by omega) (by omega)
theorem pz_stretch (q : Nat) {p m len : Nat} (h : kv_H) (hp : p < 2147483648) (hm : m < 2147483648) (hl : len < 2147483648) (e : h q 2 = nI len) : f_X3_hasStretch q (nI p) (nI m) h = some ((if p + m ≤ len then 1 else 0), h) := by
  rw [f_X3_hasStretch, e, if_neg (pz_ng hp), if_neg (pz_ng hm)]
  by_cases z : len < m
  · rw [if_pos (nI_lt z hm), if_neg (by omega)]
  · rw [if_neg (nI_nlt (by omega) hl), pz_sub (by omega)]
    by_cases z2 : len - m < p
    · rw [if_pos (nI_lt z2 hp), if_neg (by omega)]
    · rw [if_neg (nI_nlt (by omega) (by omega)), if_pos (by omega)]
theorem pz_stretchN (q : Nat) {x y : Int32} (h : kv_H) (z : x < nI 0 ∨ y < nI 0) : f_X3_hasStretch q x y h = some (0, h) := by
  rw [f_X3_hasStretch]
  by_cases z1 : x < 0
  · rw [if_pos z1]
  · rw [if_neg z1, if_pos (show y < 0 from z.resolve_left z1)]
theorem pz_cpyM1 (f p t a m : Nat) (hf : 24 * f + p + m ≤ 96) (hm : m ≤ 24) (h : kv_H) (C : kv_H → Option (Int32 × kv_H)) : f_X10_copy_L113 (nI f) (nI p) (nI t) (nI a) (nI m) kv_fu (nI 0) h C = C (pz_st h 133 0 m (fun k => h 117 (24 * f + p + k))) := by
  refine pz_for (fun n k g => f_X10_copy_L113 (nI f) (nI p) (nI t) (nI a) (nI m) n (nI k) g C) (fun k g => g = pz_st h 133 0 k (fun k => h 117 (24 * f + p + k))) (fun R => R = C (pz_st h 133 0 m (fun k => h 117 (24 * f + p + k)))) m ?_ ?_ kv_fu 0 _ (by omega) (by rw [show kv_fu = 5000 from rfl]; omega) (pz_st0 _ _ _ _).symm
  · intro n s e
    simp (disch := omega) only [f_X10_copy_L113, pz_lit, pz_leT, pz_leF, pz_ltT, pz_ltF, pz_eqT, pz_eqF, pz_nlt, pz_nle, pz_nlt1, pz_nle1, pz_neq, pz_neq1, pz_nnlT, pz_nnlF, pz_nneT, pz_nneF, pz_cl, pz_kN, pz_add, pz_mul, pz_sub, ↓pz_jn, ↓pz_hl, ↓pz_vl, ↓pz_vL, pz_b, ↓reduceIte, or_false, or_true, false_or, true_or, not_true, not_false_iff, and_true, true_and, and_false, false_and, or_self, e]
  · intro n k s hk e
    right
    refine ⟨_, rfl, ?_⟩
    have e2 : s 117 (24 * f + p + k) = h 117 (24 * f + p + k) := by rw [e, pz_stne _ (by omega)]
    rw [← pz_st1 _ _ _ _ _ (by omega) _ rfl, ← e]
    simp (disch := omega) only [f_X10_copy_L113, pz_lit, pz_leT, pz_leF, pz_ltT, pz_ltF, pz_eqT, pz_eqF, pz_nlt, pz_nle, pz_nlt1, pz_nle1, pz_neq, pz_neq1, pz_nnlT, pz_nnlF, pz_nneT, pz_nneF, pz_cl, pz_kN, pz_add, pz_mul, pz_sub, ↓pz_jn, ↓pz_hl, ↓pz_vl, ↓pz_vL, pz_b, ↓reduceIte, or_false, or_true, false_or, true_or, not_true, not_false_iff, and_true, true_and, and_false, false_and, or_self, e2]
theorem pz_cpyM2 (t a m : Nat) (hf : 24 * t + a + m ≤ 96) (hm : m ≤ 24) (h : kv_H) (C : kv_H → Option (Int32 × kv_H)) : f_X10_copy_L150 (nI t) (nI a) (nI m) kv_fu (nI 0) h C = C (pz_st h 117 (24 * t + a) (24 * t + a + m) (fun b => h 133 (b - (24 * t + a)))) := by
  refine pz_for (fun n k g => f_X10_copy_L150 (nI t) (nI a) (nI m) n (nI k) g C) (fun k g => g = pz_st h 117 (24 * t + a) (24 * t + a + k) (fun b => h 133 (b - (24 * t + a)))) (fun R => R = C (pz_st h 117 (24 * t + a) (24 * t + a + m) (fun b => h 133 (b - (24 * t + a))))) m ?_ ?_ kv_fu 0 _ (by omega) (by rw [show kv_fu = 5000 from rfl]; omega) (pz_st0 _ _ _ _).symm
  · intro n s e
    simp (disch := omega) only [f_X10_copy_L150, pz_lit, pz_leT, pz_leF, pz_ltT, pz_ltF, pz_eqT, pz_eqF, pz_nlt, pz_nle, pz_nlt1, pz_nle1, pz_neq, pz_neq1, pz_nnlT, pz_nnlF, pz_nneT, pz_nneF, pz_cl, pz_kN, pz_add, pz_mul, pz_sub, ↓pz_jn, ↓pz_hl, ↓pz_vl, ↓pz_vL, pz_b, ↓reduceIte, or_false, or_true, false_or, true_or, not_true, not_false_iff, and_true, true_and, and_false, false_and, or_self, e]
  · intro n k s hk e
    right
    refine ⟨_, rfl, ?_⟩
    have e2 : s 133 k = h 133 k := by rw [e, pz_stne _ (by omega)]
    rw [show 24 * t + a + (k + 1) = 24 * t + a + k + 1 from rfl, ← pz_st1 h 117 _ _ _ (by omega) (h 133 k) (by rw [show 24 * t + a + k - (24 * t + a) = k from by omega]), ← e]
    simp (disch := omega) only [f_X10_copy_L150, pz_lit, pz_leT, pz_leF, pz_ltT, pz_ltF, pz_eqT, pz_eqF, pz_nlt, pz_nle, pz_nlt1, pz_nle1, pz_neq, pz_neq1, pz_nnlT, pz_nnlF, pz_nneT, pz_nneF, pz_cl, pz_kN, pz_add, pz_mul, pz_sub, ↓pz_jn, ↓pz_hl, ↓pz_vl, ↓pz_vL, pz_b, ↓reduceIte, or_false, or_true, false_or, true_or, not_true, not_false_iff, and_true, true_and, and_false, false_and, or_self, e2]
theorem pz_copy (x1 x2 x3 x4 x5 : Int32) (h : kv_H) (c : pz_c3 h) : pz_op [3] pz_c3 (f_X9_copy x1 x2 x3 x4 x5) (f_X10_copy x1 x2 x3 x4 x5) h := by
  rcases pz_cases x1 4 (by omega) with q | ⟨f, hf, rfl⟩
  · exact pz_op_same (-1000000001) c (by rw [f_X9_copy, pz_isSheetB q]; rfl) (by rw [f_X10_copy, pz_isSheetMB q]; rfl)
  rcases pz_cases x3 4 (by omega) with q | ⟨t, ht, rfl⟩
  · exact pz_op_same (-1000000001) c (by rw [f_X9_copy, pz_isSheetG hf, pz_b, pz_isSheetB q]; rfl) (by rw [f_X10_copy, pz_isSheetMG hf, pz_b, pz_isSheetMB q]; rfl)
  obtain ⟨e1, e2⟩ := c f hf
  obtain ⟨g1, g2⟩ := c t ht
  rcases e2 with e2 | ⟨e2, lf, hlf, e3, e4, e5⟩
  · have e1' := e1.trans e2
    refine pz_op_same (-1000000011) c ?_ ?_
    · simp only [f_X9_copy, pz_isSheetU, pz_isSheetMU, pz_isSlotU, pz_isSlotMU, pz_isKindU, pz_hasU, pz_in, pz_in0, pz_in_m1_1, pz_in_m9_9, pz_in_0_1, pz_in_0_2, pz_in_0_3, pz_in_0_4, pz_in_0_5, pz_in_0_60, pz_in_1_2, pz_in_1_20, pz_in_1_24, pz_in_1_3, pz_in_1_30, pz_in_1_8, pz_in_1_9, pz_in_0_99, pz_in_0_9, pz_b, pz_tbi, pz_ifif, pz_leafAtU, pz_textAtU, pz_orNoneU]; simp (disch := omega) only [pz_lit, pz_leT, pz_leF, pz_ltT, pz_ltF, pz_eqT, pz_eqF, pz_nlt, pz_nle, pz_nlt1, pz_nle1, pz_neq, pz_neq1, pz_nnlT, pz_nnlF, pz_nneT, pz_nneF, pz_cl, pz_kN, pz_add, pz_mul, pz_sub, ↓pz_jn, ↓pz_hl, ↓pz_vl, ↓pz_vL, pz_b, ↓reduceIte, or_false, or_true, false_or, true_or, not_true, not_false_iff, and_true, true_and, and_false, false_and, or_self, e1']
    · simp only [f_X10_copy, pz_isSheetU, pz_isSheetMU, pz_isSlotU, pz_isSlotMU, pz_isKindU, pz_hasU, pz_in, pz_in0, pz_in_m1_1, pz_in_m9_9, pz_in_0_1, pz_in_0_2, pz_in_0_3, pz_in_0_4, pz_in_0_5, pz_in_0_60, pz_in_1_2, pz_in_1_20, pz_in_1_24, pz_in_1_3, pz_in_1_30, pz_in_1_8, pz_in_1_9, pz_in_0_99, pz_in_0_9, pz_b, pz_tbi, pz_ifif, pz_leafAtU, pz_textAtU, pz_orNoneU]; simp (disch := omega) only [pz_lit, pz_leT, pz_leF, pz_ltT, pz_ltF, pz_eqT, pz_eqF, pz_nlt, pz_nle, pz_nlt1, pz_nle1, pz_neq, pz_neq1, pz_nnlT, pz_nnlF, pz_nneT, pz_nneF, pz_cl, pz_kN, pz_add, pz_mul, pz_sub, ↓pz_jn, ↓pz_hl, ↓pz_vl, ↓pz_vL, pz_b, ↓reduceIte, or_false, or_true, false_or, true_or, not_true, not_false_iff, and_true, true_and, and_false, false_and, or_self, e2]
  rcases g2 with g2 | ⟨g2, lt, hlt, g3, g4, g5⟩
  · have g1' := g1.trans g2
    refine pz_op_same (-1000000011) c ?_ ?_
    · simp only [f_X9_copy, pz_isSheetU, pz_isSheetMU, pz_isSlotU, pz_isSlotMU, pz_isKindU, pz_hasU, pz_in, pz_in0, pz_in_m1_1, pz_in_m9_9, pz_in_0_1, pz_in_0_2, pz_in_0_3, pz_in_0_4, pz_in_0_5, pz_in_0_60, pz_in_1_2, pz_in_1_20, pz_in_1_24, pz_in_1_3, pz_in_1_30, pz_in_1_8, pz_in_1_9, pz_in_0_99, pz_in_0_9, pz_b, pz_tbi, pz_ifif, pz_leafAtU, pz_textAtU, pz_orNoneU]; simp (disch := omega) only [pz_lit, pz_leT, pz_leF, pz_ltT, pz_ltF, pz_eqT, pz_eqF, pz_nlt, pz_nle, pz_nlt1, pz_nle1, pz_neq, pz_neq1, pz_nnlT, pz_nnlF, pz_nneT, pz_nneF, pz_cl, pz_kN, pz_add, pz_mul, pz_sub, ↓pz_jn, ↓pz_hl, ↓pz_vl, ↓pz_vL, pz_b, ↓reduceIte, or_false, or_true, false_or, true_or, not_true, not_false_iff, and_true, true_and, and_false, false_and, or_self, g1', e1, ite_self]
    · rcases e2 with e2 | e2
      · simp only [f_X10_copy, pz_isSheetU, pz_isSheetMU, pz_isSlotU, pz_isSlotMU, pz_isKindU, pz_hasU, pz_in, pz_in0, pz_in_m1_1, pz_in_m9_9, pz_in_0_1, pz_in_0_2, pz_in_0_3, pz_in_0_4, pz_in_0_5, pz_in_0_60, pz_in_1_2, pz_in_1_20, pz_in_1_24, pz_in_1_3, pz_in_1_30, pz_in_1_8, pz_in_1_9, pz_in_0_99, pz_in_0_9, pz_b, pz_tbi, pz_ifif, pz_leafAtU, pz_textAtU, pz_orNoneU]; simp (disch := omega) only [pz_lit, pz_leT, pz_leF, pz_ltT, pz_ltF, pz_eqT, pz_eqF, pz_nlt, pz_nle, pz_nlt1, pz_nle1, pz_neq, pz_neq1, pz_nnlT, pz_nnlF, pz_nneT, pz_nneF, pz_cl, pz_kN, pz_add, pz_mul, pz_sub, ↓pz_jn, ↓pz_hl, ↓pz_vl, ↓pz_vL, pz_b, ↓reduceIte, or_false, or_true, false_or, true_or, not_true, not_false_iff, and_true, true_and, and_false, false_and, or_self, e2, g2]
      · simp only [f_X10_copy, pz_isSheetU, pz_isSheetMU, pz_isSlotU, pz_isSlotMU, pz_isKindU, pz_hasU, pz_in, pz_in0, pz_in_m1_1, pz_in_m9_9, pz_in_0_1, pz_in_0_2, pz_in_0_3, pz_in_0_4, pz_in_0_5, pz_in_0_60, pz_in_1_2, pz_in_1_20, pz_in_1_24, pz_in_1_3, pz_in_1_30, pz_in_1_8, pz_in_1_9, pz_in_0_99, pz_in_0_9, pz_b, pz_tbi, pz_ifif, pz_leafAtU, pz_textAtU, pz_orNoneU]; simp (disch := omega) only [pz_lit, pz_leT, pz_leF, pz_ltT, pz_ltF, pz_eqT, pz_eqF, pz_nlt, pz_nle, pz_nlt1, pz_nle1, pz_neq, pz_neq1, pz_nnlT, pz_nnlF, pz_nneT, pz_nneF, pz_cl, pz_kN, pz_add, pz_mul, pz_sub, ↓pz_jn, ↓pz_hl, ↓pz_vl, ↓pz_vL, pz_b, ↓reduceIte, or_false, or_true, false_or, true_or, not_true, not_false_iff, and_true, true_and, and_false, false_and, or_self, e2, g2]
  have n1 : ¬ h 115 f = -nI 1 := by rcases e2 with e2 | e2 <;> rw [e2] <;> decide
  have n2 : ¬ h 115 t = -nI 1 := by rcases g2 with e2 | e2 <;> rw [e2] <;> decide
  have n3 : ¬ h 115 f < nI 0 := by rcases e2 with e2 | e2 <;> rw [e2] <;> decide
  have n4 : nI 0 ≤ h 115 t := by rcases g2 with e2 | e2 <;> rw [e2] <;> decide
  by_cases n5 : ¬ h 115 f = h 115 t
  · refine pz_op_same (-1000000012) c ?_ ?_
    · simp only [f_X9_copy, pz_isSheetU, pz_isSheetMU, pz_isSlotU, pz_isSlotMU, pz_isKindU, pz_hasU, pz_in, pz_in0, pz_in_m1_1, pz_in_m9_9, pz_in_0_1, pz_in_0_2, pz_in_0_3, pz_in_0_4, pz_in_0_5, pz_in_0_60, pz_in_1_2, pz_in_1_20, pz_in_1_24, pz_in_1_3, pz_in_1_30, pz_in_1_8, pz_in_1_9, pz_in_0_99, pz_in_0_9, pz_b, pz_tbi, pz_ifif, pz_leafAtU, pz_textAtU, pz_orNoneU]; simp (disch := omega) only [pz_lit, pz_leT, pz_leF, pz_ltT, pz_ltF, pz_eqT, pz_eqF, pz_nlt, pz_nle, pz_nlt1, pz_nle1, pz_neq, pz_neq1, pz_nnlT, pz_nnlF, pz_nneT, pz_nneF, pz_cl, pz_kN, pz_add, pz_mul, pz_sub, ↓pz_jn, ↓pz_hl, ↓pz_vl, ↓pz_vL, pz_b, ↓reduceIte, or_false, or_true, false_or, true_or, not_true, not_false_iff, and_true, true_and, and_false, false_and, or_self, e1, g1, n1, n2, n5]
    · simp only [f_X10_copy, pz_isSheetU, pz_isSheetMU, pz_isSlotU, pz_isSlotMU, pz_isKindU, pz_hasU, pz_in, pz_in0, pz_in_m1_1, pz_in_m9_9, pz_in_0_1, pz_in_0_2, pz_in_0_3, pz_in_0_4, pz_in_0_5, pz_in_0_60, pz_in_1_2, pz_in_1_20, pz_in_1_24, pz_in_1_3, pz_in_1_30, pz_in_1_8, pz_in_1_9, pz_in_0_99, pz_in_0_9, pz_b, pz_tbi, pz_ifif, pz_leafAtU, pz_textAtU, pz_orNoneU]; simp (disch := omega) only [pz_lit, pz_leT, pz_leF, pz_ltT, pz_ltF, pz_eqT, pz_eqF, pz_nlt, pz_nle, pz_nlt1, pz_nle1, pz_neq, pz_neq1, pz_nnlT, pz_nnlF, pz_nneT, pz_nneF, pz_cl, pz_kN, pz_add, pz_mul, pz_sub, ↓pz_jn, ↓pz_hl, ↓pz_vl, ↓pz_vL, pz_b, ↓reduceIte, or_false, or_true, false_or, true_or, not_true, not_false_iff, and_true, true_and, and_false, false_and, or_self, n3, n4, n5]
  have n5 : h 115 f = h 115 t := Classical.byContradiction n5
  have n5' : h (18 + 2 * f) 1 = h (18 + 2 * t) 1 := by rw [e1, g1, n5]
  have n1' : ¬ h (18 + 2 * f) 1 = -nI 1 := by rw [e1]; exact n1
  have n2' : ¬ h (18 + 2 * t) 1 = -nI 1 := by rw [g1]; exact n2
  have bad : (f_X9_copy (nI f) x2 (nI t) x4 x5 h = some (-1000000013, h)) → (f_X10_copy (nI f) x2 (nI t) x4 x5 h = some (-1000000013, h)) → pz_op [3] pz_c3 (f_X9_copy (nI f) x2 (nI t) x4 x5) (f_X10_copy (nI f) x2 (nI t) x4 x5) h := fun z1 z2 => pz_op_same _ c z1 z2
  have A9 : f_X9_copy (nI f) x2 (nI t) x4 x5 h = kv_b (f_X3_hasStretch (18 + 2 * f) x2 x5 h) (fun r8 h7 => if r8 = 0 then some (-1000000013, h7) else kv_b (f_X3_hasStretch (18 + 2 * t) x4 x5 h7) (fun r10 h9 => if r10 = 0 then some (-1000000013, h9) else kv_y x2 x4 x5 24 24 (kv_hl (kv_row h9 (18 + 2 * t + 1) (va_cpy (h9 (18 + 2 * f + 1)) (h9 (18 + 2 * t + 1)) x2.toNatClampNeg x4.toNatClampNeg x5.toNatClampNeg)) (fun h11 => some (x5, h11))))) := by
    rw [f_X9_copy, pz_isSheetG hf, pz_b, if_neg (by decide), pz_isSheetG ht, pz_b, if_neg (by decide), pz_kN hf (by omega), pz_kN ht (by omega), pz_cl (by omega), pz_cl (by omega), if_neg (show ¬ h (18 + 2 * f) 1 = (-1 : Int32) from n1'), if_neg (show ¬ h (18 + 2 * t) 1 = (-1 : Int32) from n2'), if_pos n5']
  have A10 : ∀ g : kv_H, g 115 f = h 115 f → g 115 t = h 115 t → g 116 f = h 116 f → g 116 t = h 116 t → f_X10_copy (nI f) x2 (nI t) x4 x5 g = (if x2 < 0 then some (-1000000013, g) else if x4 < 0 then some (-1000000013, g) else if x5 < 0 then some (-1000000013, g) else if 0 < lg_cmp (x2.toInt64 + x5.toInt64) ((nI lf).toInt64) then some (-1000000013, g) else if lg_cmp (x4.toInt64 + x5.toInt64) ((nI lt).toInt64) ≤ 0 then f_X10_copy_L113 (nI f) x2 (nI t) x4 x5 kv_fu 0 g (fun h6 => f_X10_copy_L150 (nI t) x4 x5 kv_fu 0 h6 (fun h8 => some (x5, h8))) else some (-1000000013, g)) := by
    intro g q1 q2 q3 q4
    rw [f_X10_copy, pz_isSheetMG hf, pz_b, if_neg (by decide), pz_isSheetMG ht, pz_b, if_neg (by decide), pz_cl (by omega), pz_cl (by omega), q1, q2, q3, q4, e4, g4]
    rw [pz_kN hf (by omega), if_neg (show ¬ h 115 f < (0 : Int32) from n3), pz_kN ht (by omega), if_pos (show (0 : Int32) ≤ h 115 t from n4), pz_kN hf (by omega), pz_kN ht (by omega), if_pos n5, pz_kN hf (by omega), pz_kN ht (by omega)]
  have A10' := A10 h rfl rfl rfl rfl
  rcases pz_nn x5 with q | ⟨m, hm, rfl⟩
  · refine bad (by rw [A9, pz_stretchN _ h (Or.inr q)]; rfl) ?_
    rw [A10', if_pos (show x5 < 0 from q)]
    by_cases z : x2 < 0
    · rw [if_pos z]
    · rw [if_neg z]; exact ite_self _
  rcases pz_nn x2 with q | ⟨p, hp, rfl⟩
  · refine bad (by rw [A9, pz_stretchN _ h (Or.inl q)]; rfl) ?_
    rw [A10', if_pos (show x2 < 0 from q)]
  rcases pz_nn x4 with q | ⟨a, ha, rfl⟩
  · refine bad ?_ ?_
    · rw [A9, pz_stretch _ h hp hm (by omega) e3, pz_b]
      by_cases z : p + m ≤ lf
      · rw [if_pos z, if_neg (by decide), pz_stretchN _ h (Or.inl q)]; rfl
      · rw [if_neg z]; rfl
    · rw [A10', if_pos (show x4 < 0 from q)]; exact ite_self _
  by_cases z : ¬ p + m ≤ lf
  · refine bad ?_ ?_
    · rw [A9, pz_stretch _ h hp hm (by omega) e3, pz_b, if_neg z]; rfl
    · rw [A10', if_neg (pz_ng hp), if_neg (pz_ng ha), if_neg (pz_ng hm), if_pos (by rw [pz_gt64 hp hm (by omega)]; omega)]
  have z : p + m ≤ lf := by omega
  by_cases z2 : ¬ a + m ≤ lt
  · refine bad ?_ ?_
    · rw [A9, pz_stretch _ h hp hm (by omega) e3, pz_b, if_pos z, if_neg (by decide), pz_stretch _ h ha hm (by omega) g3, pz_b, if_neg z2]; rfl
    · rw [A10', if_neg (pz_ng hp), if_neg (pz_ng ha), if_neg (pz_ng hm), if_neg (by rw [pz_gt64 hp hm (by omega)]; omega), if_neg (by rw [pz_le64 ha hm (by omega)]; omega)]
  have z2 : a + m ≤ lt := by omega
  refine ⟨nI m, kv_row h (18 + 2 * t + 1) (va_cpy (h (18 + 2 * f + 1)) (h (18 + 2 * t + 1)) p a m), pz_st (pz_st (kv_row h (18 + 2 * t + 1) (va_cpy (h (18 + 2 * f + 1)) (h (18 + 2 * t + 1)) p a m)) 133 0 m (fun k => (kv_row h (18 + 2 * t + 1) (va_cpy (h (18 + 2 * f + 1)) (h (18 + 2 * t + 1)) p a m)) 117 (24 * f + p + k))) 117 (24 * t + a) (24 * t + a + m) (fun b => (pz_st (kv_row h (18 + 2 * t + 1) (va_cpy (h (18 + 2 * f + 1)) (h (18 + 2 * t + 1)) p a m)) 133 0 m (fun k => (kv_row h (18 + 2 * t + 1) (va_cpy (h (18 + 2 * f + 1)) (h (18 + 2 * t + 1)) p a m)) 117 (24 * f + p + k))) 133 (b - (24 * t + a))), ?_, ?_, ?_, ?_⟩
  rotate_left 1
  · rw [A10 _ (by rw [pz_rowne _ (by omega)]) (by rw [pz_rowne _ (by omega)]) (by rw [pz_rowne _ (by omega)]) (by rw [pz_rowne _ (by omega)])]
    rw [if_neg (pz_ng hp), if_neg (pz_ng ha), if_neg (pz_ng hm), if_neg (by rw [pz_gt64 hp hm (by omega)]; omega), if_pos (by rw [pz_le64 ha hm (by omega)]; omega)]
    rw [show (0 : Int32) = nI 0 from rfl, pz_cpyM1 f p t a m (by omega) (by omega), pz_cpyM2 t a m (by omega) (by omega)]
  · intro i hi
    by_cases e : i = t
    · subst e
      refine ⟨?_, Or.inr ⟨?_, lt, hlt, ?_, ?_, ?_⟩⟩
      · simp (disch := omega) only [pz_stne, pz_rowne]; exact g1
      · simp (disch := omega) only [pz_stne, pz_rowne]; exact g2
      · simp (disch := omega) only [pz_stne, pz_rowne]; exact g3
      · simp (disch := omega) only [pz_stne, pz_rowne]; exact g4
      · intro k hk
        rw [pz_stne _ (by omega), pz_stne _ (by omega), show 19 + 2 * i = 18 + 2 * i + 1 from by omega, pz_roweq]
        by_cases z3 : a ≤ k ∧ k < a + m
        · rw [pk_cpy_in z3.1 z3.2, pz_stin _ (by omega) (by omega), pz_stin _ (by omega) (by omega), pz_rowne _ (by omega)]
          rw [show 18 + 2 * f + 1 = 19 + 2 * f from by omega, e5 _ (by omega)]
          congr 1; omega
        · rw [pk_cpy_out (by omega), pz_stout _ (by omega), pz_stne _ (by omega), pz_rowne _ (by omega), show 18 + 2 * i + 1 = 19 + 2 * i from by omega]; exact g5 k hk
    · refine pz_sh_fr hi (c i hi) ?_ ?_ ?_ ?_ ?_
      · intro b; simp (disch := omega) only [pz_stne, pz_rowne]
      · intro b; simp (disch := omega) only [pz_stne, pz_rowne]
      · simp (disch := omega) only [pz_stne, pz_rowne]
      · simp (disch := omega) only [pz_stne, pz_rowne]
      · intro k2 hk2; rw [pz_stout _ (by omega), pz_stne _ (by omega), pz_rowne _ (by omega)]
  · exact pz_fr_st (pz_fr_st (pz_fr_row (pz_fr_refl _ h) (fun b => by rw [pz_reg3 (by omega)]; decide)) (fun b => Or.inr (by simp [pz_reg]))) (fun b => by rw [pz_reg3 (by omega)]; decide)
  · rw [A9, pz_stretch _ h hp hm (by omega) e3, pz_b, if_pos z, if_neg (by decide), pz_stretch _ h ha hm (by omega) g3, pz_b, if_pos z2, if_neg (by decide), kv_y, if_neg (by
      rw [pz_cl hp, pz_cl ha, pz_cl hm]
      rintro (y | y | y | y | y)
      · exact pz_ng hp y
      · exact pz_ng ha y
      · exact pz_ng hm y
      · omega
      · omega), pz_hl, pz_cl hp, pz_cl ha, pz_cl hm]

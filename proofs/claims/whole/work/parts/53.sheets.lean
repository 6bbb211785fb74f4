/-! PURE PART: sheets' calls -/
/-- -1, 0, 1 or none of them -/
theorem pz_sort (x : Int32) : (x < -1 ∨ 1 < x) ∨ x = -1 ∨ x = 0 ∨ x = 1 := by
  by_cases q : x < -1
  · exact Or.inl (Or.inl q)
  by_cases q2 : 1 < x
  · exact Or.inl (Or.inr q2)
  right
  rw [Int32.lt_iff_toInt_lt] at q q2
  have a : ((-1 : Int32)).toInt = -1 := rfl
  have b : ((1 : Int32)).toInt = 1 := rfl
  have c : ((0 : Int32)).toInt = 0 := rfl
  rw [a] at q; rw [b] at q2
  have : x.toInt = -1 ∨ x.toInt = 0 ∨ x.toInt = 1 := by omega
  rcases this with t | t | t
  · left; exact Int32.toInt_inj.mp (by rw [t, a])
  · right; left; exact Int32.toInt_inj.mp (by rw [t, c])
  · right; right; exact Int32.toInt_inj.mp (by rw [t, b])
theorem pz_op_same {S : List Nat} {C : kv_H → Prop} {F F2 : kv_H → Option (Int32 × kv_H)} {h : kv_H} (r : Int32) (c : C h) (e1 : F h = some (r, h)) (e2 : F2 h = some (r, h)) : pz_op S C F F2 h := ⟨r, h, h, e1, e2, c, pz_fr_refl S h⟩
theorem pz_sheet (x1 x2 x3 : Int32) (h : kv_H) (c : pz_c3 h) : pz_op [3] pz_c3 (f_X9_sheet x1 x2 x3) (f_X10_sheet x1 x2 x3) h := by
  rcases pz_cases x1 4 (by omega) with q | ⟨j, hj, rfl⟩
  · exact pz_op_same (-1000000001) c (by rw [f_X9_sheet, pz_isSheetB q]; rfl) (by rw [f_X10_sheet, pz_isSheetMB q]; rfl)
  rcases pz_sort x2 with q | rfl | q
  · refine pz_op_same (-1000000001) c ?_ ?_
    · rw [f_X9_sheet, pz_isSheetG hj, pz_b, if_neg (by decide)]
      rcases q with q | q
      · exact if_pos q
      · by_cases q2 : x2 < -1
        · exact if_pos q2
        · rw [if_neg q2]; exact if_neg (pz_lt_asym q).2.1
    · rw [f_X10_sheet, pz_isSheetMG hj, pz_b, if_neg (by decide), pz_in_m1_1, if_pos q]; rfl
  · refine ⟨0, kv_up h (18 + 2 * j) 1 (-1), pz_st (kv_up (kv_up (kv_up h (18 + 2 * j) 1 (-1)) 115 j (-1)) 116 j 0) 117 (24 * j) (24 * j + 24) (fun _ => 0), ?_, ?_, ?_, ?_⟩
    · rw [f_X9_sheet, pz_isSheetG hj, pz_b, pz_kN hj (by omega), pz_hl, pz_cl (by omega)]; rfl
    · simp only [f_X10_sheet, pz_isSheetU, pz_isSheetMU, pz_isSlotU, pz_isSlotMU, pz_isKindU, pz_hasU, pz_in, pz_in0, pz_in_m1_1, pz_in_m9_9, pz_in_0_1, pz_in_0_2, pz_in_0_3, pz_in_0_4, pz_in_0_5, pz_in_0_60, pz_in_1_2, pz_in_1_20, pz_in_1_24, pz_in_1_3, pz_in_1_30, pz_in_1_8, pz_in_1_9, pz_in_0_99, pz_in_0_9, pz_b, pz_tbi, pz_ifif, pz_leafAtU, pz_textAtU, pz_orNoneU]; simp (disch := omega) only [pz_lit, pz_leT, pz_leF, pz_ltT, pz_ltF, pz_eqT, pz_eqF, pz_nlt, pz_nle, pz_nlt1, pz_nle1, pz_neq, pz_neq1, pz_nnlT, pz_nnlF, pz_nneT, pz_nneF, pz_cl, pz_kN, pz_add, pz_mul, pz_sub, ↓pz_jn, ↓pz_hl, ↓pz_vl, ↓pz_vL, pz_b, ↓reduceIte, or_false, or_true, false_or, true_or, not_true, not_false_iff, and_true, true_and, and_false, false_and, or_self, pz_clr _ hj, pz_stne, pz_upeq, pz_upd]
    · intro i hi
      by_cases e : i = j
      · subst e
        refine ⟨?_, Or.inl ?_⟩
        · rw [pz_stne _ (by omega), pz_stne _ (by omega), pz_upne (by omega), pz_upne (by omega), pz_upeq, pz_upne (by omega), pz_upeq, pz_upd, pz_upd, if_pos rfl, if_pos rfl]
        · rw [pz_stne _ (by omega), pz_upne (by omega), pz_upeq, pz_upd, if_pos rfl]
      · refine pz_sh_fr hi (c i hi) ?_ ?_ ?_ ?_ ?_
        · intro b; rw [pz_stne _ (by omega), pz_upne (by omega), pz_upne (by omega), pz_upne (by omega)]
        · intro b; rw [pz_stne _ (by omega), pz_upne (by omega), pz_upne (by omega), pz_upne (by omega)]
        · rw [pz_stne _ (by omega), pz_upne (by omega), pz_upeq, pz_upd, if_neg e, pz_upne (by omega)]
        · rw [pz_stne _ (by omega), pz_upeq, pz_upd, if_neg e, pz_upne (by omega), pz_upne (by omega)]
        · intro k hk; rw [pz_stout _ (by omega), pz_upne (by omega), pz_upne (by omega), pz_upne (by omega)]
    · exact pz_fr_st (pz_fr_up (pz_fr_up (pz_fr_up (pz_fr_refl _ h) (by rw [pz_reg3 (by omega)]; decide)) (by rw [pz_reg3 (by omega)]; decide)) (by rw [pz_reg3 (by omega)]; decide)) (fun b => by rw [pz_reg3 (by omega)]; decide)
  · have q0 : nI 0 ≤ x2 := by rcases q with rfl | rfl <;> decide
    have q1 : ¬ x2 < nI 0 := by rcases q with rfl | rfl <;> decide
    have qm : ¬ x2 < -nI 1 := by rcases q with rfl | rfl <;> decide
    have qn : ¬ x2 = -nI 1 := by rcases q with rfl | rfl <;> decide
    have ql : x2 ≤ nI 1 := by rcases q with rfl | rfl <;> decide
    have qr : ¬ (x2 < -nI 1 ∨ nI 1 < x2) := by rcases q with rfl | rfl <;> decide
    by_cases q3 : x3 ≤ nI 24
    · by_cases q4 : nI 0 ≤ x3
      · obtain ⟨m, hm, rfl⟩ : ∃ m, m ≤ 24 ∧ x3 = nI m := by
          rcases pz_cases x3 25 (by omega) with z | ⟨m, hm, e⟩
          · exfalso; rcases z with z | z
            · exact (pz_lt_asym z).2.1 q4
            · have : nI 24 < x3 := by rw [pz_lt_le (by omega)]; exact z
              exact (pz_lt_asym this).2.1 q3
          · exact ⟨m, by omega, e⟩
        refine ⟨nI m, pz_st (kv_up (kv_up h (18 + 2 * j) 1 x2) (18 + 2 * j) 2 (nI m)) (18 + 2 * j + 1) 0 m (fun _ => 0), pz_st (kv_up (kv_up (pz_st (kv_up (kv_up h (18 + 2 * j) 1 x2) (18 + 2 * j) 2 (nI m)) (18 + 2 * j + 1) 0 m (fun _ => 0)) 115 j x2) 116 j (nI m)) 117 (24 * j) (24 * j + 24) (fun _ => 0), ?_, ?_, ?_, ?_⟩
        · simp only [f_X9_sheet, pz_isSheetU, pz_isSheetMU, pz_isSlotU, pz_isSlotMU, pz_isKindU, pz_hasU, pz_in, pz_in0, pz_in_m1_1, pz_in_m9_9, pz_in_0_1, pz_in_0_2, pz_in_0_3, pz_in_0_4, pz_in_0_5, pz_in_0_60, pz_in_1_2, pz_in_1_20, pz_in_1_24, pz_in_1_3, pz_in_1_30, pz_in_1_8, pz_in_1_9, pz_in_0_99, pz_in_0_9, pz_b, pz_tbi, pz_ifif, pz_leafAtU, pz_textAtU, pz_orNoneU]; simp (disch := omega) only [pz_lit, pz_leT, pz_leF, pz_ltT, pz_ltF, pz_eqT, pz_eqF, pz_nlt, pz_nle, pz_nlt1, pz_nle1, pz_neq, pz_neq1, pz_nnlT, pz_nnlF, pz_nneT, pz_nneF, pz_cl, pz_kN, pz_add, pz_mul, pz_sub, ↓pz_jn, ↓pz_hl, ↓pz_vl, ↓pz_vL, pz_b, ↓reduceIte, or_false, or_true, false_or, true_or, not_true, not_false_iff, and_true, true_and, and_false, false_and, or_self, qm, ql, qn, q3, q4, pz_begin _ _ hm]
        · simp only [f_X10_sheet, pz_isSheetU, pz_isSheetMU, pz_isSlotU, pz_isSlotMU, pz_isKindU, pz_hasU, pz_in, pz_in0, pz_in_m1_1, pz_in_m9_9, pz_in_0_1, pz_in_0_2, pz_in_0_3, pz_in_0_4, pz_in_0_5, pz_in_0_60, pz_in_1_2, pz_in_1_20, pz_in_1_24, pz_in_1_3, pz_in_1_30, pz_in_1_8, pz_in_1_9, pz_in_0_99, pz_in_0_9, pz_b, pz_tbi, pz_ifif, pz_leafAtU, pz_textAtU, pz_orNoneU]; simp (disch := omega) only [pz_lit, pz_leT, pz_leF, pz_ltT, pz_ltF, pz_eqT, pz_eqF, pz_nlt, pz_nle, pz_nlt1, pz_nle1, pz_neq, pz_neq1, pz_nnlT, pz_nnlF, pz_nneT, pz_nneF, pz_cl, pz_kN, pz_add, pz_mul, pz_sub, ↓pz_jn, ↓pz_hl, ↓pz_vl, ↓pz_vL, pz_b, ↓reduceIte, or_false, or_true, false_or, true_or, not_true, not_false_iff, and_true, true_and, and_false, false_and, or_self, qr, q1, q3, q4, q0, pz_clr _ hj, pz_stne, pz_upeq, pz_upd]
        · intro i hi
          by_cases e : i = j
          · subst e
            refine ⟨?_, Or.inr ⟨?_, m, hm, ?_, ?_, ?_⟩⟩
            · rw [pz_stne _ (by omega), pz_stne _ (by omega), pz_upne (by omega), pz_upne (by omega), pz_stne _ (by omega), pz_upeq, pz_upd, if_neg (by decide), pz_upeq, pz_upd, if_pos rfl, pz_upne (by omega), pz_upeq, pz_upd, if_pos rfl]
            · rw [pz_stne _ (by omega), pz_upne (by omega), pz_upeq, pz_upd, if_pos rfl]; exact q
            · rw [pz_stne _ (by omega), pz_upne (by omega), pz_upne (by omega), pz_stne _ (by omega), pz_upeq, pz_upd, if_pos rfl]
            · rw [pz_stne _ (by omega), pz_upeq, pz_upd, if_pos rfl]
            · intro k hk
              rw [pz_stin _ (by omega) (by omega), pz_stne _ (by omega), pz_upne (by omega), pz_upne (by omega), show 19 + 2 * i = 18 + 2 * i + 1 from by omega, pz_stin _ (by omega) (by omega)]
          · refine pz_sh_fr hi (c i hi) ?_ ?_ ?_ ?_ ?_
            · intro b; rw [pz_stne _ (by omega), pz_upne (by omega), pz_upne (by omega), pz_stne _ (by omega), pz_upne (by omega), pz_upne (by omega)]
            · intro b; rw [pz_stne _ (by omega), pz_upne (by omega), pz_upne (by omega), pz_stne _ (by omega), pz_upne (by omega), pz_upne (by omega)]
            · rw [pz_stne _ (by omega), pz_upne (by omega), pz_upeq, pz_upd, if_neg e, pz_stne _ (by omega), pz_upne (by omega), pz_upne (by omega)]
            · rw [pz_stne _ (by omega), pz_upeq, pz_upd, if_neg e, pz_upne (by omega), pz_stne _ (by omega), pz_upne (by omega), pz_upne (by omega)]
            · intro k hk; rw [pz_stout _ (by omega), pz_upne (by omega), pz_upne (by omega), pz_stne _ (by omega), pz_upne (by omega), pz_upne (by omega)]
        · exact pz_fr_st (pz_fr_up (pz_fr_up (pz_fr_st (pz_fr_up (pz_fr_up (pz_fr_refl _ h) (by rw [pz_reg3 (by omega)]; decide)) (by rw [pz_reg3 (by omega)]; decide)) (fun b => by rw [pz_reg3 (by omega)]; decide)) (by rw [pz_reg3 (by omega)]; decide)) (by rw [pz_reg3 (by omega)]; decide)) (fun b => by rw [pz_reg3 (by omega)]; decide)
      · refine pz_op_same (-1000000014) c ?_ ?_
        · simp only [f_X9_sheet, pz_isSheetU, pz_isSheetMU, pz_isSlotU, pz_isSlotMU, pz_isKindU, pz_hasU, pz_in, pz_in0, pz_in_m1_1, pz_in_m9_9, pz_in_0_1, pz_in_0_2, pz_in_0_3, pz_in_0_4, pz_in_0_5, pz_in_0_60, pz_in_1_2, pz_in_1_20, pz_in_1_24, pz_in_1_3, pz_in_1_30, pz_in_1_8, pz_in_1_9, pz_in_0_99, pz_in_0_9, pz_b, pz_tbi, pz_ifif, pz_leafAtU, pz_textAtU, pz_orNoneU]; simp (disch := omega) only [pz_lit, pz_leT, pz_leF, pz_ltT, pz_ltF, pz_eqT, pz_eqF, pz_nlt, pz_nle, pz_nlt1, pz_nle1, pz_neq, pz_neq1, pz_nnlT, pz_nnlF, pz_nneT, pz_nneF, pz_cl, pz_kN, pz_add, pz_mul, pz_sub, ↓pz_jn, ↓pz_hl, ↓pz_vl, ↓pz_vL, pz_b, ↓reduceIte, or_false, or_true, false_or, true_or, not_true, not_false_iff, and_true, true_and, and_false, false_and, or_self, qm, ql, qn, q3, q4]
        · simp only [f_X10_sheet, pz_isSheetU, pz_isSheetMU, pz_isSlotU, pz_isSlotMU, pz_isKindU, pz_hasU, pz_in, pz_in0, pz_in_m1_1, pz_in_m9_9, pz_in_0_1, pz_in_0_2, pz_in_0_3, pz_in_0_4, pz_in_0_5, pz_in_0_60, pz_in_1_2, pz_in_1_20, pz_in_1_24, pz_in_1_3, pz_in_1_30, pz_in_1_8, pz_in_1_9, pz_in_0_99, pz_in_0_9, pz_b, pz_tbi, pz_ifif, pz_leafAtU, pz_textAtU, pz_orNoneU]; simp (disch := omega) only [pz_lit, pz_leT, pz_leF, pz_ltT, pz_ltF, pz_eqT, pz_eqF, pz_nlt, pz_nle, pz_nlt1, pz_nle1, pz_neq, pz_neq1, pz_nnlT, pz_nnlF, pz_nneT, pz_nneF, pz_cl, pz_kN, pz_add, pz_mul, pz_sub, ↓pz_jn, ↓pz_hl, ↓pz_vl, ↓pz_vL, pz_b, ↓reduceIte, or_false, or_true, false_or, true_or, not_true, not_false_iff, and_true, true_and, and_false, false_and, or_self, qr, q1, q3, q4]
    · refine pz_op_same (-1000000001) c ?_ ?_
      · simp only [f_X9_sheet, pz_isSheetU, pz_isSheetMU, pz_isSlotU, pz_isSlotMU, pz_isKindU, pz_hasU, pz_in, pz_in0, pz_in_m1_1, pz_in_m9_9, pz_in_0_1, pz_in_0_2, pz_in_0_3, pz_in_0_4, pz_in_0_5, pz_in_0_60, pz_in_1_2, pz_in_1_20, pz_in_1_24, pz_in_1_3, pz_in_1_30, pz_in_1_8, pz_in_1_9, pz_in_0_99, pz_in_0_9, pz_b, pz_tbi, pz_ifif, pz_leafAtU, pz_textAtU, pz_orNoneU]; simp (disch := omega) only [pz_lit, pz_leT, pz_leF, pz_ltT, pz_ltF, pz_eqT, pz_eqF, pz_nlt, pz_nle, pz_nlt1, pz_nle1, pz_neq, pz_neq1, pz_nnlT, pz_nnlF, pz_nneT, pz_nneF, pz_cl, pz_kN, pz_add, pz_mul, pz_sub, ↓pz_jn, ↓pz_hl, ↓pz_vl, ↓pz_vL, pz_b, ↓reduceIte, or_false, or_true, false_or, true_or, not_true, not_false_iff, and_true, true_and, and_false, false_and, or_self, qm, ql, qn, q3]
      · simp only [f_X10_sheet, pz_isSheetU, pz_isSheetMU, pz_isSlotU, pz_isSlotMU, pz_isKindU, pz_hasU, pz_in, pz_in0, pz_in_m1_1, pz_in_m9_9, pz_in_0_1, pz_in_0_2, pz_in_0_3, pz_in_0_4, pz_in_0_5, pz_in_0_60, pz_in_1_2, pz_in_1_20, pz_in_1_24, pz_in_1_3, pz_in_1_30, pz_in_1_8, pz_in_1_9, pz_in_0_99, pz_in_0_9, pz_b, pz_tbi, pz_ifif, pz_leafAtU, pz_textAtU, pz_orNoneU]; simp (disch := omega) only [pz_lit, pz_leT, pz_leF, pz_ltT, pz_ltF, pz_eqT, pz_eqF, pz_nlt, pz_nle, pz_nlt1, pz_nle1, pz_neq, pz_neq1, pz_nnlT, pz_nnlF, pz_nneT, pz_nneF, pz_cl, pz_kN, pz_add, pz_mul, pz_sub, ↓pz_jn, ↓pz_hl, ↓pz_vl, ↓pz_vL, pz_b, ↓reduceIte, or_false, or_true, false_or, true_or, not_true, not_false_iff, and_true, true_and, and_false, false_and, or_self, qr, q1, q3]

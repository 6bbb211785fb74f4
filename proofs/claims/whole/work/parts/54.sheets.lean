/-! PURE PART: mark, item, rest, copy -/
theorem pz_b16 (x : BitVec 32) : (x <<< 16).sshiftRight 16 = (x.signExtend 16).signExtend 32 := by
  apply BitVec.eq_of_getLsbD_eq
  intro i hi
  simp only [BitVec.getLsbD_sshiftRight, BitVec.getLsbD_shiftLeft, BitVec.getLsbD_signExtend, BitVec.msb_eq_getLsbD_last]
  by_cases q : i < 16
  · have q1 : 16 + i < 32 := by omega
    have q2 : ¬ 16 + i < 16 := by omega
    have q3 : ¬ 32 ≤ i := by omega
    simp [q, q1, q2, q3, hi]
  · have q1 : ¬ 16 + i < 32 := by omega
    have q3 : ¬ 32 ≤ i := by omega
    simp [q, q1, q3, hi]
theorem pz_s16 (x : Int32) : (x <<< (16 &&& 31)) >>> (16 &&& 31) = x.toInt16.toInt32 := by
  apply Int32.toBitVec_inj.mp
  have := pz_b16 x.toBitVec
  simpa using this
theorem pz_hasF {k len : Nat} (hk : k < len) (hl : len < 2147483648) : (nI (len - 1) < nI k) = False := pz_ltF (by omega) (by omega)
theorem pz_hasT {x : Int32} {len : Nat} (q : pz_bad x len) (hl : len < 2147483648) : (x < nI 0 ∨ nI len ≤ x) = True ∧ (x < nI 0 ∨ nI len - nI 1 < x) = True := by
  refine ⟨eq_true q, eq_true ?_⟩
  rcases q with q | q
  · exact Or.inl q
  · right
    by_cases z : len = 0
    · subst z; exact pz_lt_tr (by decide) q
    · rw [pz_sub (by omega), pz_lt_le (by omega), show len - 1 + 1 = len from by omega]; exact q
theorem pz_mset (j len k : Nat) (v : Int32) (h : kv_H) (c : pz_c3 h) (hj : j < 4) (e1 : h (18 + 2 * j) 1 = h 115 j) (e2 : h 115 j = 0 ∨ h 115 j = 1) (hl : len ≤ 24) (e3 : h (18 + 2 * j) 2 = nI len) (e4 : h 116 j = nI len) (e5 : ∀ k, k < len → h (19 + 2 * j) k = h 117 (24 * j + k)) (hk : k < len) : pz_c3 (kv_up (kv_up h (18 + 2 * j + 1) k v) 117 (24 * j + k) v) ∧ pz_fr [3] h (kv_up (kv_up h (18 + 2 * j + 1) k v) 117 (24 * j + k) v) := by
  refine ⟨?_, ?_⟩
  · intro i hi
    by_cases e : i = j
    · subst e
      refine ⟨?_, Or.inr ⟨?_, len, hl, ?_, ?_, ?_⟩⟩
      · simp (disch := omega) only [pz_upne]; exact e1
      · simp (disch := omega) only [pz_upne]; exact e2
      · simp (disch := omega) only [pz_upne]; exact e3
      · simp (disch := omega) only [pz_upne]; exact e4
      · intro k2 hk2
        by_cases ek : k2 = k
        · subst ek; simp (disch := omega) only [pz_upne, pz_upeq, pz_upd, if_true, if_pos, show 19 + 2 * i = 18 + 2 * i + 1 from by omega]
        · simp (disch := omega) only [pz_upne, pz_upeq, pz_upd, if_neg, show 19 + 2 * i = 18 + 2 * i + 1 from by omega]
          rw [show 18 + 2 * i + 1 = 19 + 2 * i from by omega]; exact e5 k2 hk2
    · refine pz_sh_fr hi (c i hi) ?_ ?_ ?_ ?_ ?_
      · intro b; simp (disch := omega) only [pz_upne]
      · intro b; simp (disch := omega) only [pz_upne]
      · simp (disch := omega) only [pz_upne]
      · simp (disch := omega) only [pz_upne]
      · intro k2 hk2; simp (disch := omega) only [pz_upne, pz_upeq, pz_upd, if_neg]
  · exact pz_fr_up (pz_fr_up (pz_fr_refl _ h) (by rw [pz_reg3 (by omega)]; decide)) (by rw [pz_reg3 (by omega)]; decide)
theorem pz_mark (x1 x2 x3 : Int32) (h : kv_H) (c : pz_c3 h) : pz_op [3] pz_c3 (f_X9_mark x1 x2 x3) (f_X10_mark x1 x2 x3) h := by
  rcases pz_cases x1 4 (by omega) with q | ⟨j, hj, rfl⟩
  · exact pz_op_same (-1000000001) c (by rw [f_X9_mark, pz_isSheetB q]; rfl) (by rw [f_X10_mark, pz_isSheetMB q]; rfl)
  obtain ⟨e1, e2⟩ := c j hj
  rcases e2 with e2 | ⟨e2, len, hl, e3, e4, e5⟩
  · have e1' := e1.trans e2
    refine pz_op_same (-1000000011) c ?_ ?_
    · simp only [f_X9_mark, pz_isSheetU, pz_isSheetMU, pz_isSlotU, pz_isSlotMU, pz_isKindU, pz_hasU, pz_in, pz_in0, pz_in_m1_1, pz_in_m9_9, pz_in_0_1, pz_in_0_2, pz_in_0_3, pz_in_0_4, pz_in_0_5, pz_in_0_60, pz_in_1_2, pz_in_1_20, pz_in_1_24, pz_in_1_3, pz_in_1_30, pz_in_1_8, pz_in_1_9, pz_in_0_99, pz_in_0_9, pz_b, pz_tbi, pz_ifif, pz_leafAtU, pz_textAtU, pz_orNoneU]; simp (disch := omega) only [pz_lit, pz_leT, pz_leF, pz_ltT, pz_ltF, pz_eqT, pz_eqF, pz_nlt, pz_nle, pz_nlt1, pz_nle1, pz_neq, pz_neq1, pz_nnlT, pz_nnlF, pz_nneT, pz_nneF, pz_cl, pz_kN, pz_add, pz_mul, pz_sub, ↓pz_jn, ↓pz_hl, ↓pz_vl, ↓pz_vL, pz_b, ↓reduceIte, or_false, or_true, false_or, true_or, not_true, not_false_iff, and_true, true_and, and_false, false_and, or_self, e1']
    · simp only [f_X10_mark, pz_isSheetU, pz_isSheetMU, pz_isSlotU, pz_isSlotMU, pz_isKindU, pz_hasU, pz_in, pz_in0, pz_in_m1_1, pz_in_m9_9, pz_in_0_1, pz_in_0_2, pz_in_0_3, pz_in_0_4, pz_in_0_5, pz_in_0_60, pz_in_1_2, pz_in_1_20, pz_in_1_24, pz_in_1_3, pz_in_1_30, pz_in_1_8, pz_in_1_9, pz_in_0_99, pz_in_0_9, pz_b, pz_tbi, pz_ifif, pz_leafAtU, pz_textAtU, pz_orNoneU]; simp (disch := omega) only [pz_lit, pz_leT, pz_leF, pz_ltT, pz_ltF, pz_eqT, pz_eqF, pz_nlt, pz_nle, pz_nlt1, pz_nle1, pz_neq, pz_neq1, pz_nnlT, pz_nnlF, pz_nneT, pz_nneF, pz_cl, pz_kN, pz_add, pz_mul, pz_sub, ↓pz_jn, ↓pz_hl, ↓pz_vl, ↓pz_vL, pz_b, ↓reduceIte, or_false, or_true, false_or, true_or, not_true, not_false_iff, and_true, true_and, and_false, false_and, or_self, e2]
  rcases pz_cases x2 len (by omega) with q | ⟨k, hk, rfl⟩
  · have q1 := (pz_hasT q (by omega)).1
    have q2 := (pz_hasT q (by omega)).2
    refine pz_op_same (-1000000013) c ?_ ?_
    · rcases e2 with e2 | e2
      · have e1' := e1.trans e2
        simp only [f_X9_mark, pz_isSheetU, pz_isSheetMU, pz_isSlotU, pz_isSlotMU, pz_isKindU, pz_hasU, pz_in, pz_in0, pz_in_m1_1, pz_in_m9_9, pz_in_0_1, pz_in_0_2, pz_in_0_3, pz_in_0_4, pz_in_0_5, pz_in_0_60, pz_in_1_2, pz_in_1_20, pz_in_1_24, pz_in_1_3, pz_in_1_30, pz_in_1_8, pz_in_1_9, pz_in_0_99, pz_in_0_9, pz_b, pz_tbi, pz_ifif, pz_leafAtU, pz_textAtU, pz_orNoneU]; simp (disch := omega) only [pz_lit, pz_leT, pz_leF, pz_ltT, pz_ltF, pz_eqT, pz_eqF, pz_nlt, pz_nle, pz_nlt1, pz_nle1, pz_neq, pz_neq1, pz_nnlT, pz_nnlF, pz_nneT, pz_nneF, pz_cl, pz_kN, pz_add, pz_mul, pz_sub, ↓pz_jn, ↓pz_hl, ↓pz_vl, ↓pz_vL, pz_b, ↓reduceIte, or_false, or_true, false_or, true_or, not_true, not_false_iff, and_true, true_and, and_false, false_and, or_self, e1', e3, q1]
      · have e1' := e1.trans e2
        simp only [f_X9_mark, pz_isSheetU, pz_isSheetMU, pz_isSlotU, pz_isSlotMU, pz_isKindU, pz_hasU, pz_in, pz_in0, pz_in_m1_1, pz_in_m9_9, pz_in_0_1, pz_in_0_2, pz_in_0_3, pz_in_0_4, pz_in_0_5, pz_in_0_60, pz_in_1_2, pz_in_1_20, pz_in_1_24, pz_in_1_3, pz_in_1_30, pz_in_1_8, pz_in_1_9, pz_in_0_99, pz_in_0_9, pz_b, pz_tbi, pz_ifif, pz_leafAtU, pz_textAtU, pz_orNoneU]; simp (disch := omega) only [pz_lit, pz_leT, pz_leF, pz_ltT, pz_ltF, pz_eqT, pz_eqF, pz_nlt, pz_nle, pz_nlt1, pz_nle1, pz_neq, pz_neq1, pz_nnlT, pz_nnlF, pz_nneT, pz_nneF, pz_cl, pz_kN, pz_add, pz_mul, pz_sub, ↓pz_jn, ↓pz_hl, ↓pz_vl, ↓pz_vL, pz_b, ↓reduceIte, or_false, or_true, false_or, true_or, not_true, not_false_iff, and_true, true_and, and_false, false_and, or_self, e1', e3, q1]
    · rcases e2 with e2 | e2
      · simp only [f_X10_mark, pz_isSheetU, pz_isSheetMU, pz_isSlotU, pz_isSlotMU, pz_isKindU, pz_hasU, pz_in, pz_in0, pz_in_m1_1, pz_in_m9_9, pz_in_0_1, pz_in_0_2, pz_in_0_3, pz_in_0_4, pz_in_0_5, pz_in_0_60, pz_in_1_2, pz_in_1_20, pz_in_1_24, pz_in_1_3, pz_in_1_30, pz_in_1_8, pz_in_1_9, pz_in_0_99, pz_in_0_9, pz_b, pz_tbi, pz_ifif, pz_leafAtU, pz_textAtU, pz_orNoneU]; simp (disch := omega) only [pz_lit, pz_leT, pz_leF, pz_ltT, pz_ltF, pz_eqT, pz_eqF, pz_nlt, pz_nle, pz_nlt1, pz_nle1, pz_neq, pz_neq1, pz_nnlT, pz_nnlF, pz_nneT, pz_nneF, pz_cl, pz_kN, pz_add, pz_mul, pz_sub, ↓pz_jn, ↓pz_hl, ↓pz_vl, ↓pz_vL, pz_b, ↓reduceIte, or_false, or_true, false_or, true_or, not_true, not_false_iff, and_true, true_and, and_false, false_and, or_self, e2, e4, q2]
      · simp only [f_X10_mark, pz_isSheetU, pz_isSheetMU, pz_isSlotU, pz_isSlotMU, pz_isKindU, pz_hasU, pz_in, pz_in0, pz_in_m1_1, pz_in_m9_9, pz_in_0_1, pz_in_0_2, pz_in_0_3, pz_in_0_4, pz_in_0_5, pz_in_0_60, pz_in_1_2, pz_in_1_20, pz_in_1_24, pz_in_1_3, pz_in_1_30, pz_in_1_8, pz_in_1_9, pz_in_0_99, pz_in_0_9, pz_b, pz_tbi, pz_ifif, pz_leafAtU, pz_textAtU, pz_orNoneU]; simp (disch := omega) only [pz_lit, pz_leT, pz_leF, pz_ltT, pz_ltF, pz_eqT, pz_eqF, pz_nlt, pz_nle, pz_nlt1, pz_nle1, pz_neq, pz_neq1, pz_nnlT, pz_nnlF, pz_nneT, pz_nneF, pz_cl, pz_kN, pz_add, pz_mul, pz_sub, ↓pz_jn, ↓pz_hl, ↓pz_vl, ↓pz_vL, pz_b, ↓reduceIte, or_false, or_true, false_or, true_or, not_true, not_false_iff, and_true, true_and, and_false, false_and, or_self, e2, e4, q2]
  have n2 : (115 : Nat) ≠ 18 + 2 * j + 1 := by omega
  have n3 : (116 : Nat) ≠ 18 + 2 * j + 1 := by omega
  rcases e2 with e2 | e2
  · have e1' := e1.trans e2
    by_cases q : x3 = -nI 1000000005
    · refine pz_op_same (-1000000012) c ?_ ?_
      · simp only [f_X9_mark, pz_isSheetU, pz_isSheetMU, pz_isSlotU, pz_isSlotMU, pz_isKindU, pz_hasU, pz_in, pz_in0, pz_in_m1_1, pz_in_m9_9, pz_in_0_1, pz_in_0_2, pz_in_0_3, pz_in_0_4, pz_in_0_5, pz_in_0_60, pz_in_1_2, pz_in_1_20, pz_in_1_24, pz_in_1_3, pz_in_1_30, pz_in_1_8, pz_in_1_9, pz_in_0_99, pz_in_0_9, pz_b, pz_tbi, pz_ifif, pz_leafAtU, pz_textAtU, pz_orNoneU]; simp (disch := omega) only [pz_lit, pz_leT, pz_leF, pz_ltT, pz_ltF, pz_eqT, pz_eqF, pz_nlt, pz_nle, pz_nlt1, pz_nle1, pz_neq, pz_neq1, pz_nnlT, pz_nnlF, pz_nneT, pz_nneF, pz_cl, pz_kN, pz_add, pz_mul, pz_sub, ↓pz_jn, ↓pz_hl, ↓pz_vl, ↓pz_vL, pz_b, ↓reduceIte, or_false, or_true, false_or, true_or, not_true, not_false_iff, and_true, true_and, and_false, false_and, or_self, e1', e3, q]
      · simp only [f_X10_mark, pz_isSheetU, pz_isSheetMU, pz_isSlotU, pz_isSlotMU, pz_isKindU, pz_hasU, pz_in, pz_in0, pz_in_m1_1, pz_in_m9_9, pz_in_0_1, pz_in_0_2, pz_in_0_3, pz_in_0_4, pz_in_0_5, pz_in_0_60, pz_in_1_2, pz_in_1_20, pz_in_1_24, pz_in_1_3, pz_in_1_30, pz_in_1_8, pz_in_1_9, pz_in_0_99, pz_in_0_9, pz_b, pz_tbi, pz_ifif, pz_leafAtU, pz_textAtU, pz_orNoneU]; simp (disch := omega) only [pz_lit, pz_leT, pz_leF, pz_ltT, pz_ltF, pz_eqT, pz_eqF, pz_nlt, pz_nle, pz_nlt1, pz_nle1, pz_neq, pz_neq1, pz_nnlT, pz_nnlF, pz_nneT, pz_nneF, pz_cl, pz_kN, pz_add, pz_mul, pz_sub, ↓pz_jn, ↓pz_hl, ↓pz_vl, ↓pz_vL, pz_b, ↓reduceIte, or_false, or_true, false_or, true_or, not_true, not_false_iff, and_true, true_and, and_false, false_and, or_self, e2, e4, q]
    · obtain ⟨z3, z4⟩ := pz_mset j len k (x3.toInt16.toInt32) h c hj e1 (Or.inl e2) hl e3 e4 e5 hk
      refine ⟨1, kv_up h (18 + 2 * j + 1) k (x3.toInt16.toInt32), _, ?_, ?_, z3, z4⟩
      · simp only [f_X9_mark, pz_isSheetU, pz_isSheetMU, pz_isSlotU, pz_isSlotMU, pz_isKindU, pz_hasU, pz_in, pz_in0, pz_in_m1_1, pz_in_m9_9, pz_in_0_1, pz_in_0_2, pz_in_0_3, pz_in_0_4, pz_in_0_5, pz_in_0_60, pz_in_1_2, pz_in_1_20, pz_in_1_24, pz_in_1_3, pz_in_1_30, pz_in_1_8, pz_in_1_9, pz_in_0_99, pz_in_0_9, pz_b, pz_tbi, pz_ifif, pz_leafAtU, pz_textAtU, pz_orNoneU]; simp (disch := omega) only [pz_lit, pz_leT, pz_leF, pz_ltT, pz_ltF, pz_eqT, pz_eqF, pz_nlt, pz_nle, pz_nlt1, pz_nle1, pz_neq, pz_neq1, pz_nnlT, pz_nnlF, pz_nneT, pz_nneF, pz_cl, pz_kN, pz_add, pz_mul, pz_sub, ↓pz_jn, ↓pz_hl, ↓pz_vl, ↓pz_vL, pz_b, ↓reduceIte, or_false, or_true, false_or, true_or, not_true, not_false_iff, and_true, true_and, and_false, false_and, or_self, e1', e3, q]
      · simp only [f_X10_mark, pz_isSheetU, pz_isSheetMU, pz_isSlotU, pz_isSlotMU, pz_isKindU, pz_hasU, pz_in, pz_in0, pz_in_m1_1, pz_in_m9_9, pz_in_0_1, pz_in_0_2, pz_in_0_3, pz_in_0_4, pz_in_0_5, pz_in_0_60, pz_in_1_2, pz_in_1_20, pz_in_1_24, pz_in_1_3, pz_in_1_30, pz_in_1_8, pz_in_1_9, pz_in_0_99, pz_in_0_9, pz_b, pz_tbi, pz_ifif, pz_leafAtU, pz_textAtU, pz_orNoneU, pz_s16]; simp (disch := omega) only [pz_lit, pz_leT, pz_leF, pz_ltT, pz_ltF, pz_eqT, pz_eqF, pz_nlt, pz_nle, pz_nlt1, pz_nle1, pz_neq, pz_neq1, pz_nnlT, pz_nnlF, pz_nneT, pz_nneF, pz_cl, pz_kN, pz_add, pz_mul, pz_sub, ↓pz_jn, ↓pz_hl, ↓pz_vl, ↓pz_vL, pz_b, ↓reduceIte, or_false, or_true, false_or, true_or, not_true, not_false_iff, and_true, true_and, and_false, false_and, or_self, pz_upne n2, pz_upne n3, e2, e4, q]
  · have e1' := e1.trans e2
    by_cases q : x3 = -nI 1000000005
    · obtain ⟨z3, z4⟩ := pz_mset j len k x3 h c hj e1 (Or.inr e2) hl e3 e4 e5 hk
      refine ⟨1, kv_up h (18 + 2 * j + 1) k x3, _, ?_, ?_, z3, z4⟩
      · simp only [f_X9_mark, pz_isSheetU, pz_isSheetMU, pz_isSlotU, pz_isSlotMU, pz_isKindU, pz_hasU, pz_in, pz_in0, pz_in_m1_1, pz_in_m9_9, pz_in_0_1, pz_in_0_2, pz_in_0_3, pz_in_0_4, pz_in_0_5, pz_in_0_60, pz_in_1_2, pz_in_1_20, pz_in_1_24, pz_in_1_3, pz_in_1_30, pz_in_1_8, pz_in_1_9, pz_in_0_99, pz_in_0_9, pz_b, pz_tbi, pz_ifif, pz_leafAtU, pz_textAtU, pz_orNoneU]; simp (disch := omega) only [pz_lit, pz_leT, pz_leF, pz_ltT, pz_ltF, pz_eqT, pz_eqF, pz_nlt, pz_nle, pz_nlt1, pz_nle1, pz_neq, pz_neq1, pz_nnlT, pz_nnlF, pz_nneT, pz_nneF, pz_cl, pz_kN, pz_add, pz_mul, pz_sub, ↓pz_jn, ↓pz_hl, ↓pz_vl, ↓pz_vL, pz_b, ↓reduceIte, or_false, or_true, false_or, true_or, not_true, not_false_iff, and_true, true_and, and_false, false_and, or_self, e1', e3, q]
      · simp only [f_X10_mark, pz_isSheetU, pz_isSheetMU, pz_isSlotU, pz_isSlotMU, pz_isKindU, pz_hasU, pz_in, pz_in0, pz_in_m1_1, pz_in_m9_9, pz_in_0_1, pz_in_0_2, pz_in_0_3, pz_in_0_4, pz_in_0_5, pz_in_0_60, pz_in_1_2, pz_in_1_20, pz_in_1_24, pz_in_1_3, pz_in_1_30, pz_in_1_8, pz_in_1_9, pz_in_0_99, pz_in_0_9, pz_b, pz_tbi, pz_ifif, pz_leafAtU, pz_textAtU, pz_orNoneU, pz_s16]; simp (disch := omega) only [pz_lit, pz_leT, pz_leF, pz_ltT, pz_ltF, pz_eqT, pz_eqF, pz_nlt, pz_nle, pz_nlt1, pz_nle1, pz_neq, pz_neq1, pz_nnlT, pz_nnlF, pz_nneT, pz_nneF, pz_cl, pz_kN, pz_add, pz_mul, pz_sub, ↓pz_jn, ↓pz_hl, ↓pz_vl, ↓pz_vL, pz_b, ↓reduceIte, or_false, or_true, false_or, true_or, not_true, not_false_iff, and_true, true_and, and_false, false_and, or_self, pz_upne n2, pz_upne n3, e2, e4, q]
    · by_cases q1 : x3 < -nI 99999
      · refine pz_op_same (-1000000001) c ?_ ?_
        · simp only [f_X9_mark, pz_isSheetU, pz_isSheetMU, pz_isSlotU, pz_isSlotMU, pz_isKindU, pz_hasU, pz_in, pz_in0, pz_in_m1_1, pz_in_m9_9, pz_in_0_1, pz_in_0_2, pz_in_0_3, pz_in_0_4, pz_in_0_5, pz_in_0_60, pz_in_1_2, pz_in_1_20, pz_in_1_24, pz_in_1_3, pz_in_1_30, pz_in_1_8, pz_in_1_9, pz_in_0_99, pz_in_0_9, pz_b, pz_tbi, pz_ifif, pz_leafAtU, pz_textAtU, pz_orNoneU]; simp (disch := omega) only [pz_lit, pz_leT, pz_leF, pz_ltT, pz_ltF, pz_eqT, pz_eqF, pz_nlt, pz_nle, pz_nlt1, pz_nle1, pz_neq, pz_neq1, pz_nnlT, pz_nnlF, pz_nneT, pz_nneF, pz_cl, pz_kN, pz_add, pz_mul, pz_sub, ↓pz_jn, ↓pz_hl, ↓pz_vl, ↓pz_vL, pz_b, ↓reduceIte, or_false, or_true, false_or, true_or, not_true, not_false_iff, and_true, true_and, and_false, false_and, or_self, e1', e3, q, q1]
        · simp only [f_X10_mark, pz_isSheetU, pz_isSheetMU, pz_isSlotU, pz_isSlotMU, pz_isKindU, pz_hasU, pz_in, pz_in0, pz_in_m1_1, pz_in_m9_9, pz_in_0_1, pz_in_0_2, pz_in_0_3, pz_in_0_4, pz_in_0_5, pz_in_0_60, pz_in_1_2, pz_in_1_20, pz_in_1_24, pz_in_1_3, pz_in_1_30, pz_in_1_8, pz_in_1_9, pz_in_0_99, pz_in_0_9, pz_b, pz_tbi, pz_ifif, pz_leafAtU, pz_textAtU, pz_orNoneU]; simp (disch := omega) only [pz_lit, pz_leT, pz_leF, pz_ltT, pz_ltF, pz_eqT, pz_eqF, pz_nlt, pz_nle, pz_nlt1, pz_nle1, pz_neq, pz_neq1, pz_nnlT, pz_nnlF, pz_nneT, pz_nneF, pz_cl, pz_kN, pz_add, pz_mul, pz_sub, ↓pz_jn, ↓pz_hl, ↓pz_vl, ↓pz_vL, pz_b, ↓reduceIte, or_false, or_true, false_or, true_or, not_true, not_false_iff, and_true, true_and, and_false, false_and, or_self, e2, e4, q, q1]
      · by_cases q2 : nI 99999 < x3
        · have q3 : ¬ x3 ≤ nI 99999 := (pz_lt_asym q2).2.1
          refine pz_op_same (-1000000001) c ?_ ?_
          · simp only [f_X9_mark, pz_isSheetU, pz_isSheetMU, pz_isSlotU, pz_isSlotMU, pz_isKindU, pz_hasU, pz_in, pz_in0, pz_in_m1_1, pz_in_m9_9, pz_in_0_1, pz_in_0_2, pz_in_0_3, pz_in_0_4, pz_in_0_5, pz_in_0_60, pz_in_1_2, pz_in_1_20, pz_in_1_24, pz_in_1_3, pz_in_1_30, pz_in_1_8, pz_in_1_9, pz_in_0_99, pz_in_0_9, pz_b, pz_tbi, pz_ifif, pz_leafAtU, pz_textAtU, pz_orNoneU]; simp (disch := omega) only [pz_lit, pz_leT, pz_leF, pz_ltT, pz_ltF, pz_eqT, pz_eqF, pz_nlt, pz_nle, pz_nlt1, pz_nle1, pz_neq, pz_neq1, pz_nnlT, pz_nnlF, pz_nneT, pz_nneF, pz_cl, pz_kN, pz_add, pz_mul, pz_sub, ↓pz_jn, ↓pz_hl, ↓pz_vl, ↓pz_vL, pz_b, ↓reduceIte, or_false, or_true, false_or, true_or, not_true, not_false_iff, and_true, true_and, and_false, false_and, or_self, e1', e3, q, q1, q3]
          · simp only [f_X10_mark, pz_isSheetU, pz_isSheetMU, pz_isSlotU, pz_isSlotMU, pz_isKindU, pz_hasU, pz_in, pz_in0, pz_in_m1_1, pz_in_m9_9, pz_in_0_1, pz_in_0_2, pz_in_0_3, pz_in_0_4, pz_in_0_5, pz_in_0_60, pz_in_1_2, pz_in_1_20, pz_in_1_24, pz_in_1_3, pz_in_1_30, pz_in_1_8, pz_in_1_9, pz_in_0_99, pz_in_0_9, pz_b, pz_tbi, pz_ifif, pz_leafAtU, pz_textAtU, pz_orNoneU]; simp (disch := omega) only [pz_lit, pz_leT, pz_leF, pz_ltT, pz_ltF, pz_eqT, pz_eqF, pz_nlt, pz_nle, pz_nlt1, pz_nle1, pz_neq, pz_neq1, pz_nnlT, pz_nnlF, pz_nneT, pz_nneF, pz_cl, pz_kN, pz_add, pz_mul, pz_sub, ↓pz_jn, ↓pz_hl, ↓pz_vl, ↓pz_vL, pz_b, ↓reduceIte, or_false, or_true, false_or, true_or, not_true, not_false_iff, and_true, true_and, and_false, false_and, or_self, e2, e4, q, q1, q2]
        · have q3 : x3 ≤ nI 99999 := by rw [pz_lt_not] at q2; exact q2
          obtain ⟨z3, z4⟩ := pz_mset j len k x3 h c hj e1 (Or.inr e2) hl e3 e4 e5 hk
          refine ⟨1, kv_up h (18 + 2 * j + 1) k x3, _, ?_, ?_, z3, z4⟩
          · simp only [f_X9_mark, pz_isSheetU, pz_isSheetMU, pz_isSlotU, pz_isSlotMU, pz_isKindU, pz_hasU, pz_in, pz_in0, pz_in_m1_1, pz_in_m9_9, pz_in_0_1, pz_in_0_2, pz_in_0_3, pz_in_0_4, pz_in_0_5, pz_in_0_60, pz_in_1_2, pz_in_1_20, pz_in_1_24, pz_in_1_3, pz_in_1_30, pz_in_1_8, pz_in_1_9, pz_in_0_99, pz_in_0_9, pz_b, pz_tbi, pz_ifif, pz_leafAtU, pz_textAtU, pz_orNoneU]; simp (disch := omega) only [pz_lit, pz_leT, pz_leF, pz_ltT, pz_ltF, pz_eqT, pz_eqF, pz_nlt, pz_nle, pz_nlt1, pz_nle1, pz_neq, pz_neq1, pz_nnlT, pz_nnlF, pz_nneT, pz_nneF, pz_cl, pz_kN, pz_add, pz_mul, pz_sub, ↓pz_jn, ↓pz_hl, ↓pz_vl, ↓pz_vL, pz_b, ↓reduceIte, or_false, or_true, false_or, true_or, not_true, not_false_iff, and_true, true_and, and_false, false_and, or_self, e1', e3, q, q1, q3]
          · simp only [f_X10_mark, pz_isSheetU, pz_isSheetMU, pz_isSlotU, pz_isSlotMU, pz_isKindU, pz_hasU, pz_in, pz_in0, pz_in_m1_1, pz_in_m9_9, pz_in_0_1, pz_in_0_2, pz_in_0_3, pz_in_0_4, pz_in_0_5, pz_in_0_60, pz_in_1_2, pz_in_1_20, pz_in_1_24, pz_in_1_3, pz_in_1_30, pz_in_1_8, pz_in_1_9, pz_in_0_99, pz_in_0_9, pz_b, pz_tbi, pz_ifif, pz_leafAtU, pz_textAtU, pz_orNoneU, pz_s16]; simp (disch := omega) only [pz_lit, pz_leT, pz_leF, pz_ltT, pz_ltF, pz_eqT, pz_eqF, pz_nlt, pz_nle, pz_nlt1, pz_nle1, pz_neq, pz_neq1, pz_nnlT, pz_nnlF, pz_nneT, pz_nneF, pz_cl, pz_kN, pz_add, pz_mul, pz_sub, ↓pz_jn, ↓pz_hl, ↓pz_vl, ↓pz_vL, pz_b, ↓reduceIte, or_false, or_true, false_or, true_or, not_true, not_false_iff, and_true, true_and, and_false, false_and, or_self, pz_upne n2, pz_upne n3, e2, e4, q, q1, q2]

/-! PURE PART: slots: ask, item, rest -/
def pz_wv (kd sz ls wt : Int32) : Int32 := if kd = 1 then ls + sz + 10 else if kd = 2 then (ls + sz) / 2 else if kd = 3 then ls + 10 else if kd = 4 then (ls + sz) / 2 + wt else if kd = 5 then 7 else ls + sz
theorem pz_asc (l s : Int32) : l + s + 10 - s = l + 10 := by
  apply Int32.toBitVec_inj.mp
  rw [Int32.toBitVec_sub, Int32.toBitVec_add, Int32.toBitVec_add, Int32.toBitVec_add]
  rw [BitVec.add_assoc, BitVec.add_comm s.toBitVec, ← BitVec.add_assoc, BitVec.add_sub_cancel]
theorem pz_worth9 (kd sz ls wt : Int32) (h : kv_H) : f_X9_worthAs 3 kd sz ls wt h = some (pz_wv kd sz ls wt, h) := by
  have a1 : ∀ d, f_X9_worthAs (d + 1) 1 sz ls wt h = some (ls + sz + 10, h) := fun d => rfl
  have a2 : ∀ d, f_X9_worthAs (d + 1) 2 sz ls wt h = some ((ls + sz) / 2, h) := fun d => rfl
  rw [f_X9_worthAs, f_X9_worthAsB, pz_vl]
  unfold pz_wv
  simp only [kv_sw, a1, a2, pz_b, pz_asc]
  by_cases q1 : kd = 1
  · rw [if_pos q1, if_pos q1]
  rw [if_neg q1, if_neg q1]
  by_cases q2 : kd = 2
  · rw [if_pos q2, if_pos q2]
  rw [if_neg q2, if_neg q2]
  by_cases q3 : kd = 3
  · rw [if_pos q3, if_pos q3]
  rw [if_neg q3, if_neg q3]
  by_cases q4 : kd = 4
  · rw [if_pos q4, if_pos q4]
  rw [if_neg q4, if_neg q4]
  by_cases q5 : kd = 5
  · rw [if_pos q5, if_pos q5]
  rw [if_neg q5, if_neg q5]
def pz_un (a b : Nat) : Int32 := if a = b ∨ b = 0 ∨ (b = 1 ∧ a = 3) ∨ (b = 2 ∧ a = 4) then 1 else 0
theorem pz_under9 (h : kv_H) : ∀ a, a < 6 → ∀ b, b < 6 → f_X9_isUnder (nI a) (nI b) h = some (pz_un a b, h)
  | 0, _, 0, _ | 0, _, 1, _ | 0, _, 2, _ | 0, _, 3, _ | 0, _, 4, _ | 0, _, 5, _ => rfl
  | 1, _, 0, _ | 1, _, 1, _ | 1, _, 2, _ | 1, _, 3, _ | 1, _, 4, _ | 1, _, 5, _ => rfl
  | 2, _, 0, _ | 2, _, 1, _ | 2, _, 2, _ | 2, _, 3, _ | 2, _, 4, _ | 2, _, 5, _ => rfl
  | 3, _, 0, _ | 3, _, 1, _ | 3, _, 2, _ | 3, _, 3, _ | 3, _, 4, _ | 3, _, 5, _ => rfl
  | 4, _, 0, _ | 4, _, 1, _ | 4, _, 2, _ | 4, _, 3, _ | 4, _, 4, _ | 4, _, 5, _ => rfl
  | 5, _, 0, _ | 5, _, 1, _ | 5, _, 2, _ | 5, _, 3, _ | 5, _, 4, _ | 5, _, 5, _ => rfl
  | a + 6, q, _, _ => by omega
  | 0, _, b + 6, q => by omega
  | 1, _, b + 6, q => by omega
  | 2, _, b + 6, q => by omega
  | 3, _, b + 6, q => by omega
  | 4, _, b + 6, q => by omega
  | 5, _, b + 6, q => by omega
theorem pz_under10 (h : kv_H) : ∀ a, a < 6 → ∀ b, b < 6 → f_X10_isOf (nI a) (nI b) h = some (pz_un a b, h)
  | 0, _, 0, _ | 0, _, 1, _ | 0, _, 2, _ | 0, _, 3, _ | 0, _, 4, _ | 0, _, 5, _ => rfl
  | 1, _, 0, _ | 1, _, 1, _ | 1, _, 2, _ | 1, _, 3, _ | 1, _, 4, _ | 1, _, 5, _ => rfl
  | 2, _, 0, _ | 2, _, 1, _ | 2, _, 2, _ | 2, _, 3, _ | 2, _, 4, _ | 2, _, 5, _ => rfl
  | 3, _, 0, _ | 3, _, 1, _ | 3, _, 2, _ | 3, _, 3, _ | 3, _, 4, _ | 3, _, 5, _ => rfl
  | 4, _, 0, _ | 4, _, 1, _ | 4, _, 2, _ | 4, _, 3, _ | 4, _, 4, _ | 4, _, 5, _ => rfl
  | 5, _, 0, _ | 5, _, 1, _ | 5, _, 2, _ | 5, _, 3, _ | 5, _, 4, _ | 5, _, 5, _ => rfl
  | a + 6, q, _, _ => by omega
  | 0, _, b + 6, q => by omega
  | 1, _, b + 6, q => by omega
  | 2, _, b + 6, q => by omega
  | 3, _, b + 6, q => by omega
  | 4, _, b + 6, q => by omega
  | 5, _, b + 6, q => by omega
theorem pz_un01 (a b : Nat) : pz_un a b = nI 1 ∨ pz_un a b = nI 0 := by
  unfold pz_un
  by_cases q : a = b ∨ b = 0 ∨ (b = 1 ∧ a = 3) ∨ (b = 2 ∧ a = 4)
  · rw [if_pos q]; exact Or.inl rfl
  · rw [if_neg q]; exact Or.inr rfl
def pz_sl (h : kv_H) (i : Nat) : Prop := h (26 + 3 * i) 1 = h 118 i ∧ (h 118 i = 0 ∨ (h 118 i = 1 ∧ h 119 i = h (26 + 3 * i) 3 ∧ h 120 i = pz_wv (h (26 + 3 * i) 3) (h (26 + 3 * i) 4) (h (26 + 3 * i) 5) (h (26 + 3 * i) 6) ∧ ∃ kd : Nat, kd < 6 ∧ h (26 + 3 * i) 3 = nI kd) ∨ (h 118 i = 2 ∧ ∃ len : Nat, len ≤ 24 ∧ h (27 + 3 * i) 2 = nI len ∧ h 121 i = nI len ∧ ∀ k, k < len → h (28 + 3 * i) k = h 122 (24 * i + k)) ∨ (h 118 i = 3 ∧ h (26 + 3 * i) 2 = h 119 i))
def pz_c4 (h : kv_H) : Prop := ∀ i, i < 5 → pz_sl h i
theorem pz_reg4 {a b : Nat} (q : (26 ≤ a ∧ a ≤ 40) ∨ (118 ≤ a ∧ a ≤ 122)) : pz_reg a b = 4 := by
  unfold pz_reg
  rw [if_neg (by omega), if_neg (by omega), if_neg (by omega), if_neg (by omega), if_neg (by omega), if_pos q]
theorem pz_sl_fr {h h' : kv_H} {i : Nat} (hi : i < 5) (c : pz_sl h i) (f1 : ∀ b, h' (26 + 3 * i) b = h (26 + 3 * i) b) (f2 : ∀ b, h' (27 + 3 * i) b = h (27 + 3 * i) b) (f2' : ∀ b, h' (28 + 3 * i) b = h (28 + 3 * i) b) (f3 : h' 118 i = h 118 i) (f4 : h' 119 i = h 119 i) (f5 : h' 120 i = h 120 i) (f6 : h' 121 i = h 121 i) (f7 : ∀ k, k < 24 → h' 122 (24 * i + k) = h 122 (24 * i + k)) : pz_sl h' i := by
  unfold pz_sl at c ⊢
  simp only [f1, f2, f2', f3, f4, f5, f6]
  refine ⟨c.1, ?_⟩
  rcases c.2 with e | e | ⟨e1, len, hl, e2, e3, e4⟩ | e
  · exact Or.inl e
  · exact Or.inr (Or.inl e)
  · refine Or.inr (Or.inr (Or.inl ⟨e1, len, hl, e2, e3, ?_⟩))
    intro k hk; rw [f7 k (by omega)]; exact e4 k hk
  · exact Or.inr (Or.inr (Or.inr e))
theorem pz_c4_fr {h h' : kv_H} (c : pz_c4 h) (f : ∀ a b, pz_reg a b = 4 → h' a b = h a b) : pz_c4 h' := fun i hi =>
  pz_sl_fr hi (c i hi) (fun b => f _ _ (pz_reg4 (by omega))) (fun b => f _ _ (pz_reg4 (by omega))) (fun b => f _ _ (pz_reg4 (by omega))) (f _ _ (pz_reg4 (by omega))) (f _ _ (pz_reg4 (by omega))) (f _ _ (pz_reg4 (by omega))) (f _ _ (pz_reg4 (by omega))) (fun k _ => f _ _ (pz_reg4 (by omega)))
theorem pz_item (x1 x2 : Int32) (h : kv_H) (c : pz_c4 h) : pz_op [4] pz_c4 (f_X9_item x1 x2) (f_X10_item x1 x2) h := by
  rcases pz_cases x1 5 (by omega) with q | ⟨j, hj, rfl⟩
  · exact pz_op_same (-1000000001) c (by rw [f_X9_item, pz_isSlotB q]; rfl) (by rw [f_X10_item, pz_isSlotMB q]; rfl)
  obtain ⟨e1, e2⟩ := c j hj
  rcases e2 with e2 | ⟨e2, -⟩ | ⟨e2, len, hl, e3, e4, e5⟩ | ⟨e2, -⟩
  · have e1' := e1.trans e2
    refine pz_op_same (-1000000011) c ?_ ?_
    · simp only [f_X9_item, pz_isSheetU, pz_isSheetMU, pz_isSlotU, pz_isSlotMU, pz_isKindU, pz_hasU, pz_in, pz_in0, pz_in_m1_1, pz_in_m9_9, pz_in_0_1, pz_in_0_2, pz_in_0_3, pz_in_0_4, pz_in_0_5, pz_in_0_60, pz_in_1_2, pz_in_1_20, pz_in_1_24, pz_in_1_3, pz_in_1_30, pz_in_1_8, pz_in_1_9, pz_in_0_99, pz_in_0_9, pz_b, pz_tbi, pz_ifif, pz_leafAtU, pz_textAtU, pz_orNoneU]; simp (disch := omega) only [pz_lit, pz_leT, pz_leF, pz_ltT, pz_ltF, pz_eqT, pz_eqF, pz_nlt, pz_nle, pz_nlt1, pz_nle1, pz_neq, pz_neq1, pz_nnlT, pz_nnlF, pz_nneT, pz_nneF, pz_cl, pz_kN, pz_add, pz_mul, pz_sub, ↓pz_jn, ↓pz_hl, ↓pz_vl, ↓pz_vL, pz_b, ↓reduceIte, or_false, or_true, false_or, true_or, not_true, not_false_iff, and_true, true_and, and_false, false_and, or_self, e1']
    · simp only [f_X10_item, pz_isSheetU, pz_isSheetMU, pz_isSlotU, pz_isSlotMU, pz_isKindU, pz_hasU, pz_in, pz_in0, pz_in_m1_1, pz_in_m9_9, pz_in_0_1, pz_in_0_2, pz_in_0_3, pz_in_0_4, pz_in_0_5, pz_in_0_60, pz_in_1_2, pz_in_1_20, pz_in_1_24, pz_in_1_3, pz_in_1_30, pz_in_1_8, pz_in_1_9, pz_in_0_99, pz_in_0_9, pz_b, pz_tbi, pz_ifif, pz_leafAtU, pz_textAtU, pz_orNoneU]; simp (disch := omega) only [pz_lit, pz_leT, pz_leF, pz_ltT, pz_ltF, pz_eqT, pz_eqF, pz_nlt, pz_nle, pz_nlt1, pz_nle1, pz_neq, pz_neq1, pz_nnlT, pz_nnlF, pz_nneT, pz_nneF, pz_cl, pz_kN, pz_add, pz_mul, pz_sub, ↓pz_jn, ↓pz_hl, ↓pz_vl, ↓pz_vL, pz_b, ↓reduceIte, or_false, or_true, false_or, true_or, not_true, not_false_iff, and_true, true_and, and_false, false_and, or_self, e2]
  · have e1' := e1.trans e2
    refine pz_op_same (-1000000012) c ?_ ?_
    · simp only [f_X9_item, pz_isSheetU, pz_isSheetMU, pz_isSlotU, pz_isSlotMU, pz_isKindU, pz_hasU, pz_in, pz_in0, pz_in_m1_1, pz_in_m9_9, pz_in_0_1, pz_in_0_2, pz_in_0_3, pz_in_0_4, pz_in_0_5, pz_in_0_60, pz_in_1_2, pz_in_1_20, pz_in_1_24, pz_in_1_3, pz_in_1_30, pz_in_1_8, pz_in_1_9, pz_in_0_99, pz_in_0_9, pz_b, pz_tbi, pz_ifif, pz_leafAtU, pz_textAtU, pz_orNoneU]; simp (disch := omega) only [pz_lit, pz_leT, pz_leF, pz_ltT, pz_ltF, pz_eqT, pz_eqF, pz_nlt, pz_nle, pz_nlt1, pz_nle1, pz_neq, pz_neq1, pz_nnlT, pz_nnlF, pz_nneT, pz_nneF, pz_cl, pz_kN, pz_add, pz_mul, pz_sub, ↓pz_jn, ↓pz_hl, ↓pz_vl, ↓pz_vL, pz_b, ↓reduceIte, or_false, or_true, false_or, true_or, not_true, not_false_iff, and_true, true_and, and_false, false_and, or_self, e1']
    · simp only [f_X10_item, pz_isSheetU, pz_isSheetMU, pz_isSlotU, pz_isSlotMU, pz_isKindU, pz_hasU, pz_in, pz_in0, pz_in_m1_1, pz_in_m9_9, pz_in_0_1, pz_in_0_2, pz_in_0_3, pz_in_0_4, pz_in_0_5, pz_in_0_60, pz_in_1_2, pz_in_1_20, pz_in_1_24, pz_in_1_3, pz_in_1_30, pz_in_1_8, pz_in_1_9, pz_in_0_99, pz_in_0_9, pz_b, pz_tbi, pz_ifif, pz_leafAtU, pz_textAtU, pz_orNoneU]; simp (disch := omega) only [pz_lit, pz_leT, pz_leF, pz_ltT, pz_ltF, pz_eqT, pz_eqF, pz_nlt, pz_nle, pz_nlt1, pz_nle1, pz_neq, pz_neq1, pz_nnlT, pz_nnlF, pz_nneT, pz_nneF, pz_cl, pz_kN, pz_add, pz_mul, pz_sub, ↓pz_jn, ↓pz_hl, ↓pz_vl, ↓pz_vL, pz_b, ↓reduceIte, or_false, or_true, false_or, true_or, not_true, not_false_iff, and_true, true_and, and_false, false_and, or_self, e2]
  · have e1' := e1.trans e2
    have e3' : h (26 + 3 * j + 1) 2 = nI len := by rw [show 26 + 3 * j + 1 = 27 + 3 * j from by omega]; exact e3
    rcases pz_cases x2 len (by omega) with q | ⟨k, hk, rfl⟩
    · have q1 := (pz_hasT q (by omega)).1
      have q2 := (pz_hasT q (by omega)).2
      refine pz_op_same (-1000000013) c ?_ ?_
      · simp only [f_X9_item, pz_isSheetU, pz_isSheetMU, pz_isSlotU, pz_isSlotMU, pz_isKindU, pz_hasU, pz_in, pz_in0, pz_in_m1_1, pz_in_m9_9, pz_in_0_1, pz_in_0_2, pz_in_0_3, pz_in_0_4, pz_in_0_5, pz_in_0_60, pz_in_1_2, pz_in_1_20, pz_in_1_24, pz_in_1_3, pz_in_1_30, pz_in_1_8, pz_in_1_9, pz_in_0_99, pz_in_0_9, pz_b, pz_tbi, pz_ifif, pz_leafAtU, pz_textAtU, pz_orNoneU]; simp (disch := omega) only [pz_lit, pz_leT, pz_leF, pz_ltT, pz_ltF, pz_eqT, pz_eqF, pz_nlt, pz_nle, pz_nlt1, pz_nle1, pz_neq, pz_neq1, pz_nnlT, pz_nnlF, pz_nneT, pz_nneF, pz_cl, pz_kN, pz_add, pz_mul, pz_sub, ↓pz_jn, ↓pz_hl, ↓pz_vl, ↓pz_vL, pz_b, ↓reduceIte, or_false, or_true, false_or, true_or, not_true, not_false_iff, and_true, true_and, and_false, false_and, or_self, e1', e3', q1]
      · simp only [f_X10_item, pz_isSheetU, pz_isSheetMU, pz_isSlotU, pz_isSlotMU, pz_isKindU, pz_hasU, pz_in, pz_in0, pz_in_m1_1, pz_in_m9_9, pz_in_0_1, pz_in_0_2, pz_in_0_3, pz_in_0_4, pz_in_0_5, pz_in_0_60, pz_in_1_2, pz_in_1_20, pz_in_1_24, pz_in_1_3, pz_in_1_30, pz_in_1_8, pz_in_1_9, pz_in_0_99, pz_in_0_9, pz_b, pz_tbi, pz_ifif, pz_leafAtU, pz_textAtU, pz_orNoneU]; simp (disch := omega) only [pz_lit, pz_leT, pz_leF, pz_ltT, pz_ltF, pz_eqT, pz_eqF, pz_nlt, pz_nle, pz_nlt1, pz_nle1, pz_neq, pz_neq1, pz_nnlT, pz_nnlF, pz_nneT, pz_nneF, pz_cl, pz_kN, pz_add, pz_mul, pz_sub, ↓pz_jn, ↓pz_hl, ↓pz_vl, ↓pz_vL, pz_b, ↓reduceIte, or_false, or_true, false_or, true_or, not_true, not_false_iff, and_true, true_and, and_false, false_and, or_self, e2, e4, q2]
    · have e5' : h (26 + 3 * j + 1 + 1) k = h 122 (24 * j + k) := by rw [show 26 + 3 * j + 1 + 1 = 28 + 3 * j from by omega]; exact e5 k hk
      by_cases q : h 122 (24 * j + k) = -nI 1000000005
      · refine pz_op_same (-1000000012) c ?_ ?_
        · simp only [f_X9_item, pz_isSheetU, pz_isSheetMU, pz_isSlotU, pz_isSlotMU, pz_isKindU, pz_hasU, pz_in, pz_in0, pz_in_m1_1, pz_in_m9_9, pz_in_0_1, pz_in_0_2, pz_in_0_3, pz_in_0_4, pz_in_0_5, pz_in_0_60, pz_in_1_2, pz_in_1_20, pz_in_1_24, pz_in_1_3, pz_in_1_30, pz_in_1_8, pz_in_1_9, pz_in_0_99, pz_in_0_9, pz_b, pz_tbi, pz_ifif, pz_leafAtU, pz_textAtU, pz_orNoneU]; simp (disch := omega) only [pz_lit, pz_leT, pz_leF, pz_ltT, pz_ltF, pz_eqT, pz_eqF, pz_nlt, pz_nle, pz_nlt1, pz_nle1, pz_neq, pz_neq1, pz_nnlT, pz_nnlF, pz_nneT, pz_nneF, pz_cl, pz_kN, pz_add, pz_mul, pz_sub, ↓pz_jn, ↓pz_hl, ↓pz_vl, ↓pz_vL, pz_b, ↓reduceIte, or_false, or_true, false_or, true_or, not_true, not_false_iff, and_true, true_and, and_false, false_and, or_self, e1', e3', e5', q]
        · simp only [f_X10_item, pz_isSheetU, pz_isSheetMU, pz_isSlotU, pz_isSlotMU, pz_isKindU, pz_hasU, pz_in, pz_in0, pz_in_m1_1, pz_in_m9_9, pz_in_0_1, pz_in_0_2, pz_in_0_3, pz_in_0_4, pz_in_0_5, pz_in_0_60, pz_in_1_2, pz_in_1_20, pz_in_1_24, pz_in_1_3, pz_in_1_30, pz_in_1_8, pz_in_1_9, pz_in_0_99, pz_in_0_9, pz_b, pz_tbi, pz_ifif, pz_leafAtU, pz_textAtU, pz_orNoneU]; simp (disch := omega) only [pz_lit, pz_leT, pz_leF, pz_ltT, pz_ltF, pz_eqT, pz_eqF, pz_nlt, pz_nle, pz_nlt1, pz_nle1, pz_neq, pz_neq1, pz_nnlT, pz_nnlF, pz_nneT, pz_nneF, pz_cl, pz_kN, pz_add, pz_mul, pz_sub, ↓pz_jn, ↓pz_hl, ↓pz_vl, ↓pz_vL, pz_b, ↓reduceIte, or_false, or_true, false_or, true_or, not_true, not_false_iff, and_true, true_and, and_false, false_and, or_self, e2, e4, q]
      · refine pz_op_same (h 122 (24 * j + k)) c ?_ ?_
        · simp only [f_X9_item, pz_isSheetU, pz_isSheetMU, pz_isSlotU, pz_isSlotMU, pz_isKindU, pz_hasU, pz_in, pz_in0, pz_in_m1_1, pz_in_m9_9, pz_in_0_1, pz_in_0_2, pz_in_0_3, pz_in_0_4, pz_in_0_5, pz_in_0_60, pz_in_1_2, pz_in_1_20, pz_in_1_24, pz_in_1_3, pz_in_1_30, pz_in_1_8, pz_in_1_9, pz_in_0_99, pz_in_0_9, pz_b, pz_tbi, pz_ifif, pz_leafAtU, pz_textAtU, pz_orNoneU]; simp (disch := omega) only [pz_lit, pz_leT, pz_leF, pz_ltT, pz_ltF, pz_eqT, pz_eqF, pz_nlt, pz_nle, pz_nlt1, pz_nle1, pz_neq, pz_neq1, pz_nnlT, pz_nnlF, pz_nneT, pz_nneF, pz_cl, pz_kN, pz_add, pz_mul, pz_sub, ↓pz_jn, ↓pz_hl, ↓pz_vl, ↓pz_vL, pz_b, ↓reduceIte, or_false, or_true, false_or, true_or, not_true, not_false_iff, and_true, true_and, and_false, false_and, or_self, e1', e3', e5', q]
        · simp only [f_X10_item, pz_isSheetU, pz_isSheetMU, pz_isSlotU, pz_isSlotMU, pz_isKindU, pz_hasU, pz_in, pz_in0, pz_in_m1_1, pz_in_m9_9, pz_in_0_1, pz_in_0_2, pz_in_0_3, pz_in_0_4, pz_in_0_5, pz_in_0_60, pz_in_1_2, pz_in_1_20, pz_in_1_24, pz_in_1_3, pz_in_1_30, pz_in_1_8, pz_in_1_9, pz_in_0_99, pz_in_0_9, pz_b, pz_tbi, pz_ifif, pz_leafAtU, pz_textAtU, pz_orNoneU]; simp (disch := omega) only [pz_lit, pz_leT, pz_leF, pz_ltT, pz_ltF, pz_eqT, pz_eqF, pz_nlt, pz_nle, pz_nlt1, pz_nle1, pz_neq, pz_neq1, pz_nnlT, pz_nnlF, pz_nneT, pz_nneF, pz_cl, pz_kN, pz_add, pz_mul, pz_sub, ↓pz_jn, ↓pz_hl, ↓pz_vl, ↓pz_vL, pz_b, ↓reduceIte, or_false, or_true, false_or, true_or, not_true, not_false_iff, and_true, true_and, and_false, false_and, or_self, e2, e4, q]
  · have e1' := e1.trans e2
    refine pz_op_same (-1000000012) c ?_ ?_
    · simp only [f_X9_item, pz_isSheetU, pz_isSheetMU, pz_isSlotU, pz_isSlotMU, pz_isKindU, pz_hasU, pz_in, pz_in0, pz_in_m1_1, pz_in_m9_9, pz_in_0_1, pz_in_0_2, pz_in_0_3, pz_in_0_4, pz_in_0_5, pz_in_0_60, pz_in_1_2, pz_in_1_20, pz_in_1_24, pz_in_1_3, pz_in_1_30, pz_in_1_8, pz_in_1_9, pz_in_0_99, pz_in_0_9, pz_b, pz_tbi, pz_ifif, pz_leafAtU, pz_textAtU, pz_orNoneU]; simp (disch := omega) only [pz_lit, pz_leT, pz_leF, pz_ltT, pz_ltF, pz_eqT, pz_eqF, pz_nlt, pz_nle, pz_nlt1, pz_nle1, pz_neq, pz_neq1, pz_nnlT, pz_nnlF, pz_nneT, pz_nneF, pz_cl, pz_kN, pz_add, pz_mul, pz_sub, ↓pz_jn, ↓pz_hl, ↓pz_vl, ↓pz_vL, pz_b, ↓reduceIte, or_false, or_true, false_or, true_or, not_true, not_false_iff, and_true, true_and, and_false, false_and, or_self, e1']
    · simp only [f_X10_item, pz_isSheetU, pz_isSheetMU, pz_isSlotU, pz_isSlotMU, pz_isKindU, pz_hasU, pz_in, pz_in0, pz_in_m1_1, pz_in_m9_9, pz_in_0_1, pz_in_0_2, pz_in_0_3, pz_in_0_4, pz_in_0_5, pz_in_0_60, pz_in_1_2, pz_in_1_20, pz_in_1_24, pz_in_1_3, pz_in_1_30, pz_in_1_8, pz_in_1_9, pz_in_0_99, pz_in_0_9, pz_b, pz_tbi, pz_ifif, pz_leafAtU, pz_textAtU, pz_orNoneU]; simp (disch := omega) only [pz_lit, pz_leT, pz_leF, pz_ltT, pz_ltF, pz_eqT, pz_eqF, pz_nlt, pz_nle, pz_nlt1, pz_nle1, pz_neq, pz_neq1, pz_nnlT, pz_nnlF, pz_nneT, pz_nneF, pz_cl, pz_kN, pz_add, pz_mul, pz_sub, ↓pz_jn, ↓pz_hl, ↓pz_vl, ↓pz_vL, pz_b, ↓reduceIte, or_false, or_true, false_or, true_or, not_true, not_false_iff, and_true, true_and, and_false, false_and, or_self, e2]
theorem pz_rest (x1 x2 : Int32) (h : kv_H) (c : pz_c4 h) : pz_op [4] pz_c4 (f_X9_rest x1 x2) (f_X10_rest x1 x2) h := by
  rcases pz_cases x1 5 (by omega) with q | ⟨j, hj, rfl⟩
  · exact pz_op_same (-1000000001) c (by rw [f_X9_rest, pz_isSlotB q]; rfl) (by rw [f_X10_rest, pz_isSlotMB q]; rfl)
  obtain ⟨e1, e2⟩ := c j hj
  rcases e2 with e2 | ⟨e2, -⟩ | ⟨e2, -⟩ | ⟨e2, e3⟩
  · have e1' := e1.trans e2
    refine pz_op_same (-1000000011) c ?_ ?_
    · simp only [f_X9_rest, pz_isSheetU, pz_isSheetMU, pz_isSlotU, pz_isSlotMU, pz_isKindU, pz_hasU, pz_in, pz_in0, pz_in_m1_1, pz_in_m9_9, pz_in_0_1, pz_in_0_2, pz_in_0_3, pz_in_0_4, pz_in_0_5, pz_in_0_60, pz_in_1_2, pz_in_1_20, pz_in_1_24, pz_in_1_3, pz_in_1_30, pz_in_1_8, pz_in_1_9, pz_in_0_99, pz_in_0_9, pz_b, pz_tbi, pz_ifif, pz_leafAtU, pz_textAtU, pz_orNoneU]; simp (disch := omega) only [pz_lit, pz_leT, pz_leF, pz_ltT, pz_ltF, pz_eqT, pz_eqF, pz_nlt, pz_nle, pz_nlt1, pz_nle1, pz_neq, pz_neq1, pz_nnlT, pz_nnlF, pz_nneT, pz_nneF, pz_cl, pz_kN, pz_add, pz_mul, pz_sub, ↓pz_jn, ↓pz_hl, ↓pz_vl, ↓pz_vL, pz_b, ↓reduceIte, or_false, or_true, false_or, true_or, not_true, not_false_iff, and_true, true_and, and_false, false_and, or_self, e1']
    · simp only [f_X10_rest, pz_isSheetU, pz_isSheetMU, pz_isSlotU, pz_isSlotMU, pz_isKindU, pz_hasU, pz_in, pz_in0, pz_in_m1_1, pz_in_m9_9, pz_in_0_1, pz_in_0_2, pz_in_0_3, pz_in_0_4, pz_in_0_5, pz_in_0_60, pz_in_1_2, pz_in_1_20, pz_in_1_24, pz_in_1_3, pz_in_1_30, pz_in_1_8, pz_in_1_9, pz_in_0_99, pz_in_0_9, pz_b, pz_tbi, pz_ifif, pz_leafAtU, pz_textAtU, pz_orNoneU]; simp (disch := omega) only [pz_lit, pz_leT, pz_leF, pz_ltT, pz_ltF, pz_eqT, pz_eqF, pz_nlt, pz_nle, pz_nlt1, pz_nle1, pz_neq, pz_neq1, pz_nnlT, pz_nnlF, pz_nneT, pz_nneF, pz_cl, pz_kN, pz_add, pz_mul, pz_sub, ↓pz_jn, ↓pz_hl, ↓pz_vl, ↓pz_vL, pz_b, ↓reduceIte, or_false, or_true, false_or, true_or, not_true, not_false_iff, and_true, true_and, and_false, false_and, or_self, e2]
  · have e1' := e1.trans e2
    refine pz_op_same (-1000000012) c ?_ ?_
    · simp only [f_X9_rest, pz_isSheetU, pz_isSheetMU, pz_isSlotU, pz_isSlotMU, pz_isKindU, pz_hasU, pz_in, pz_in0, pz_in_m1_1, pz_in_m9_9, pz_in_0_1, pz_in_0_2, pz_in_0_3, pz_in_0_4, pz_in_0_5, pz_in_0_60, pz_in_1_2, pz_in_1_20, pz_in_1_24, pz_in_1_3, pz_in_1_30, pz_in_1_8, pz_in_1_9, pz_in_0_99, pz_in_0_9, pz_b, pz_tbi, pz_ifif, pz_leafAtU, pz_textAtU, pz_orNoneU]; simp (disch := omega) only [pz_lit, pz_leT, pz_leF, pz_ltT, pz_ltF, pz_eqT, pz_eqF, pz_nlt, pz_nle, pz_nlt1, pz_nle1, pz_neq, pz_neq1, pz_nnlT, pz_nnlF, pz_nneT, pz_nneF, pz_cl, pz_kN, pz_add, pz_mul, pz_sub, ↓pz_jn, ↓pz_hl, ↓pz_vl, ↓pz_vL, pz_b, ↓reduceIte, or_false, or_true, false_or, true_or, not_true, not_false_iff, and_true, true_and, and_false, false_and, or_self, e1']
    · simp only [f_X10_rest, pz_isSheetU, pz_isSheetMU, pz_isSlotU, pz_isSlotMU, pz_isKindU, pz_hasU, pz_in, pz_in0, pz_in_m1_1, pz_in_m9_9, pz_in_0_1, pz_in_0_2, pz_in_0_3, pz_in_0_4, pz_in_0_5, pz_in_0_60, pz_in_1_2, pz_in_1_20, pz_in_1_24, pz_in_1_3, pz_in_1_30, pz_in_1_8, pz_in_1_9, pz_in_0_99, pz_in_0_9, pz_b, pz_tbi, pz_ifif, pz_leafAtU, pz_textAtU, pz_orNoneU]; simp (disch := omega) only [pz_lit, pz_leT, pz_leF, pz_ltT, pz_ltF, pz_eqT, pz_eqF, pz_nlt, pz_nle, pz_nlt1, pz_nle1, pz_neq, pz_neq1, pz_nnlT, pz_nnlF, pz_nneT, pz_nneF, pz_cl, pz_kN, pz_add, pz_mul, pz_sub, ↓pz_jn, ↓pz_hl, ↓pz_vl, ↓pz_vL, pz_b, ↓reduceIte, or_false, or_true, false_or, true_or, not_true, not_false_iff, and_true, true_and, and_false, false_and, or_self, e2]
  · have e1' := e1.trans e2
    refine pz_op_same (-1000000012) c ?_ ?_
    · simp only [f_X9_rest, pz_isSheetU, pz_isSheetMU, pz_isSlotU, pz_isSlotMU, pz_isKindU, pz_hasU, pz_in, pz_in0, pz_in_m1_1, pz_in_m9_9, pz_in_0_1, pz_in_0_2, pz_in_0_3, pz_in_0_4, pz_in_0_5, pz_in_0_60, pz_in_1_2, pz_in_1_20, pz_in_1_24, pz_in_1_3, pz_in_1_30, pz_in_1_8, pz_in_1_9, pz_in_0_99, pz_in_0_9, pz_b, pz_tbi, pz_ifif, pz_leafAtU, pz_textAtU, pz_orNoneU]; simp (disch := omega) only [pz_lit, pz_leT, pz_leF, pz_ltT, pz_ltF, pz_eqT, pz_eqF, pz_nlt, pz_nle, pz_nlt1, pz_nle1, pz_neq, pz_neq1, pz_nnlT, pz_nnlF, pz_nneT, pz_nneF, pz_cl, pz_kN, pz_add, pz_mul, pz_sub, ↓pz_jn, ↓pz_hl, ↓pz_vl, ↓pz_vL, pz_b, ↓reduceIte, or_false, or_true, false_or, true_or, not_true, not_false_iff, and_true, true_and, and_false, false_and, or_self, e1']
    · simp only [f_X10_rest, pz_isSheetU, pz_isSheetMU, pz_isSlotU, pz_isSlotMU, pz_isKindU, pz_hasU, pz_in, pz_in0, pz_in_m1_1, pz_in_m9_9, pz_in_0_1, pz_in_0_2, pz_in_0_3, pz_in_0_4, pz_in_0_5, pz_in_0_60, pz_in_1_2, pz_in_1_20, pz_in_1_24, pz_in_1_3, pz_in_1_30, pz_in_1_8, pz_in_1_9, pz_in_0_99, pz_in_0_9, pz_b, pz_tbi, pz_ifif, pz_leafAtU, pz_textAtU, pz_orNoneU]; simp (disch := omega) only [pz_lit, pz_leT, pz_leF, pz_ltT, pz_ltF, pz_eqT, pz_eqF, pz_nlt, pz_nle, pz_nlt1, pz_nle1, pz_neq, pz_neq1, pz_nnlT, pz_nnlF, pz_nneT, pz_nneF, pz_cl, pz_kN, pz_add, pz_mul, pz_sub, ↓pz_jn, ↓pz_hl, ↓pz_vl, ↓pz_vL, pz_b, ↓reduceIte, or_false, or_true, false_or, true_or, not_true, not_false_iff, and_true, true_and, and_false, false_and, or_self, e2]
  · have e1' := e1.trans e2
    by_cases q : x2 = nI 0
    · refine pz_op_same (-1000000002) c ?_ ?_
      · simp only [f_X9_rest, pz_isSheetU, pz_isSheetMU, pz_isSlotU, pz_isSlotMU, pz_isKindU, pz_hasU, pz_in, pz_in0, pz_in_m1_1, pz_in_m9_9, pz_in_0_1, pz_in_0_2, pz_in_0_3, pz_in_0_4, pz_in_0_5, pz_in_0_60, pz_in_1_2, pz_in_1_20, pz_in_1_24, pz_in_1_3, pz_in_1_30, pz_in_1_8, pz_in_1_9, pz_in_0_99, pz_in_0_9, pz_b, pz_tbi, pz_ifif, pz_leafAtU, pz_textAtU, pz_orNoneU]; simp (disch := omega) only [pz_lit, pz_leT, pz_leF, pz_ltT, pz_ltF, pz_eqT, pz_eqF, pz_nlt, pz_nle, pz_nlt1, pz_nle1, pz_neq, pz_neq1, pz_nnlT, pz_nnlF, pz_nneT, pz_nneF, pz_cl, pz_kN, pz_add, pz_mul, pz_sub, ↓pz_jn, ↓pz_hl, ↓pz_vl, ↓pz_vL, pz_b, ↓reduceIte, or_false, or_true, false_or, true_or, not_true, not_false_iff, and_true, true_and, and_false, false_and, or_self, e1', q]
      · simp only [f_X10_rest, pz_isSheetU, pz_isSheetMU, pz_isSlotU, pz_isSlotMU, pz_isKindU, pz_hasU, pz_in, pz_in0, pz_in_m1_1, pz_in_m9_9, pz_in_0_1, pz_in_0_2, pz_in_0_3, pz_in_0_4, pz_in_0_5, pz_in_0_60, pz_in_1_2, pz_in_1_20, pz_in_1_24, pz_in_1_3, pz_in_1_30, pz_in_1_8, pz_in_1_9, pz_in_0_99, pz_in_0_9, pz_b, pz_tbi, pz_ifif, pz_leafAtU, pz_textAtU, pz_orNoneU]; simp (disch := omega) only [pz_lit, pz_leT, pz_leF, pz_ltT, pz_ltF, pz_eqT, pz_eqF, pz_nlt, pz_nle, pz_nlt1, pz_nle1, pz_neq, pz_neq1, pz_nnlT, pz_nnlF, pz_nneT, pz_nneF, pz_cl, pz_kN, pz_add, pz_mul, pz_sub, ↓pz_jn, ↓pz_hl, ↓pz_vl, ↓pz_vL, pz_b, ↓reduceIte, or_false, or_true, false_or, true_or, not_true, not_false_iff, and_true, true_and, and_false, false_and, or_self, e2, q]
    · have qz : ∀ R : Option (Int32 × kv_H), kv_z x2 R = R := fun R => pz_z q
      refine pz_op_same (h 119 j - h 119 j / x2 * x2) c ?_ ?_
      · simp only [f_X9_rest, pz_isSheetU, pz_isSheetMU, pz_isSlotU, pz_isSlotMU, pz_isKindU, pz_hasU, pz_in, pz_in0, pz_in_m1_1, pz_in_m9_9, pz_in_0_1, pz_in_0_2, pz_in_0_3, pz_in_0_4, pz_in_0_5, pz_in_0_60, pz_in_1_2, pz_in_1_20, pz_in_1_24, pz_in_1_3, pz_in_1_30, pz_in_1_8, pz_in_1_9, pz_in_0_99, pz_in_0_9, pz_b, pz_tbi, pz_ifif, pz_leafAtU, pz_textAtU, pz_orNoneU]; simp (disch := omega) only [pz_lit, pz_leT, pz_leF, pz_ltT, pz_ltF, pz_eqT, pz_eqF, pz_nlt, pz_nle, pz_nlt1, pz_nle1, pz_neq, pz_neq1, pz_nnlT, pz_nnlF, pz_nneT, pz_nneF, pz_cl, pz_kN, pz_add, pz_mul, pz_sub, ↓pz_jn, ↓pz_hl, ↓pz_vl, ↓pz_vL, pz_b, ↓reduceIte, or_false, or_true, false_or, true_or, not_true, not_false_iff, and_true, true_and, and_false, false_and, or_self, e1', e3, q, qz]
      · simp only [f_X10_rest, pz_isSheetU, pz_isSheetMU, pz_isSlotU, pz_isSlotMU, pz_isKindU, pz_hasU, pz_in, pz_in0, pz_in_m1_1, pz_in_m9_9, pz_in_0_1, pz_in_0_2, pz_in_0_3, pz_in_0_4, pz_in_0_5, pz_in_0_60, pz_in_1_2, pz_in_1_20, pz_in_1_24, pz_in_1_3, pz_in_1_30, pz_in_1_8, pz_in_1_9, pz_in_0_99, pz_in_0_9, pz_b, pz_tbi, pz_ifif, pz_leafAtU, pz_textAtU, pz_orNoneU]; simp (disch := omega) only [pz_lit, pz_leT, pz_leF, pz_ltT, pz_ltF, pz_eqT, pz_eqF, pz_nlt, pz_nle, pz_nlt1, pz_nle1, pz_neq, pz_neq1, pz_nnlT, pz_nnlF, pz_nneT, pz_nneF, pz_cl, pz_kN, pz_add, pz_mul, pz_sub, ↓pz_jn, ↓pz_hl, ↓pz_vl, ↓pz_vL, pz_b, ↓reduceIte, or_false, or_true, false_or, true_or, not_true, not_false_iff, and_true, true_and, and_false, false_and, or_self, e2, q, qz]
theorem pz_ask (x1 x2 : Int32) (h : kv_H) (c : pz_c4 h) : pz_op [4] pz_c4 (f_X9_ask x1 x2) (f_X10_ask x1 x2) h := by
  rcases pz_cases x1 5 (by omega) with q | ⟨j, hj, rfl⟩
  · exact pz_op_same (-1000000001) c (by rw [f_X9_ask, pz_isSlotB q]; rfl) (by rw [f_X10_ask, pz_isSlotMB q]; rfl)
  rcases pz_cases x2 6 (by omega) with q | ⟨k, hk, rfl⟩
  · exact pz_op_same (-1000000001) c (by rw [f_X9_ask, pz_isSlotG hj, pz_b, pz_isKindB q]; rfl) (by rw [f_X10_ask, pz_isSlotMG hj, pz_b, pz_in_0_5B q]; rfl)
  obtain ⟨e1, e2⟩ := c j hj
  rcases e2 with e2 | ⟨e2, e3, e4, kd, hkd, e5⟩ | ⟨e2, -⟩ | ⟨e2, -⟩
  · have e1' := e1.trans e2
    refine pz_op_same (-1000000011) c ?_ ?_
    · simp only [f_X9_ask, pz_isSheetU, pz_isSheetMU, pz_isSlotU, pz_isSlotMU, pz_isKindU, pz_hasU, pz_in, pz_in0, pz_in_m1_1, pz_in_m9_9, pz_in_0_1, pz_in_0_2, pz_in_0_3, pz_in_0_4, pz_in_0_5, pz_in_0_60, pz_in_1_2, pz_in_1_20, pz_in_1_24, pz_in_1_3, pz_in_1_30, pz_in_1_8, pz_in_1_9, pz_in_0_99, pz_in_0_9, pz_b, pz_tbi, pz_ifif, pz_leafAtU, pz_textAtU, pz_orNoneU]; simp (disch := omega) only [pz_lit, pz_leT, pz_leF, pz_ltT, pz_ltF, pz_eqT, pz_eqF, pz_nlt, pz_nle, pz_nlt1, pz_nle1, pz_neq, pz_neq1, pz_nnlT, pz_nnlF, pz_nneT, pz_nneF, pz_cl, pz_kN, pz_add, pz_mul, pz_sub, ↓pz_jn, ↓pz_hl, ↓pz_vl, ↓pz_vL, pz_b, ↓reduceIte, or_false, or_true, false_or, true_or, not_true, not_false_iff, and_true, true_and, and_false, false_and, or_self, e1']
    · simp only [f_X10_ask, pz_isSheetU, pz_isSheetMU, pz_isSlotU, pz_isSlotMU, pz_isKindU, pz_hasU, pz_in, pz_in0, pz_in_m1_1, pz_in_m9_9, pz_in_0_1, pz_in_0_2, pz_in_0_3, pz_in_0_4, pz_in_0_5, pz_in_0_60, pz_in_1_2, pz_in_1_20, pz_in_1_24, pz_in_1_3, pz_in_1_30, pz_in_1_8, pz_in_1_9, pz_in_0_99, pz_in_0_9, pz_b, pz_tbi, pz_ifif, pz_leafAtU, pz_textAtU, pz_orNoneU]; simp (disch := omega) only [pz_lit, pz_leT, pz_leF, pz_ltT, pz_ltF, pz_eqT, pz_eqF, pz_nlt, pz_nle, pz_nlt1, pz_nle1, pz_neq, pz_neq1, pz_nnlT, pz_nnlF, pz_nneT, pz_nneF, pz_cl, pz_kN, pz_add, pz_mul, pz_sub, ↓pz_jn, ↓pz_hl, ↓pz_vl, ↓pz_vL, pz_b, ↓reduceIte, or_false, or_true, false_or, true_or, not_true, not_false_iff, and_true, true_and, and_false, false_and, or_self, e2]
  · have e1' := e1.trans e2
    rcases pz_un01 kd k with u | u
    · refine pz_op_same (h 120 j) c ?_ ?_
      · simp only [f_X9_ask, pz_isSheetU, pz_isSheetMU, pz_isSlotU, pz_isSlotMU, pz_isKindU, pz_hasU, pz_in, pz_in0, pz_in_m1_1, pz_in_m9_9, pz_in_0_1, pz_in_0_2, pz_in_0_3, pz_in_0_4, pz_in_0_5, pz_in_0_60, pz_in_1_2, pz_in_1_20, pz_in_1_24, pz_in_1_3, pz_in_1_30, pz_in_1_8, pz_in_1_9, pz_in_0_99, pz_in_0_9, pz_b, pz_tbi, pz_ifif, pz_leafAtU, pz_textAtU, pz_orNoneU]; simp (disch := omega) only [pz_lit, pz_leT, pz_leF, pz_ltT, pz_ltF, pz_eqT, pz_eqF, pz_nlt, pz_nle, pz_nlt1, pz_nle1, pz_neq, pz_neq1, pz_nnlT, pz_nnlF, pz_nneT, pz_nneF, pz_cl, pz_kN, pz_add, pz_mul, pz_sub, ↓pz_jn, ↓pz_hl, ↓pz_vl, ↓pz_vL, pz_b, ↓reduceIte, or_false, or_true, false_or, true_or, not_true, not_false_iff, and_true, true_and, and_false, false_and, or_self, e1', e5, pz_under9 _ _ hkd _ hk, u, pz_worth9]
        rw [e4, e5]
      · simp only [f_X10_ask, pz_isSheetU, pz_isSheetMU, pz_isSlotU, pz_isSlotMU, pz_isKindU, pz_hasU, pz_in, pz_in0, pz_in_m1_1, pz_in_m9_9, pz_in_0_1, pz_in_0_2, pz_in_0_3, pz_in_0_4, pz_in_0_5, pz_in_0_60, pz_in_1_2, pz_in_1_20, pz_in_1_24, pz_in_1_3, pz_in_1_30, pz_in_1_8, pz_in_1_9, pz_in_0_99, pz_in_0_9, pz_b, pz_tbi, pz_ifif, pz_leafAtU, pz_textAtU, pz_orNoneU]; simp (disch := omega) only [pz_lit, pz_leT, pz_leF, pz_ltT, pz_ltF, pz_eqT, pz_eqF, pz_nlt, pz_nle, pz_nlt1, pz_nle1, pz_neq, pz_neq1, pz_nnlT, pz_nnlF, pz_nneT, pz_nneF, pz_cl, pz_kN, pz_add, pz_mul, pz_sub, ↓pz_jn, ↓pz_hl, ↓pz_vl, ↓pz_vL, pz_b, ↓reduceIte, or_false, or_true, false_or, true_or, not_true, not_false_iff, and_true, true_and, and_false, false_and, or_self, e2, e3, e5, pz_under10 _ _ hkd _ hk, u]
    · refine pz_op_same (-1000000012) c ?_ ?_
      · simp only [f_X9_ask, pz_isSheetU, pz_isSheetMU, pz_isSlotU, pz_isSlotMU, pz_isKindU, pz_hasU, pz_in, pz_in0, pz_in_m1_1, pz_in_m9_9, pz_in_0_1, pz_in_0_2, pz_in_0_3, pz_in_0_4, pz_in_0_5, pz_in_0_60, pz_in_1_2, pz_in_1_20, pz_in_1_24, pz_in_1_3, pz_in_1_30, pz_in_1_8, pz_in_1_9, pz_in_0_99, pz_in_0_9, pz_b, pz_tbi, pz_ifif, pz_leafAtU, pz_textAtU, pz_orNoneU]; simp (disch := omega) only [pz_lit, pz_leT, pz_leF, pz_ltT, pz_ltF, pz_eqT, pz_eqF, pz_nlt, pz_nle, pz_nlt1, pz_nle1, pz_neq, pz_neq1, pz_nnlT, pz_nnlF, pz_nneT, pz_nneF, pz_cl, pz_kN, pz_add, pz_mul, pz_sub, ↓pz_jn, ↓pz_hl, ↓pz_vl, ↓pz_vL, pz_b, ↓reduceIte, or_false, or_true, false_or, true_or, not_true, not_false_iff, and_true, true_and, and_false, false_and, or_self, e1', e5, pz_under9 _ _ hkd _ hk, u, pz_worth9]
      · simp only [f_X10_ask, pz_isSheetU, pz_isSheetMU, pz_isSlotU, pz_isSlotMU, pz_isKindU, pz_hasU, pz_in, pz_in0, pz_in_m1_1, pz_in_m9_9, pz_in_0_1, pz_in_0_2, pz_in_0_3, pz_in_0_4, pz_in_0_5, pz_in_0_60, pz_in_1_2, pz_in_1_20, pz_in_1_24, pz_in_1_3, pz_in_1_30, pz_in_1_8, pz_in_1_9, pz_in_0_99, pz_in_0_9, pz_b, pz_tbi, pz_ifif, pz_leafAtU, pz_textAtU, pz_orNoneU]; simp (disch := omega) only [pz_lit, pz_leT, pz_leF, pz_ltT, pz_ltF, pz_eqT, pz_eqF, pz_nlt, pz_nle, pz_nlt1, pz_nle1, pz_neq, pz_neq1, pz_nnlT, pz_nnlF, pz_nneT, pz_nneF, pz_cl, pz_kN, pz_add, pz_mul, pz_sub, ↓pz_jn, ↓pz_hl, ↓pz_vl, ↓pz_vL, pz_b, ↓reduceIte, or_false, or_true, false_or, true_or, not_true, not_false_iff, and_true, true_and, and_false, false_and, or_self, e2, e3, e5, pz_under10 _ _ hkd _ hk, u]
  · have e1' := e1.trans e2
    refine pz_op_same (-1000000012) c ?_ ?_
    · simp only [f_X9_ask, pz_isSheetU, pz_isSheetMU, pz_isSlotU, pz_isSlotMU, pz_isKindU, pz_hasU, pz_in, pz_in0, pz_in_m1_1, pz_in_m9_9, pz_in_0_1, pz_in_0_2, pz_in_0_3, pz_in_0_4, pz_in_0_5, pz_in_0_60, pz_in_1_2, pz_in_1_20, pz_in_1_24, pz_in_1_3, pz_in_1_30, pz_in_1_8, pz_in_1_9, pz_in_0_99, pz_in_0_9, pz_b, pz_tbi, pz_ifif, pz_leafAtU, pz_textAtU, pz_orNoneU]; simp (disch := omega) only [pz_lit, pz_leT, pz_leF, pz_ltT, pz_ltF, pz_eqT, pz_eqF, pz_nlt, pz_nle, pz_nlt1, pz_nle1, pz_neq, pz_neq1, pz_nnlT, pz_nnlF, pz_nneT, pz_nneF, pz_cl, pz_kN, pz_add, pz_mul, pz_sub, ↓pz_jn, ↓pz_hl, ↓pz_vl, ↓pz_vL, pz_b, ↓reduceIte, or_false, or_true, false_or, true_or, not_true, not_false_iff, and_true, true_and, and_false, false_and, or_self, e1']
    · simp only [f_X10_ask, pz_isSheetU, pz_isSheetMU, pz_isSlotU, pz_isSlotMU, pz_isKindU, pz_hasU, pz_in, pz_in0, pz_in_m1_1, pz_in_m9_9, pz_in_0_1, pz_in_0_2, pz_in_0_3, pz_in_0_4, pz_in_0_5, pz_in_0_60, pz_in_1_2, pz_in_1_20, pz_in_1_24, pz_in_1_3, pz_in_1_30, pz_in_1_8, pz_in_1_9, pz_in_0_99, pz_in_0_9, pz_b, pz_tbi, pz_ifif, pz_leafAtU, pz_textAtU, pz_orNoneU]; simp (disch := omega) only [pz_lit, pz_leT, pz_leF, pz_ltT, pz_ltF, pz_eqT, pz_eqF, pz_nlt, pz_nle, pz_nlt1, pz_nle1, pz_neq, pz_neq1, pz_nnlT, pz_nnlF, pz_nneT, pz_nneF, pz_cl, pz_kN, pz_add, pz_mul, pz_sub, ↓pz_jn, ↓pz_hl, ↓pz_vl, ↓pz_vL, pz_b, ↓reduceIte, or_false, or_true, false_or, true_or, not_true, not_false_iff, and_true, true_and, and_false, false_and, or_self, e2]
  · have e1' := e1.trans e2
    refine pz_op_same (-1000000012) c ?_ ?_
    · simp only [f_X9_ask, pz_isSheetU, pz_isSheetMU, pz_isSlotU, pz_isSlotMU, pz_isKindU, pz_hasU, pz_in, pz_in0, pz_in_m1_1, pz_in_m9_9, pz_in_0_1, pz_in_0_2, pz_in_0_3, pz_in_0_4, pz_in_0_5, pz_in_0_60, pz_in_1_2, pz_in_1_20, pz_in_1_24, pz_in_1_3, pz_in_1_30, pz_in_1_8, pz_in_1_9, pz_in_0_99, pz_in_0_9, pz_b, pz_tbi, pz_ifif, pz_leafAtU, pz_textAtU, pz_orNoneU]; simp (disch := omega) only [pz_lit, pz_leT, pz_leF, pz_ltT, pz_ltF, pz_eqT, pz_eqF, pz_nlt, pz_nle, pz_nlt1, pz_nle1, pz_neq, pz_neq1, pz_nnlT, pz_nnlF, pz_nneT, pz_nneF, pz_cl, pz_kN, pz_add, pz_mul, pz_sub, ↓pz_jn, ↓pz_hl, ↓pz_vl, ↓pz_vL, pz_b, ↓reduceIte, or_false, or_true, false_or, true_or, not_true, not_false_iff, and_true, true_and, and_false, false_and, or_self, e1']
    · simp only [f_X10_ask, pz_isSheetU, pz_isSheetMU, pz_isSlotU, pz_isSlotMU, pz_isKindU, pz_hasU, pz_in, pz_in0, pz_in_m1_1, pz_in_m9_9, pz_in_0_1, pz_in_0_2, pz_in_0_3, pz_in_0_4, pz_in_0_5, pz_in_0_60, pz_in_1_2, pz_in_1_20, pz_in_1_24, pz_in_1_3, pz_in_1_30, pz_in_1_8, pz_in_1_9, pz_in_0_99, pz_in_0_9, pz_b, pz_tbi, pz_ifif, pz_leafAtU, pz_textAtU, pz_orNoneU]; simp (disch := omega) only [pz_lit, pz_leT, pz_leF, pz_ltT, pz_ltF, pz_eqT, pz_eqF, pz_nlt, pz_nle, pz_nlt1, pz_nle1, pz_neq, pz_neq1, pz_nnlT, pz_nnlF, pz_nneT, pz_nneF, pz_cl, pz_kN, pz_add, pz_mul, pz_sub, ↓pz_jn, ↓pz_hl, ↓pz_vl, ↓pz_vL, pz_b, ↓reduceIte, or_false, or_true, false_or, true_or, not_true, not_false_iff, and_true, true_and, and_false, false_and, or_self, e2]

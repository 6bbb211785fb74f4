/-! PURE PART: lay -/
theorem pz_worth10 {h : kv_H} {n : Nat} {D : Nat → Nat → Nat} (lm : pz_LM (h 112) n D) (hn : n ≤ 8) (i : Nat) (hi : i < n) : f_X10_worth (nI i) h = some (pz_wv (nI (D 0 i)) (nI (D 1 i)) (nI (D 2 i)) (nI (D 3 i)), h) := by
  have b := lm.2 i hi
  have e0 : (10 : Int32) + 7 * nI i = nI (10 + 7 * i) := by
    rw [show (7 : Int32) = nI 7 from rfl, pz_mul, show (10 : Int32) = nI 10 from rfl, pz_add]
  have e1 : nI (10 + 7 * i) + 1 = nI (11 + 7 * i) := by rw [nI_1]; congr 1; omega
  have e2 : nI (10 + 7 * i) + 2 = nI (12 + 7 * i) := by rw [show (2 : Int32) = nI 2 from rfl, pz_add]; congr 1; omega
  have e3 : nI (10 + 7 * i) + 3 = nI (13 + 7 * i) := by rw [show (3 : Int32) = nI 3 from rfl, pz_add]; congr 1; omega
  rw [f_X10_worth, pz_leafAtU, pz_b, e0, e1, e2, e3, pz_kN (by omega) (by omega), pz_kN (by omega) (by omega), pz_cl (by omega), pz_cl (by omega), b.2.2.1, b.2.1, pz_vl, pz_kN (by omega) (by omega), pz_cl (by omega), b.1, pz_kN (by omega) (by omega), pz_kN (by omega) (by omega), pz_cl (by omega), b.2.2.2.1]
  unfold pz_wv
  simp only [kv_sw]
  by_cases q1 : nI (D 0 i) = 1
  · rw [if_pos q1, if_pos q1]
  rw [if_neg q1, if_neg q1]
  by_cases q2 : nI (D 0 i) = 2
  · rw [if_pos q2, if_pos q2]
  rw [if_neg q2, if_neg q2]
  by_cases q3 : nI (D 0 i) = 3
  · rw [if_pos q3, if_pos q3]
  rw [if_neg q3, if_neg q3]
  by_cases q4 : nI (D 0 i) = 4
  · rw [if_pos q4, if_pos q4]
  rw [if_neg q4, if_neg q4]
  by_cases q5 : nI (D 0 i) = 5
  · rw [if_pos q5, if_pos q5]
  rw [if_neg q5, if_neg q5]
theorem pz_layM (a b : Nat) (e : Int32) (ha : a < 5) (hb : b < 4) (h : kv_H) (C : kv_H → Option (Int32 × kv_H)) : f_X10_lay_L154 (nI a) (nI b) e kv_fu (nI 0) h C = C (pz_st h 122 (24 * a) (24 * a + 24) (fun k => h 117 (24 * b + (k - 24 * a)))) := by
  refine pz_for (fun n k g => f_X10_lay_L154 (nI a) (nI b) e n (nI k) g C) (fun k g => g = pz_st h 122 (24 * a) (24 * a + k) (fun k => h 117 (24 * b + (k - 24 * a)))) (fun R => R = C (pz_st h 122 (24 * a) (24 * a + 24) (fun k => h 117 (24 * b + (k - 24 * a))))) 24 ?_ ?_ kv_fu 0 _ (by omega) (by rw [show kv_fu = 5000 from rfl]; omega) (pz_st0 _ _ _ _).symm
  · intro n s e'
    simp (disch := omega) only [f_X10_lay_L154, pz_lit, pz_leT, pz_leF, pz_ltT, pz_ltF, pz_eqT, pz_eqF, pz_nlt, pz_nle, pz_nlt1, pz_nle1, pz_neq, pz_neq1, pz_nnlT, pz_nnlF, pz_nneT, pz_nneF, pz_cl, pz_kN, pz_add, pz_mul, pz_sub, ↓pz_jn, ↓pz_hl, ↓pz_vl, ↓pz_vL, pz_b, ↓reduceIte, or_false, or_true, false_or, true_or, not_true, not_false_iff, and_true, true_and, and_false, false_and, or_self, e']
  · intro n k s hk e'
    right
    refine ⟨_, rfl, ?_⟩
    have e2 : s 117 (24 * b + k) = h 117 (24 * b + k) := by rw [e', pz_stne _ (by omega)]
    rw [← Nat.add_assoc, ← pz_st1 h 122 _ _ _ (by omega) (h 117 (24 * b + k)) (by rw [show 24 * a + k - 24 * a = k from by omega]), ← e']
    simp (disch := omega) only [f_X10_lay_L154, pz_lit, pz_leT, pz_leF, pz_ltT, pz_ltF, pz_eqT, pz_eqF, pz_nlt, pz_nle, pz_nlt1, pz_nle1, pz_neq, pz_neq1, pz_nnlT, pz_nnlF, pz_nneT, pz_nneF, pz_cl, pz_kN, pz_add, pz_mul, pz_sub, ↓pz_jn, ↓pz_hl, ↓pz_vl, ↓pz_vL, pz_b, ↓reduceIte, or_false, or_true, false_or, true_or, not_true, not_false_iff, and_true, true_and, and_false, false_and, or_self, e2]

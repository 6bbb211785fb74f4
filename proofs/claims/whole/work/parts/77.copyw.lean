/-! PURE PART: courses and worlds become others -/
theorem pz_aside (q1 q2 : Nat) (hq : q1 ≠ q2) (h : kv_H) : f_X10_setAside q1 3098 q2 3098 h = some ((), pz_st h q2 0 2898 (fun k => h q1 k)) := by
  rw [f_X10_setAside]
  refine pz_for (fun n k g => f_X10_setAside_L2 q1 3098 q2 3098 n (nI k) g (fun h2 => some ((), h2))) (fun k g => g = pz_st h q2 0 k (fun k => h q1 k)) (fun R => R = some ((), pz_st h q2 0 2898 (fun k => h q1 k))) 2898 ?_ ?_ kv_fu 0 _ (by omega) (by rw [show kv_fu = 5000 from rfl]; omega) (pz_st0 _ _ _ _).symm
  · intro n s e
    simp (disch := omega) only [f_X10_setAside_L2, pz_lit, pz_leT, pz_leF, pz_ltT, pz_ltF, pz_eqT, pz_eqF, pz_nlt, pz_nle, pz_nlt1, pz_nle1, pz_neq, pz_neq1, pz_nnlT, pz_nnlF, pz_nneT, pz_nneF, pz_cl, pz_kN, pz_add, pz_mul, pz_sub, ↓pz_jn, ↓pz_hl, ↓pz_vl, ↓pz_vL, pz_b, ↓reduceIte, or_false, or_true, false_or, true_or, not_true, not_false_iff, and_true, true_and, and_false, false_and, or_self, e]
  · intro n k s hk e
    right
    refine ⟨_, rfl, ?_⟩
    have e2 : s q1 k = h q1 k := by rw [e, pz_stne _ hq]
    rw [← pz_st1 h q2 _ _ _ (by omega) (h q1 k) rfl, ← e]
    simp (disch := omega) only [f_X10_setAside_L2, pz_lit, pz_leT, pz_leF, pz_ltT, pz_ltF, pz_eqT, pz_eqF, pz_nlt, pz_nle, pz_nlt1, pz_nle1, pz_neq, pz_neq1, pz_nnlT, pz_nnlF, pz_nneT, pz_nneF, pz_cl, pz_kN, pz_add, pz_mul, pz_sub, ↓pz_jn, ↓pz_hl, ↓pz_vl, ↓pz_vL, pz_b, ↓reduceIte, or_false, or_true, false_or, true_or, not_true, not_false_iff, and_true, true_and, and_false, false_and, or_self, e2]
theorem pz_cpy0 {f g : Nat → Int32} {N j : Nat} (q : j < N) : va_cpy f g 0 0 N j = f j := by
  rw [pk_cpy_in (by omega) (by omega), Nat.sub_zero, Nat.zero_add]
theorem pz_course {h : kv_H} {c0 c : Nat} {V : List Nat} {X : Nat → Int32} (d : c0 + 4 ≤ c ∨ c + 4 ≤ c0) (vl : V.length ≤ 8) (cc : pz_CC h c V X) : ∃ h', f_X0_becomes c0 c h = some ((), h') ∧ pz_CC h' c0 V X ∧ ∀ a, (a < c0 ∨ c0 + 3 < a) → h' a = h a := by
  obtain ⟨a1, a2, a3, a4, a5, a6, a7⟩ := cc
  refine ⟨kv_up (kv_up (kv_up (kv_up (kv_up (kv_row (kv_row (kv_row h (c0 + 1) (va_cpy (h (c + 1)) (h (c0 + 1)) 0 0 8)) (c0 + 2) (va_cpy (h (c + 2)) (h (c0 + 2)) 0 0 8)) (c0 + 3) (va_cpy (h (c + 3)) (h (c0 + 3)) 0 0 8)) c0 3 (h c 3)) c0 4 (h c 4)) c0 5 (h c 5)) c0 6 (h c 6)) c0 7 (h c 7), ?_, ⟨?_, ?_, ?_, ?_, ?_, ?_, ?_⟩, ?_⟩
  · rw [f_X0_becomes, pz_copyRow _ _ 8 (by omega), pz_b, pz_copyRow _ _ 8 (by omega), pz_b, pz_copyRow _ _ 8 (by omega), pz_b, pz_hl, pz_hl, pz_hl, pz_hl, pz_hl]
    simp (disch := omega) only [pz_upne, pz_rowne]
  · simp (disch := omega) only [pz_upne, pz_upeq, pz_upd, if_neg, if_pos, if_true, if_false]; exact a1
  · simp (disch := omega) only [pz_upne, pz_upeq, pz_upd, if_neg, if_pos, if_true, if_false]; exact a2
  · simp (disch := omega) only [pz_upne, pz_upeq, pz_upd, if_neg, if_pos, if_true, if_false]; exact a3
  · simp (disch := omega) only [pz_upne, pz_upeq, pz_upd, if_neg, if_pos, if_true, if_false]; exact a4
  · simp (disch := omega) only [pz_upne, pz_upeq, pz_upd, if_neg, if_pos, if_true, if_false]; exact a5
  · intro i v hv
    have il : i < V.length := by
      rcases Nat.lt_or_ge i V.length with z | z
      · exact z
      · rw [List.getElem?_eq_none z] at hv; cases hv
    simp (disch := omega) only [pz_upne, pz_rowne, pz_roweq, pz_cpy0]; exact a6 i v hv
  · intro i hi
    simp (disch := omega) only [pz_upne, pz_rowne, pz_roweq, pz_cpy0]; exact a7 i hi
  · intro a ha; simp (disch := omega) only [pz_upne, pz_rowne]

/-! PURE PART: at, lay -/
theorem pz_at (x : Int32) (h : kv_H) (c : pz_c5 h) : pz_op [5] pz_c5 (f_X9_at x) (f_X10_at x) h := by
  obtain ⟨n, D, t, TX, ch, V, X, sp, ru, ca, R, w⟩ := c
  have c : pz_c5 h := ⟨n, D, t, TX, ch, V, X, sp, ru, ca, R, w⟩
  have hn := w.1.2.1.2.1.1
  obtain ⟨cc, cm, cb⟩ := w.2.1
  have vl := pz_nodup_le n V cb.1 cb.2.1
  have a3 : h 91 3 = nI V.length := cc.1
  have b2 : h 112 2 = nI V.length := cm.1
  by_cases q : ¬ 0 ≤ x
  · exact pz_op_same (-1000000001) c (by rw [f_X9_at, if_neg q]) (by rw [f_X10_at, if_neg q])
  have q : 0 ≤ x := Classical.byContradiction q
  have qn : ¬ x < 0 := by rw [pz_lt_not]; exact q
  rcases pz_cases x V.length (by omega) with z | ⟨k, hk, rfl⟩
  · have z' : nI V.length ≤ x := z.resolve_left qn
    have z2 : ¬ x < nI V.length := by rw [pz_lt_not]; exact z'
    refine pz_op_same (-1000000005) c ?_ ?_
    · rw [f_X9_at, if_pos q, f_X0_leafAt, if_neg qn, a3, if_neg z2]; rfl
    · rw [f_X10_at, if_pos q, b2, if_pos z']
  · have gv : V[k]? = some V[k] := List.getElem?_eq_getElem hk
    refine pz_op_same (nI V[k]) c ?_ ?_
    · rw [f_X9_at, if_pos q, f_X0_leafAt, if_neg qn, a3, if_pos (nI_lt hk (by omega)), pz_kN (by omega) (by omega), pz_cl (by omega), pz_b]
      rw [show h (91 + 1) k = nI V[k] from cc.2.2.2.2.2.1 k _ gv]
    · rw [f_X10_at, if_pos q, b2, if_neg (nI_ge hk (by omega)), show (66 : Int32) = nI 66 from rfl, pz_add, pz_kN (by omega) (by omega), pz_cl (by omega), cm.2.2.2.2.1 k _ gv]
/-- sheets and the live world together: no call of these changes them -/
theorem pz_reads (x : Int32) (h : kv_H) (c3 : pz_c3 h) (c : pz_c5 h) : pz_op [5] (fun g => pz_c3 g ∧ pz_c5 g) (f_X9_reads x) (f_X10_reads x) h := by
  obtain ⟨n, D, t, TX, ch, V, X, sp, ru, ca, R, w⟩ := c
  have c : pz_c3 h ∧ pz_c5 h := ⟨c3, ⟨n, D, t, TX, ch, V, X, sp, ru, ca, R, w⟩⟩
  have hn := w.1.2.1.2.1.1
  have l9 : h 82 8 = nI n := w.1.1.1
  have l10 : h 112 0 = nI n := w.1.2.1.1.1
  obtain ⟨cc, cm, cb⟩ := w.2.1
  rcases pz_cases x 4 (by omega) with q | ⟨j, hj, rfl⟩
  · exact pz_op_same (-1000000001) c (by rw [f_X9_reads, pz_isSheetB q]; rfl) (by rw [f_X10_reads, pz_isSheetMB q]; rfl)
  obtain ⟨e1, e2⟩ := c3 j hj
  rcases e2 with e2 | ⟨e2, len, hl, e3, e4, e5⟩
  · have e1' := e1.trans e2
    refine pz_op_same (-1000000011) c ?_ ?_
    · simp only [f_X9_reads, pz_isSheetU, pz_isSheetMU, pz_isSlotU, pz_isSlotMU, pz_isKindU, pz_hasU, pz_in, pz_in0, pz_in_m1_1, pz_in_m9_9, pz_in_0_1, pz_in_0_2, pz_in_0_3, pz_in_0_4, pz_in_0_5, pz_in_0_60, pz_in_1_2, pz_in_1_20, pz_in_1_24, pz_in_1_3, pz_in_1_30, pz_in_1_8, pz_in_1_9, pz_in_0_99, pz_in_0_9, pz_b, pz_tbi, pz_ifif, pz_leafAtU, pz_textAtU, pz_orNoneU]; simp (disch := omega) only [pz_lit, pz_leT, pz_leF, pz_ltT, pz_ltF, pz_eqT, pz_eqF, pz_nlt, pz_nle, pz_nlt1, pz_nle1, pz_neq, pz_neq1, pz_nnlT, pz_nnlF, pz_nneT, pz_nneF, pz_cl, pz_kN, pz_add, pz_mul, pz_sub, ↓pz_jn, ↓pz_hl, ↓pz_vl, ↓pz_vL, pz_b, ↓reduceIte, or_false, or_true, false_or, true_or, not_true, not_false_iff, and_true, true_and, and_false, false_and, or_self, e1']
    · simp only [f_X10_reads, pz_isSheetU, pz_isSheetMU, pz_isSlotU, pz_isSlotMU, pz_isKindU, pz_hasU, pz_in, pz_in0, pz_in_m1_1, pz_in_m9_9, pz_in_0_1, pz_in_0_2, pz_in_0_3, pz_in_0_4, pz_in_0_5, pz_in_0_60, pz_in_1_2, pz_in_1_20, pz_in_1_24, pz_in_1_3, pz_in_1_30, pz_in_1_8, pz_in_1_9, pz_in_0_99, pz_in_0_9, pz_b, pz_tbi, pz_ifif, pz_leafAtU, pz_textAtU, pz_orNoneU]; simp (disch := omega) only [pz_lit, pz_leT, pz_leF, pz_ltT, pz_ltF, pz_eqT, pz_eqF, pz_nlt, pz_nle, pz_nlt1, pz_nle1, pz_neq, pz_neq1, pz_nnlT, pz_nnlF, pz_nneT, pz_nneF, pz_cl, pz_kN, pz_add, pz_mul, pz_sub, ↓pz_jn, ↓pz_hl, ↓pz_vl, ↓pz_vL, pz_b, ↓reduceIte, or_false, or_true, false_or, true_or, not_true, not_false_iff, and_true, true_and, and_false, false_and, or_self, e2]
  have n1 : ¬ h (18 + 2 * j) 1 = (-1 : Int32) := by rw [e1]; rcases e2 with e2 | e2 <;> rw [e2] <;> decide
  have n3 : (0 : Int32) ≤ h 115 j := by rcases e2 with e2 | e2 <;> rw [e2] <;> decide
  have S9 : f_X9_reads (nI j) h = f_X9_reads_L31 (18 + 2 * j) kv_fu 0 h (fun h6 => some (-1000000005, h6)) := by
    rw [f_X9_reads, pz_isSheetG hj, pz_b, if_neg (by decide), pz_kN hj (by omega), pz_cl (by omega), if_neg n1]
  have S10 : f_X10_reads (nI j) h = f_X10_reads_L25 (nI j) kv_fu 0 h (fun h8 => some (-1000000005, h8)) := by
    rw [f_X10_reads, pz_isSheetMG hj, pz_b, if_neg (by decide), pz_kN hj (by omega), pz_cl (by omega), if_pos n3]
  have both : ∃ r, f_X9_reads_L31 (18 + 2 * j) kv_fu 0 h (fun h6 => some (-1000000005, h6)) = some (r, h) ∧ f_X10_reads_L25 (nI j) kv_fu 0 h (fun h8 => some (-1000000005, h8)) = some (r, h) := by
    refine pz_for (fun m k (_ : Unit) => (f_X9_reads_L31 (18 + 2 * j) m (nI k) h (fun h6 => some (-1000000005, h6)), f_X10_reads_L25 (nI j) m (nI k) h (fun h8 => some (-1000000005, h8)))) (fun _ _ => True) (fun Q => ∃ r, Q.1 = some (r, h) ∧ Q.2 = some (r, h)) len ?_ ?_ kv_fu 0 () (by omega) (by rw [show kv_fu = 5000 from rfl]; omega) trivial
    · intro m _ _
      refine ⟨-1000000005, ?_, ?_⟩
      · show f_X9_reads_L31 (18 + 2 * j) (m + 1) (nI len) h _ = _
        rw [f_X9_reads_L31, e3, if_pos (nI_le (Nat.le_refl _) (by omega))]
      · show f_X10_reads_L25 (nI j) (m + 1) (nI len) h _ = _
        rw [f_X10_reads_L25, pz_kN hj (by omega), pz_cl (by omega), e4, if_pos (nI_le (Nat.le_refl _) (by omega))]
    · intro m k _ hk _
      have e5' : h (18 + 2 * j + 1) k = h 117 (24 * j + k) := by rw [show 18 + 2 * j + 1 = 19 + 2 * j from by omega]; exact e5 k hk
      have U9 : f_X9_reads_L31 (18 + 2 * j) (m + 1) (nI k) h (fun h6 => some (-1000000005, h6)) = (if h 117 (24 * j + k) = -1000000005 then f_X9_reads_L31 (18 + 2 * j) m (nI (k + 1)) h (fun h6 => some (-1000000005, h6)) else kv_b (f_X9_isLeaf (nI k) h) (fun r5 h4 => if r5 = 0 then some (nI k, h4) else kv_k (nI k) 8 (if h4 94 k = h4 (18 + 2 * j + 1) k then f_X9_reads_L31 (18 + 2 * j) m (nI (k + 1)) h4 (fun h6 => some (-1000000005, h6)) else some (nI k, h4)))) := by
        rw [f_X9_reads_L31, e3, if_neg (nI_ge hk (by omega)), pz_kN (by omega) (by omega), pz_cl (by omega), e5', nI_1]
        simp only [pz_kN (show k < 24 by omega) (show 24 < 2147483648 by omega)]
      have a3 : (24 : Int32) * nI j + nI k = nI (24 * j + k) := by rw [show (24 : Int32) = nI 24 from rfl, pz_mul, pz_add]
      have U10 : f_X10_reads_L25 (nI j) (m + 1) (nI k) h (fun h8 => some (-1000000005, h8)) = (if h 117 (24 * j + k) = -1000000005 then f_X10_reads_L25 (nI j) m (nI (k + 1)) h (fun h8 => some (-1000000005, h8)) else kv_b (f_X10_isLeaf (nI k) h) (fun r5 h4 => if r5 = 0 then some (nI k, h4) else kv_b (f_X10_leafAt (nI k) h4) (fun r7 h6 => kv_k (r7 + 5) 3098 (if h 117 (24 * j + k) = (h6 112 (r7 + 5).toNatClampNeg) then f_X10_reads_L25 (nI j) m (nI (k + 1)) h6 (fun h8 => some (-1000000005, h8)) else some (nI k, h6))))) := by
        rw [f_X10_reads_L25, pz_kN hj (by omega), pz_cl (by omega), e4, if_neg (nI_ge hk (by omega)), a3, pz_kN (by omega) (by omega), pz_cl (by omega), pz_vl, nI_1]
      by_cases q : h 117 (24 * j + k) = -1000000005
      · right; refine ⟨(), trivial, ?_⟩
        show (f_X9_reads_L31 (18 + 2 * j) (m + 1) (nI k) h _, f_X10_reads_L25 (nI j) (m + 1) (nI k) h _) = _
        rw [U9, U10, if_pos q, if_pos q]
      by_cases z : k < n
      · have cl := (cc.2.2.2.2.2.2 k (by omega)).2
        have cl' : h 94 k = X (20 + k) := cl
        have cr := (cm.2.2.2.2.2 k z).2
        have e0 : (10 : Int32) + 7 * nI k + 5 = nI (15 + 7 * k) := by
          rw [show (7 : Int32) = nI 7 from rfl, pz_mul, show (10 : Int32) = nI 10 from rfl, pz_add, show (5 : Int32) = nI 5 from rfl, pz_add]; congr 1; omega
        rw [if_neg q, pz_leaf9G l9 (by omega) z, pz_b, if_neg (by decide), pz_kN (by omega) (by omega), cl', e5'] at U9
        rw [if_neg q, pz_leaf10G l10 (by omega) z, pz_b, if_neg (by decide), pz_leafAtU, pz_b, e0, pz_kN (by omega) (by omega), pz_cl (by omega), cr] at U10
        by_cases y : X (20 + k) = h 117 (24 * j + k)
        · right; refine ⟨(), trivial, ?_⟩
          show (f_X9_reads_L31 (18 + 2 * j) (m + 1) (nI k) h _, f_X10_reads_L25 (nI j) (m + 1) (nI k) h _) = _
          rw [U9, U10, if_pos y, if_pos y.symm]
        · left; refine ⟨nI k, ?_, ?_⟩
          · show f_X9_reads_L31 (18 + 2 * j) (m + 1) (nI k) h _ = _
            rw [U9, if_neg y]
          · show f_X10_reads_L25 (nI j) (m + 1) (nI k) h _ = _
            rw [U10, if_neg (fun s => y s.symm)]
      · left; refine ⟨nI k, ?_, ?_⟩
        · show f_X9_reads_L31 (18 + 2 * j) (m + 1) (nI k) h _ = _
          rw [U9, if_neg q, pz_leaf9B l9 (by omega) (Or.inr (nI_le (by omega) (by omega)))]; rfl
        · show f_X10_reads_L25 (nI j) (m + 1) (nI k) h _ = _
          rw [U10, if_neg q, pz_leaf10B l10 (by omega) (Or.inr (nI_le (by omega) (by omega)))]; rfl
  obtain ⟨r, b1, b2⟩ := both
  exact pz_op_same r c (S9.trans b1) (S10.trans b2)

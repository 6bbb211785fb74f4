/-! PURE PART: pour, the call -/
theorem pz_mem_of_get {R : List Nat} {i u : Nat} (h : R[i]? = some u) : u ∈ R := by
  obtain ⟨hi, e⟩ := List.getElem?_eq_some_iff.mp h
  exact e ▸ List.getElem_mem hi
theorem pz_get_of_mem {R : List Nat} {u : Nat} (h : u ∈ R) : ∃ i : Nat, R[i]? = some u := List.mem_iff_getElem?.mp h
theorem pz_pour (x : Int32) (h : kv_H) (c3 : pz_c3 h) (c5 : pz_c5 h) : pz_op [5] (fun g => pz_c3 g ∧ pz_c5 g) (f_X9_pour x) (f_X10_pour x) h := by
  obtain ⟨n, D, t, TX, ch, V, X, sp, ru, ca, R, g1, g2, g3, g4⟩ := c5
  have c : pz_c3 h ∧ pz_c5 h := ⟨c3, ⟨n, D, t, TX, ch, V, X, sp, ru, ca, R, g1, g2, g3, g4⟩⟩
  rcases pz_cases x 4 (by omega) with q | ⟨j, hj, rfl⟩
  · exact pz_op_same (-1000000001) c (by rw [f_X9_pour, pz_isSheetB q]; rfl) (by rw [f_X10_pour, pz_isSheetMB q]; rfl)
  obtain ⟨e1, e2⟩ := c3 j hj
  rcases e2 with e2 | ⟨e2, len, hl, e3, e4, e5⟩
  · have e1' := e1.trans e2
    refine pz_op_same (-1000000011) c ?_ ?_
    · simp only [f_X9_pour, pz_isSheetU, pz_isSheetMU, pz_isSlotU, pz_isSlotMU, pz_isKindU, pz_hasU, pz_in, pz_in0, pz_in_m1_1, pz_in_m9_9, pz_in_0_1, pz_in_0_2, pz_in_0_3, pz_in_0_4, pz_in_0_5, pz_in_0_60, pz_in_1_2, pz_in_1_20, pz_in_1_24, pz_in_1_3, pz_in_1_30, pz_in_1_8, pz_in_1_9, pz_in_0_99, pz_in_0_9, pz_b, pz_tbi, pz_ifif, pz_leafAtU, pz_textAtU, pz_orNoneU]; simp (disch := omega) only [pz_lit, pz_leT, pz_leF, pz_ltT, pz_ltF, pz_eqT, pz_eqF, pz_nlt, pz_nle, pz_nlt1, pz_nle1, pz_neq, pz_neq1, pz_nnlT, pz_nnlF, pz_nneT, pz_nneF, pz_cl, pz_kN, pz_add, pz_mul, pz_sub, ↓pz_jn, ↓pz_hl, ↓pz_vl, ↓pz_vL, pz_b, ↓reduceIte, or_false, or_true, false_or, true_or, not_true, not_false_iff, and_true, true_and, and_false, false_and, or_self, e1']
    · simp only [f_X10_pour, pz_isSheetU, pz_isSheetMU, pz_isSlotU, pz_isSlotMU, pz_isKindU, pz_hasU, pz_in, pz_in0, pz_in_m1_1, pz_in_m9_9, pz_in_0_1, pz_in_0_2, pz_in_0_3, pz_in_0_4, pz_in_0_5, pz_in_0_60, pz_in_1_2, pz_in_1_20, pz_in_1_24, pz_in_1_3, pz_in_1_30, pz_in_1_8, pz_in_1_9, pz_in_0_99, pz_in_0_9, pz_b, pz_tbi, pz_ifif, pz_leafAtU, pz_textAtU, pz_orNoneU]; simp (disch := omega) only [pz_lit, pz_leT, pz_leF, pz_ltT, pz_ltF, pz_eqT, pz_eqF, pz_nlt, pz_nle, pz_nlt1, pz_nle1, pz_neq, pz_neq1, pz_nnlT, pz_nnlF, pz_nneT, pz_nneF, pz_cl, pz_kN, pz_add, pz_mul, pz_sub, ↓pz_jn, ↓pz_hl, ↓pz_vl, ↓pz_vL, pz_b, ↓reduceIte, or_false, or_true, false_or, true_or, not_true, not_false_iff, and_true, true_and, and_false, false_and, or_self, e2]
  have n1 : ¬ h (18 + 2 * j) 1 = (-1 : Int32) := by rw [e1]; rcases e2 with e2 | e2 <;> rw [e2] <;> decide
  have n3 : (0 : Int32) ≤ h 115 j := by rcases e2 with e2 | e2 <;> rw [e2] <;> decide
  have hn := g1.2.1.2.1.1
  obtain ⟨a1, a2, a3, a4⟩ := g4
  obtain ⟨h1, x1, x2, x3, x4, x5⟩ := pz_pour9 n len (18 + 2 * j) hn hl (by omega) (fun i => h 117 (24 * j + i)) (fun z8 h9 => some (z8, h9)) len 0 R h kv_fu (by omega) (by rw [show kv_fu = 5000 from rfl]; omega) e3 (by intro i hi; rw [show 18 + 2 * j + 1 = 19 + 2 * j from by omega]; exact e5 i hi) g1.1.1 a1 a3 (fun i u hu => (a4 i u hu).1)
  obtain ⟨h2, y1, y2, y3, y4, y5⟩ := pz_pour10 n len j hn hl hj (fun i => h 117 (24 * j + i)) (fun z7 h8 => some (z7, h8)) len 0 R h1 kv_fu (by omega) (by rw [show kv_fu = 5000 from rfl]; omega) (by rw [x4 _ (by omega) (by omega)]; exact e4) (by intro i hi; rw [x4 _ (by omega) (by omega)]) (by rw [x4 _ (by omega) (by omega)]; exact g1.2.1.1.1) (by rw [x4 _ (by omega) (by omega)]; exact a2) a3 (by intro i u hu; rw [x4 _ (by omega) (by omega)]; exact (a4 i u hu).2.1)
  have pb := pz_plB n hn (fun i => h 117 (24 * j + i)) len 0 R a3 (fun u hu => by obtain ⟨i, hi⟩ := pz_get_of_mem hu; exact (a4 i u hi).2.2)
  have f2 : ∀ a, a ≠ 79 → a ≠ 80 → a ≠ 112 → h2 a = h a := fun a q1 q2 q3 => (y4 a q3).trans (x4 a q1 q2)
  have f79 : ∀ b, b ≠ 5 → h2 79 b = h 79 b := fun b hb => by rw [y4 _ (by omega)]; exact x5 b hb
  have f112 : ∀ b, b ≠ 8 → (b < 74 ∨ 98 ≤ b) → h2 112 b = h 112 b := fun b q1 q2 => by rw [y5 b q1 q2, x4 _ (by omega) (by omega)]
  refine ⟨nI (pz_pl n (fun i => h 117 (24 * j + i)) len 0 R).1, h1, h2, ?_, ?_, ⟨?_, ⟨n, D, t, TX, ch, V, X, sp, ru, ca, (pz_pl n (fun i => h 117 (24 * j + i)) len 0 R).2, ?_, ?_, ?_, ?_⟩⟩, ?_⟩
  · rw [f_X9_pour, pz_isSheetG hj, pz_b, if_neg (by decide), pz_kN hj (by omega), pz_cl (by omega), if_neg n1]; exact x1
  · rw [f_X10_pour, pz_isSheetMG hj, pz_b, if_neg (by decide), pz_kN hj (by omega), pz_cl (by omega), x4 _ (by omega) (by omega), if_pos n3]; exact y1
  · intro i hi
    exact pz_sh_fr hi (c3 i hi) (fun b => by rw [f2 _ (by omega) (by omega) (by omega)]) (fun b => by rw [f2 _ (by omega) (by omega) (by omega)]) (by rw [f2 _ (by omega) (by omega) (by omega)]) (by rw [f2 _ (by omega) (by omega) (by omega)]) (fun k _ => by rw [f2 _ (by omega) (by omega) (by omega)])
  · exact pz_G1_fr g1 (fun a q1 q2 => f2 a (by omega) (by omega) (by omega)) (fun a q1 q2 => f2 a (by omega) (by omega) (by omega)) (f79 _ (by omega)) (f112 _ (by omega) (by omega)) (f112 _ (by omega) (by omega)) (fun i j q1 q2 => f112 _ (by omega) (by omega)) (fun b q1 q2 => f112 _ (by omega) (by omega))
  · exact pz_G2_fr hn g2 (fun a q1 q2 => f2 a (by omega) (by omega) (by omega)) (f112 _ (by omega) (by omega)) (f112 _ (by omega) (by omega)) (f112 _ (by omega) (by omega)) (f112 _ (by omega) (by omega)) (fun i q1 => f112 _ (by omega) (by omega)) (fun i j q1 q2 q3 => f112 _ (by omega) (by omega))
  · exact pz_G3_fr g3 (f79 _ (by omega)) (f79 _ (by omega)) (f79 _ (by omega)) (f112 _ (by omega) (by omega)) (f112 _ (by omega) (by omega)) (f112 _ (by omega) (by omega))
  · refine ⟨?_, y2, pb.1, ?_⟩
    · rw [y4 _ (by omega)]; exact x2
    · intro i u hu
      refine ⟨?_, y3 i u hu, pb.2 u (pz_mem_of_get hu)⟩
      rw [y4 _ (by omega)]; exact x3 i u hu
  · intro a b q1 q2
    by_cases z : a = 79 ∨ a = 80 ∨ a = 112
    · by_cases y : a = 79 ∧ b = 6
      · rw [y.1, f79 b (by omega)]
      · exfalso; apply q1; rw [pz_reg5 (by omega) y]; decide
    · rw [f2 a (by omega) (by omega) (by omega)]

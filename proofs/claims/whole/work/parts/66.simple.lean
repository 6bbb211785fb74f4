/-! PURE PART: the world's simple calls -/
theorem pz_isLeafU9 (x : Int32) (h : kv_H) : f_X9_isLeaf x h = some (if x < 0 ∨ h 82 8 ≤ x then 0 else 1, h) := by
  rw [f_X9_isLeaf, pz_if2, pz_ifs]
theorem pz_isLeafU10 (x : Int32) (h : kv_H) : f_X10_isLeaf x h = some (if x < 0 ∨ h 112 0 - 1 < x then 0 else 1, h) := by
  rw [f_X10_isLeaf, pz_in0, pz_b, pz_tbi]
theorem pz_isTextU10 (x : Int32) (h : kv_H) : f_X10_isText x h = some (if x < 0 ∨ h 112 1 - 1 < x then 0 else 1, h) := by
  rw [f_X10_isText, pz_in0, pz_b, pz_tbi]
theorem pz_leaf9B {x : Int32} {n : Nat} {h : kv_H} (e : h 82 8 = nI n) (hn : n < 2147483648) (q : pz_bad x n) : f_X9_isLeaf x h = some (0, h) := by
  rw [pz_isLeafU9, e]; exact congrArg some (congrArg (·, h) (if_pos q))
theorem pz_leaf9G {j n : Nat} {h : kv_H} (e : h 82 8 = nI n) (hn : n < 2147483648) (q : j < n) : f_X9_isLeaf (nI j) h = some (1, h) := by
  rw [pz_isLeafU9, e, if_neg]
  rintro (z | z)
  · exact pz_ng (by omega) z
  · rw [pz_le (by omega) (by omega)] at z; omega
theorem pz_leaf10B {x : Int32} {n : Nat} {h : kv_H} (e : h 112 0 = nI n) (hn : n < 2147483648) (q : pz_bad x n) : f_X10_isLeaf x h = some (0, h) := by
  have z := of_eq_true (pz_hasT q hn).2
  rw [pz_isLeafU10, e]; exact congrArg some (congrArg (·, h) (if_pos z))
theorem pz_leaf10G {j n : Nat} {h : kv_H} (e : h 112 0 = nI n) (hn : n < 2147483648) (q : j < n) : f_X10_isLeaf (nI j) h = some (1, h) := by
  rw [pz_isLeafU10, e, show (1 : Int32) = nI 1 from rfl, pz_sub (by omega), if_neg (pz_goodI (n := n - 1) (by omega) (by omega))]
theorem pz_becomes (j : Nat) (hj : j < 3098) (v : Int32) (h : kv_H) : f_X10_becomes (nI j) v h = some (h 112 j, kv_up h 112 j v) := by
  rw [f_X10_becomes, pz_kN hj (by omega), pz_vl, pz_kN hj (by omega), pz_hl, pz_cl (by omega)]
theorem pz_fr5 {S : List Nat} {h h1 : kv_H} {k j : Nat} {v : Int32} (q : pz_fr S h h1) (m : 5 ∈ S) (r : (79 ≤ k ∧ k ≤ 94) ∨ k = 112) (r2 : ¬ (k = 79 ∧ j = 6)) : pz_fr S h (kv_up h1 k j v) := pz_fr_up q (Or.inl (by rw [pz_reg5 r r2]; exact m))
theorem pz_rule (x : Int32) (h : kv_H) (c : pz_c5 h) : pz_op [5] pz_c5 (f_X9_rule x) (f_X10_rule x) h := by
  obtain ⟨n, D, t, TX, ch, V, X, sp, ru, ca, R, g1, g2, g3, g4⟩ := c
  have c : pz_c5 h := ⟨n, D, t, TX, ch, V, X, sp, ru, ca, R, g1, g2, g3, g4⟩
  rcases pz_cases x 5 (by omega) with q | ⟨k, hk, rfl⟩
  · refine pz_op_same (-1000000001) c ?_ (by rw [f_X10_rule, pz_in_0_4B q]; rfl)
    rw [f_X9_rule]
    rcases pz_badI (n := 4) q (by omega) with z | z
    · exact if_pos z
    · rw [if_neg (show ¬ x ≤ (4 : Int32) from (pz_lt_asym z).2.1)]; exact ite_self _
  · have hn := g1.2.1.2.1.1
    obtain ⟨s1, s2, s3, m1, m2, m3, b1, b2, b3⟩ := g3
    refine ⟨nI ru, kv_up h 79 8 (nI k), kv_up (kv_up h 79 8 (nI k)) 112 4 (nI k), ?_, ?_, ⟨n, D, t, TX, ch, V, X, sp, k, ca, R, ?_, ?_, ?_, ?_⟩, ?_⟩
    · rw [f_X9_rule, if_neg (pz_ng (by omega)), if_pos (show nI k ≤ (4 : Int32) from nI_le (b := 4) (by omega) (by omega)), pz_vl, pz_hl, s2]
    · rw [f_X10_rule, pz_in_0_4G hk, pz_b, if_neg (by decide), show (4 : Int32) = nI 4 from rfl, pz_becomes 4 (by omega), pz_b, pz_upne (by omega), m2]
    · exact pz_G1_fr g1 (by intros; simp (disch := omega) only [pz_upne, pz_upeq, pz_upd, if_neg, if_pos, if_true, if_false]) (by intros; simp (disch := omega) only [pz_upne, pz_upeq, pz_upd, if_neg, if_pos, if_true, if_false]) (by intros; simp (disch := omega) only [pz_upne, pz_upeq, pz_upd, if_neg, if_pos, if_true, if_false]) (by intros; simp (disch := omega) only [pz_upne, pz_upeq, pz_upd, if_neg, if_pos, if_true, if_false]) (by intros; simp (disch := omega) only [pz_upne, pz_upeq, pz_upd, if_neg, if_pos, if_true, if_false]) (by intros; simp (disch := omega) only [pz_upne, pz_upeq, pz_upd, if_neg, if_pos, if_true, if_false]) (by intros; simp (disch := omega) only [pz_upne, pz_upeq, pz_upd, if_neg, if_pos, if_true, if_false])
    · exact pz_G2_fr hn g2 (by intros; simp (disch := omega) only [pz_upne, pz_upeq, pz_upd, if_neg, if_pos, if_true, if_false]) (by intros; simp (disch := omega) only [pz_upne, pz_upeq, pz_upd, if_neg, if_pos, if_true, if_false]) (by intros; simp (disch := omega) only [pz_upne, pz_upeq, pz_upd, if_neg, if_pos, if_true, if_false]) (by intros; simp (disch := omega) only [pz_upne, pz_upeq, pz_upd, if_neg, if_pos, if_true, if_false]) (by intros; simp (disch := omega) only [pz_upne, pz_upeq, pz_upd, if_neg, if_pos, if_true, if_false]) (by intros; simp (disch := omega) only [pz_upne, pz_upeq, pz_upd, if_neg, if_pos, if_true, if_false]) (by intros; simp (disch := omega) only [pz_upne, pz_upeq, pz_upd, if_neg, if_pos, if_true, if_false])
    · refine ⟨?_, ?_, ?_, ?_, ?_, ?_, b1, by omega, b3⟩ <;> simp (disch := omega) only [pz_upne, pz_upeq, pz_upd, if_neg, if_pos, if_true, if_false] <;> (try assumption)
    · exact pz_G4_fr g4 (by intros; simp (disch := omega) only [pz_upne, pz_upeq, pz_upd, if_neg, if_pos, if_true, if_false]) (by intros; simp (disch := omega) only [pz_upne, pz_upeq, pz_upd, if_neg, if_pos, if_true, if_false]) (by intros; simp (disch := omega) only [pz_upne, pz_upeq, pz_upd, if_neg, if_pos, if_true, if_false]) (by intros; simp (disch := omega) only [pz_upne, pz_upeq, pz_upd, if_neg, if_pos, if_true, if_false])
    · exact pz_fr5 (pz_fr5 (pz_fr_refl _ h) (by decide) (by decide) (by decide)) (by decide) (by decide) (by decide)
theorem pz_care (x : Int32) (h : kv_H) (c : pz_c5 h) : pz_op [5] pz_c5 (f_X9_care x) (f_X10_care x) h := by
  obtain ⟨n, D, t, TX, ch, V, X, sp, ru, ca, R, g1, g2, g3, g4⟩ := c
  have c : pz_c5 h := ⟨n, D, t, TX, ch, V, X, sp, ru, ca, R, g1, g2, g3, g4⟩
  rcases pz_cases x 2 (by omega) with q | ⟨k, hk, rfl⟩
  · refine pz_op_same (-1000000001) c ?_ (by rw [f_X10_care, pz_in_0_1B q]; rfl)
    rw [f_X9_care]
    rcases pz_badI (n := 1) q (by omega) with z | z
    · exact if_pos z
    · rw [if_neg (show ¬ x ≤ (1 : Int32) from (pz_lt_asym z).2.1)]; exact ite_self _
  · have hn := g1.2.1.2.1.1
    obtain ⟨s1, s2, s3, m1, m2, m3, b1, b2, b3⟩ := g3
    refine ⟨nI ca, kv_up h 79 9 (nI k), kv_up (kv_up h 79 9 (nI k)) 112 5 (nI k), ?_, ?_, ⟨n, D, t, TX, ch, V, X, sp, ru, k, R, ?_, ?_, ?_, ?_⟩, ?_⟩
    · rw [f_X9_care, if_neg (pz_ng (by omega)), if_pos (show nI k ≤ (1 : Int32) from nI_le (b := 1) (by omega) (by omega)), pz_vl, pz_hl, s3]
    · rw [f_X10_care, pz_in_0_1G hk, pz_b, if_neg (by decide), show (5 : Int32) = nI 5 from rfl, pz_becomes 5 (by omega), pz_b, pz_upne (by omega), m3]
    · exact pz_G1_fr g1 (by intros; simp (disch := omega) only [pz_upne, pz_upeq, pz_upd, if_neg, if_pos, if_true, if_false]) (by intros; simp (disch := omega) only [pz_upne, pz_upeq, pz_upd, if_neg, if_pos, if_true, if_false]) (by intros; simp (disch := omega) only [pz_upne, pz_upeq, pz_upd, if_neg, if_pos, if_true, if_false]) (by intros; simp (disch := omega) only [pz_upne, pz_upeq, pz_upd, if_neg, if_pos, if_true, if_false]) (by intros; simp (disch := omega) only [pz_upne, pz_upeq, pz_upd, if_neg, if_pos, if_true, if_false]) (by intros; simp (disch := omega) only [pz_upne, pz_upeq, pz_upd, if_neg, if_pos, if_true, if_false]) (by intros; simp (disch := omega) only [pz_upne, pz_upeq, pz_upd, if_neg, if_pos, if_true, if_false])
    · exact pz_G2_fr hn g2 (by intros; simp (disch := omega) only [pz_upne, pz_upeq, pz_upd, if_neg, if_pos, if_true, if_false]) (by intros; simp (disch := omega) only [pz_upne, pz_upeq, pz_upd, if_neg, if_pos, if_true, if_false]) (by intros; simp (disch := omega) only [pz_upne, pz_upeq, pz_upd, if_neg, if_pos, if_true, if_false]) (by intros; simp (disch := omega) only [pz_upne, pz_upeq, pz_upd, if_neg, if_pos, if_true, if_false]) (by intros; simp (disch := omega) only [pz_upne, pz_upeq, pz_upd, if_neg, if_pos, if_true, if_false]) (by intros; simp (disch := omega) only [pz_upne, pz_upeq, pz_upd, if_neg, if_pos, if_true, if_false]) (by intros; simp (disch := omega) only [pz_upne, pz_upeq, pz_upd, if_neg, if_pos, if_true, if_false])
    · refine ⟨?_, ?_, ?_, ?_, ?_, ?_, b1, b2, by omega⟩ <;> simp (disch := omega) only [pz_upne, pz_upeq, pz_upd, if_neg, if_pos, if_true, if_false] <;> (try assumption)
    · exact pz_G4_fr g4 (by intros; simp (disch := omega) only [pz_upne, pz_upeq, pz_upd, if_neg, if_pos, if_true, if_false]) (by intros; simp (disch := omega) only [pz_upne, pz_upeq, pz_upd, if_neg, if_pos, if_true, if_false]) (by intros; simp (disch := omega) only [pz_upne, pz_upeq, pz_upd, if_neg, if_pos, if_true, if_false]) (by intros; simp (disch := omega) only [pz_upne, pz_upeq, pz_upd, if_neg, if_pos, if_true, if_false])
    · exact pz_fr5 (pz_fr5 (pz_fr_refl _ h) (by decide) (by decide) (by decide)) (by decide) (by decide) (by decide)
theorem pz_clear (h : kv_H) (c : pz_c5 h) : pz_op [5] pz_c5 f_X9_clear f_X10_clear h := by
  obtain ⟨n, D, t, TX, ch, V, X, sp, ru, ca, R, g1, g2, g3, g4⟩ := c
  have hn := g1.2.1.2.1.1
  obtain ⟨a1, a2, a3, a4⟩ := g4
  refine ⟨nI R.length, kv_up h 79 5 0, kv_up (kv_up h 79 5 0) 112 8 0, ?_, ?_, ⟨n, D, t, TX, ch, V, X, sp, ru, ca, [], ?_, ?_, ?_, ?_⟩, ?_⟩
  · rw [f_X9_clear, pz_vl, pz_hl, a1]
  · rw [f_X10_clear, show (8 : Int32) = nI 8 from rfl, pz_becomes 8 (by omega), pz_b, pz_upne (by omega), a2]
  · exact pz_G1_fr g1 (by intros; simp (disch := omega) only [pz_upne, pz_upeq, pz_upd, if_neg, if_pos, if_true, if_false]) (by intros; simp (disch := omega) only [pz_upne, pz_upeq, pz_upd, if_neg, if_pos, if_true, if_false]) (by intros; simp (disch := omega) only [pz_upne, pz_upeq, pz_upd, if_neg, if_pos, if_true, if_false]) (by intros; simp (disch := omega) only [pz_upne, pz_upeq, pz_upd, if_neg, if_pos, if_true, if_false]) (by intros; simp (disch := omega) only [pz_upne, pz_upeq, pz_upd, if_neg, if_pos, if_true, if_false]) (by intros; simp (disch := omega) only [pz_upne, pz_upeq, pz_upd, if_neg, if_pos, if_true, if_false]) (by intros; simp (disch := omega) only [pz_upne, pz_upeq, pz_upd, if_neg, if_pos, if_true, if_false])
  · exact pz_G2_fr hn g2 (by intros; simp (disch := omega) only [pz_upne, pz_upeq, pz_upd, if_neg, if_pos, if_true, if_false]) (by intros; simp (disch := omega) only [pz_upne, pz_upeq, pz_upd, if_neg, if_pos, if_true, if_false]) (by intros; simp (disch := omega) only [pz_upne, pz_upeq, pz_upd, if_neg, if_pos, if_true, if_false]) (by intros; simp (disch := omega) only [pz_upne, pz_upeq, pz_upd, if_neg, if_pos, if_true, if_false]) (by intros; simp (disch := omega) only [pz_upne, pz_upeq, pz_upd, if_neg, if_pos, if_true, if_false]) (by intros; simp (disch := omega) only [pz_upne, pz_upeq, pz_upd, if_neg, if_pos, if_true, if_false]) (by intros; simp (disch := omega) only [pz_upne, pz_upeq, pz_upd, if_neg, if_pos, if_true, if_false])
  · exact pz_G3_fr g3 (by intros; simp (disch := omega) only [pz_upne, pz_upeq, pz_upd, if_neg, if_pos, if_true, if_false]) (by intros; simp (disch := omega) only [pz_upne, pz_upeq, pz_upd, if_neg, if_pos, if_true, if_false]) (by intros; simp (disch := omega) only [pz_upne, pz_upeq, pz_upd, if_neg, if_pos, if_true, if_false]) (by intros; simp (disch := omega) only [pz_upne, pz_upeq, pz_upd, if_neg, if_pos, if_true, if_false]) (by intros; simp (disch := omega) only [pz_upne, pz_upeq, pz_upd, if_neg, if_pos, if_true, if_false]) (by intros; simp (disch := omega) only [pz_upne, pz_upeq, pz_upd, if_neg, if_pos, if_true, if_false])
  · refine ⟨rfl, rfl, by decide, ?_⟩
    intro i v hv; simp at hv
  · exact pz_fr5 (pz_fr5 (pz_fr_refl _ h) (by decide) (by decide) (by decide)) (by decide) (by decide) (by decide)
theorem pz_seed (x : Int32) (h : kv_H) (c : pz_c5 h) : pz_op [5] pz_c5 (f_X9_seed x) (f_X10_seed x) h := by
  obtain ⟨n, D, t, TX, ch, V, X, sp, ru, ca, R, g1, ⟨cc, cm, cb⟩, g3, g4⟩ := c
  have hn := g1.2.1.2.1.1
  obtain ⟨a1, a2, a3, a4, a5, a6, a7⟩ := cc
  obtain ⟨b1, b2, b3, b4, b5, b6⟩ := cm
  refine ⟨X 2, kv_up h 91 7 x, kv_up (kv_up h 91 7 x) 112 9 x, ?_, ?_, ⟨n, D, t, TX, ch, V, upd X 2 x, sp, ru, ca, R, ?_, ?_, ?_, ?_⟩, ?_⟩
  · rw [f_X9_seed, pz_vl, pz_hl, a5]
  · rw [f_X10_seed, show (9 : Int32) = nI 9 from rfl, pz_becomes 9 (by omega), pz_b, pz_upne (by omega), b4]
  · exact pz_G1_fr g1 (by intros; simp (disch := omega) only [pz_upne, pz_upeq, pz_upd, if_neg, if_pos, if_true, if_false]) (by intros; simp (disch := omega) only [pz_upne, pz_upeq, pz_upd, if_neg, if_pos, if_true, if_false]) (by intros; simp (disch := omega) only [pz_upne, pz_upeq, pz_upd, if_neg, if_pos, if_true, if_false]) (by intros; simp (disch := omega) only [pz_upne, pz_upeq, pz_upd, if_neg, if_pos, if_true, if_false]) (by intros; simp (disch := omega) only [pz_upne, pz_upeq, pz_upd, if_neg, if_pos, if_true, if_false]) (by intros; simp (disch := omega) only [pz_upne, pz_upeq, pz_upd, if_neg, if_pos, if_true, if_false]) (by intros; simp (disch := omega) only [pz_upne, pz_upeq, pz_upd, if_neg, if_pos, if_true, if_false])
  · have vl := pz_nodup_le n V cb.1 cb.2.1
    refine ⟨⟨?_, ?_, ?_, ?_, ?_, ?_, ?_⟩, ⟨?_, ?_, ?_, ?_, ?_, ?_⟩, cb.1, cb.2.1, ?_⟩
    · simp (disch := omega) only [pz_upne, pz_upeq, pz_upd, if_neg, if_pos, if_true, if_false]; exact a1
    · simp (disch := omega) only [pz_upne, pz_upeq, pz_upd, if_neg, if_pos, if_true, if_false]; exact a2
    · simp (disch := omega) only [pz_upne, pz_upeq, pz_upd, if_neg, if_pos, if_true, if_false]; exact a3
    · simp (disch := omega) only [pz_upne, pz_upeq, pz_upd, if_neg, if_pos, if_true, if_false]; exact a4
    · simp (disch := omega) only [pz_upne, pz_upeq, pz_upd, if_neg, if_pos, if_true, if_false]
    · intro i v hv; simp (disch := omega) only [pz_upne, pz_upeq, pz_upd, if_neg, if_pos, if_true, if_false]; exact a6 i v hv
    · intro i hi; simp (disch := omega) only [pz_upne, pz_upeq, pz_upd, if_neg, if_pos, if_true, if_false]; exact a7 i hi
    · simp (disch := omega) only [pz_upne, pz_upeq, pz_upd, if_neg, if_pos, if_true, if_false]; exact b1
    · simp (disch := omega) only [pz_upne, pz_upeq, pz_upd, if_neg, if_pos, if_true, if_false]; exact b2
    · simp (disch := omega) only [pz_upne, pz_upeq, pz_upd, if_neg, if_pos, if_true, if_false]; exact b3
    · simp (disch := omega) only [pz_upne, pz_upeq, pz_upd, if_neg, if_pos, if_true, if_false]
    · intro i v hv; simp (disch := omega) only [pz_upne, pz_upeq, pz_upd, if_neg, if_pos, if_true, if_false]; exact b5 i v hv
    · intro i hi; simp (disch := omega) only [pz_upne, pz_upeq, pz_upd, if_neg, if_pos, if_true, if_false]; exact b6 i hi
    · intro i q1 q2; simp (disch := omega) only [pz_upne, pz_upeq, pz_upd, if_neg, if_pos, if_true, if_false]; exact cb.2.2 i q1 q2
  · exact pz_G3_fr g3 (by intros; simp (disch := omega) only [pz_upne, pz_upeq, pz_upd, if_neg, if_pos, if_true, if_false]) (by intros; simp (disch := omega) only [pz_upne, pz_upeq, pz_upd, if_neg, if_pos, if_true, if_false]) (by intros; simp (disch := omega) only [pz_upne, pz_upeq, pz_upd, if_neg, if_pos, if_true, if_false]) (by intros; simp (disch := omega) only [pz_upne, pz_upeq, pz_upd, if_neg, if_pos, if_true, if_false]) (by intros; simp (disch := omega) only [pz_upne, pz_upeq, pz_upd, if_neg, if_pos, if_true, if_false]) (by intros; simp (disch := omega) only [pz_upne, pz_upeq, pz_upd, if_neg, if_pos, if_true, if_false])
  · exact pz_G4_fr g4 (by intros; simp (disch := omega) only [pz_upne, pz_upeq, pz_upd, if_neg, if_pos, if_true, if_false]) (by intros; simp (disch := omega) only [pz_upne, pz_upeq, pz_upd, if_neg, if_pos, if_true, if_false]) (by intros; simp (disch := omega) only [pz_upne, pz_upeq, pz_upd, if_neg, if_pos, if_true, if_false]) (by intros; simp (disch := omega) only [pz_upne, pz_upeq, pz_upd, if_neg, if_pos, if_true, if_false])
  · exact pz_fr5 (pz_fr5 (pz_fr_refl _ h) (by decide) (by decide) (by decide)) (by decide) (by decide) (by decide)
theorem pz_getEnd {R : List Nat} {k i v : Nat} (q : (R ++ [k])[i]? = some v) : (i < R.length ∧ R[i]? = some v) ∨ (i = R.length ∧ v = k) := by
  rcases Nat.lt_or_ge i R.length with z | z
  · left; rw [List.getElem?_append_left z] at q; exact ⟨z, q⟩
  · right
    rw [List.getElem?_append_right z] at q
    have : i - R.length = 0 := by
      rcases Nat.eq_zero_or_pos (i - R.length) with y | y
      · exact y
      · rw [List.getElem?_eq_none (by simp; omega)] at q; cases q
    rw [this] at q
    simp at q
    exact ⟨by omega, q.symm⟩
theorem pz_plan (x : Int32) (h : kv_H) (c : pz_c5 h) : pz_op [5] pz_c5 (f_X9_plan x) (f_X10_plan x) h := by
  obtain ⟨n, D, t, TX, ch, V, X, sp, ru, ca, R, g1, g2, g3, g4⟩ := c
  have c : pz_c5 h := ⟨n, D, t, TX, ch, V, X, sp, ru, ca, R, g1, g2, g3, g4⟩
  have hn := g1.2.1.2.1.1
  have l9 : h 82 8 = nI n := g1.1.1
  have l10 : h 112 0 = nI n := g1.2.1.1.1
  obtain ⟨a1, a2, a3, a4⟩ := g4
  rcases pz_cases x n (by omega) with q | ⟨k, hk, rfl⟩
  · exact pz_op_same (-1000000001) c (by rw [f_X9_plan, pz_leaf9B l9 (by omega) q]; rfl) (by rw [f_X10_plan, pz_leaf10B l10 (by omega) q]; rfl)
  by_cases q : R.length = 24
  · refine pz_op_same (-1000000003) c ?_ ?_
    · rw [f_X9_plan, pz_leaf9G l9 (by omega) hk, pz_b, if_neg (by decide), f_X8_addAsking, a1, q, if_neg (by decide)]; rfl
    · rw [f_X10_plan, pz_leaf10G l10 (by omega) hk, pz_b, if_neg (by decide), a2, q]; rfl
  · refine ⟨nI (R.length + 1), kv_up (kv_up h 80 R.length (nI k)) 79 5 (nI (R.length + 1)), kv_up (kv_up (kv_up (kv_up h 80 R.length (nI k)) 79 5 (nI (R.length + 1))) 112 (74 + R.length) (nI k)) 112 8 (nI (R.length + 1)), ?_, ?_, ⟨n, D, t, TX, ch, V, X, sp, ru, ca, R ++ [k], ?_, ?_, ?_, ?_⟩, ?_⟩
    · rw [f_X9_plan, pz_leaf9G l9 (by omega) hk, pz_b, if_neg (by decide), f_X8_addAsking, a1, if_pos (show nI R.length < (24 : Int32) from nI_lt (b := 24) (by omega) (by omega)), pz_kN (by omega) (by omega), pz_hl, pz_hl, pz_cl (by omega), pz_upne (by omega), a1, nI_1, pz_b, if_neg (by decide)]
      rw [pz_upeq, pz_upd, if_pos rfl]
    · have e0 : kv_up (kv_up h 80 R.length (nI k)) 79 5 (nI (R.length + 1)) 112 0 = nI n := by simp (disch := omega) only [pz_upne, pz_upeq, pz_upd, if_neg, if_pos, if_true, if_false]; exact l10
      have e8 : kv_up (kv_up h 80 R.length (nI k)) 79 5 (nI (R.length + 1)) 112 8 = nI R.length := by simp (disch := omega) only [pz_upne, pz_upeq, pz_upd, if_neg, if_pos, if_true, if_false]; exact a2
      rw [f_X10_plan, pz_leaf10G e0 (by omega) hk, pz_b, if_neg (by decide), e8, if_neg (show ¬ nI R.length = (24 : Int32) from fun z => q ((nI_eq (by omega) (b := 24) (by omega)).mp z)), show (74 : Int32) = nI 74 from rfl, pz_add, pz_kN (by omega) (by omega), pz_hl, pz_hl, pz_cl (by omega)]
      rw [pz_upeq, pz_upeq, pz_upd, pz_upd, if_pos rfl, if_neg (by omega), e8, nI_1]
    · exact pz_G1_fr g1 (by intros; simp (disch := omega) only [pz_upne, pz_upeq, pz_upd, if_neg, if_pos, if_true, if_false]) (by intros; simp (disch := omega) only [pz_upne, pz_upeq, pz_upd, if_neg, if_pos, if_true, if_false]) (by intros; simp (disch := omega) only [pz_upne, pz_upeq, pz_upd, if_neg, if_pos, if_true, if_false]) (by intros; simp (disch := omega) only [pz_upne, pz_upeq, pz_upd, if_neg, if_pos, if_true, if_false]) (by intros; simp (disch := omega) only [pz_upne, pz_upeq, pz_upd, if_neg, if_pos, if_true, if_false]) (by intros; simp (disch := omega) only [pz_upne, pz_upeq, pz_upd, if_neg, if_pos, if_true, if_false]) (by intros; simp (disch := omega) only [pz_upne, pz_upeq, pz_upd, if_neg, if_pos, if_true, if_false])
    · exact pz_G2_fr hn g2 (by intros; simp (disch := omega) only [pz_upne, pz_upeq, pz_upd, if_neg, if_pos, if_true, if_false]) (by intros; simp (disch := omega) only [pz_upne, pz_upeq, pz_upd, if_neg, if_pos, if_true, if_false]) (by intros; simp (disch := omega) only [pz_upne, pz_upeq, pz_upd, if_neg, if_pos, if_true, if_false]) (by intros; simp (disch := omega) only [pz_upne, pz_upeq, pz_upd, if_neg, if_pos, if_true, if_false]) (by intros; simp (disch := omega) only [pz_upne, pz_upeq, pz_upd, if_neg, if_pos, if_true, if_false]) (by intros; simp (disch := omega) only [pz_upne, pz_upeq, pz_upd, if_neg, if_pos, if_true, if_false]) (by intros; simp (disch := omega) only [pz_upne, pz_upeq, pz_upd, if_neg, if_pos, if_true, if_false])
    · exact pz_G3_fr g3 (by intros; simp (disch := omega) only [pz_upne, pz_upeq, pz_upd, if_neg, if_pos, if_true, if_false]) (by intros; simp (disch := omega) only [pz_upne, pz_upeq, pz_upd, if_neg, if_pos, if_true, if_false]) (by intros; simp (disch := omega) only [pz_upne, pz_upeq, pz_upd, if_neg, if_pos, if_true, if_false]) (by intros; simp (disch := omega) only [pz_upne, pz_upeq, pz_upd, if_neg, if_pos, if_true, if_false]) (by intros; simp (disch := omega) only [pz_upne, pz_upeq, pz_upd, if_neg, if_pos, if_true, if_false]) (by intros; simp (disch := omega) only [pz_upne, pz_upeq, pz_upd, if_neg, if_pos, if_true, if_false])
    · refine ⟨?_, ?_, ?_, ?_⟩
      · simp (disch := omega) only [pz_upne, pz_upeq, pz_upd, if_neg, if_pos, if_true, if_false, List.length_append, List.length_singleton]
      · simp (disch := omega) only [pz_upne, pz_upeq, pz_upd, if_neg, if_pos, if_true, if_false, List.length_append, List.length_singleton]
      · simp; omega
      · intro i v hv
        rcases pz_getEnd hv with ⟨z1, z2⟩ | ⟨z1, z2⟩
        · have := a4 i v z2
          simp (disch := omega) only [pz_upne, pz_upeq, pz_upd, if_neg, if_pos, if_true, if_false]; exact this
        · subst z1; subst z2
          simp (disch := omega) only [pz_upne, pz_upeq, pz_upd, if_neg, if_pos, if_true, if_false, true_and]
          exact hk
    · exact pz_fr5 (pz_fr5 (pz_fr5 (pz_fr5 (pz_fr_refl _ h) (by decide) (by omega) (by omega)) (by decide) (by decide) (by decide)) (by decide) (by omega) (by omega)) (by decide) (by decide) (by decide)

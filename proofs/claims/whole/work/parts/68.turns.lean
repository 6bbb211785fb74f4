/-! PURE PART: turns, set, leans -/
theorem pz_LBdup {n : Nat} {D : Nat → Nat → Nat} (b : pz_LB n D) (j i v : Nat) (ok : (j = 0 → v ≤ 5) ∧ (j = 1 → 1 ≤ v ∧ v ≤ 9) ∧ (j = 2 → v ≤ 99) ∧ (j = 3 → v ≤ 9) ∧ (j = 4 → v ≤ i)) : pz_LB n (pz_dup D j i v) := by
  refine ⟨b.1, fun k hk => ?_⟩
  have := b.2 k hk
  unfold pz_dup
  refine ⟨?_, ?_, ?_, ?_, ?_, ?_⟩ <;> split <;> omega
theorem pz_turns (x1 x2 : Int32) (h : kv_H) (c : pz_c5 h) : pz_op [5] pz_c5 (f_X9_turns x1 x2) (f_X10_turns x1 x2) h := by
  obtain ⟨n, D, t, TX, ch, V, X, sp, ru, ca, R, w⟩ := c
  have c : pz_c5 h := ⟨n, D, t, TX, ch, V, X, sp, ru, ca, R, w⟩
  have hn := w.1.2.1.2.1.1
  have l9 : h 82 8 = nI n := w.1.1.1
  have l10 : h 112 0 = nI n := w.1.2.1.1.1
  rcases pz_cases x1 n (by omega) with q | ⟨i, hi, rfl⟩
  · exact pz_op_same (-1000000001) c (by rw [f_X9_turns, pz_leaf9B l9 (by omega) q]; rfl) (by rw [f_X10_turns, pz_leaf10B l10 (by omega) q]; rfl)
  rcases pz_cases x2 6 (by omega) with q | ⟨k, hk, rfl⟩
  · exact pz_op_same (-1000000001) c (by rw [f_X9_turns, pz_leaf9G l9 (by omega) hi, pz_b, if_neg (by decide), pz_isKindB q]; rfl) (by rw [f_X10_turns, pz_leaf10G l10 (by omega) hi, pz_b, if_neg (by decide), pz_in_0_5B q]; rfl)
  obtain ⟨h1, h2, y1, y2, y3, y4, y5⟩ := pz_repl w 0 i k (by omega) hi (pz_LBdup w.1.2.1.2.1 0 i k (by omega))
  refine ⟨nI (D 0 i), h1, h2, ?_, ?_, y3, y4⟩
  · rw [f_X9_turns, pz_leaf9G l9 (by omega) hi, pz_b, if_neg (by decide), pz_isKindG hk, pz_b, if_neg (by decide)]
    rw [show f_X9_replace 83 8 (nI i) (nI k) h = _ from y1]; rfl
  · have e0 : (10 : Int32) + 7 * nI i = nI (10 + 0 + 7 * i) := by
      rw [show (7 : Int32) = nI 7 from rfl, pz_mul, show (10 : Int32) = nI 10 from rfl, pz_add]
    rw [f_X10_turns, pz_leaf10G (by rw [y5]; exact l10) (by omega) hi, pz_b, if_neg (by decide), pz_in_0_5G hk, pz_b, if_neg (by decide), pz_leafAtU, pz_b, e0]
    rw [show f_X10_becomes (nI (10 + 0 + 7 * i)) (nI k) h1 = _ from y2]; rfl
theorem pz_isSizeU (x : Int32) (h : kv_H) : f_X9_isSize x h = some (if x < 1 ∨ 9 < x then 0 else 1, h) := by
  rw [f_X9_isSize, pz_if2, pz_ifs]
theorem pz_isLossU (x : Int32) (h : kv_H) : f_X9_isLoss x h = some (if x < 0 ∨ 99 < x then 0 else 1, h) := by
  rw [f_X9_isLoss, pz_if2, pz_ifs]
/-- a range of numbers: outside, or one of them -/
theorem pz_rng (x : Int32) (a b : Nat) (hb : b + 1 < 2147483648) (ha : a < 2147483648 := by omega) : (x < nI a ∨ nI b < x) ∨ ∃ j, a ≤ j ∧ j ≤ b ∧ x = nI j := by
  rcases pz_cases x (b + 1) hb with q | ⟨j, hj, e⟩
  · rcases pz_badI q hb with z | z
    · left; left; exact pz_lt_tr z (pz_g0 ha)
    · left; right; exact z
  · by_cases y : j < a
    · left; left; rw [e]; exact nI_lt y ha
    · right; exact ⟨j, by omega, by omega, e⟩
theorem pz_set (x1 x2 x3 : Int32) (h : kv_H) (c : pz_c5 h) : pz_op [5] pz_c5 (f_X9_set x1 x2 x3) (f_X10_set x1 x2 x3) h := by
  obtain ⟨n, D, t, TX, ch, V, X, sp, ru, ca, R, w⟩ := c
  have c : pz_c5 h := ⟨n, D, t, TX, ch, V, X, sp, ru, ca, R, w⟩
  have hn := w.1.2.1.2.1.1
  have l9 : h 82 8 = nI n := w.1.1.1
  have l10 : h 112 0 = nI n := w.1.2.1.1.1
  rcases pz_cases x1 n (by omega) with q | ⟨i, hi, rfl⟩
  · exact pz_op_same (-1000000001) c (by rw [f_X9_set, pz_leaf9B l9 (by omega) q]; rfl) (by rw [f_X10_set, pz_leaf10B l10 (by omega) q]; rfl)
  have S9 : f_X9_set (nI i) x2 x3 h = (if x2 = 0 then (if x3 < 1 ∨ 9 < x3 then some (-1000000001, h) else kv_b (f_X9_replace 84 8 (nI i) x3 h) (fun r h' => some (r, h'))) else if x2 = 1 then (if x3 < 0 ∨ 99 < x3 then some (-1000000001, h) else kv_b (f_X9_replace 85 8 (nI i) x3 h) (fun r h' => some (r, h'))) else if x2 = 2 then (if x3 < 0 ∨ 9 < x3 then some (-1000000001, h) else kv_b (f_X9_replace 86 8 (nI i) x3 h) (fun r h' => some (r, h'))) else some (-1000000001, h)) := by
    rw [f_X9_set, pz_leaf9G l9 (by omega) hi, pz_b, if_neg (by decide)]
    simp only [pz_isSizeU, pz_isLossU, pz_b, pz_ifif, pz_jn]
    by_cases q0 : x2 = 0
    · subst q0
      rw [if_pos rfl, if_pos rfl]
      by_cases z : x3 < 1 ∨ 9 < x3
      · rw [if_pos z, if_pos z, if_neg (by decide), if_neg (by decide)]
      · rw [if_neg z, if_neg z]
    · rw [if_neg q0, if_neg q0]
      by_cases q1 : x2 = 1
      · subst q1
        rw [if_pos rfl, if_pos rfl]
        by_cases z : x3 < 0 ∨ 99 < x3
        · rw [if_pos z, if_pos z, if_neg (by decide)]
        · rw [if_neg z, if_neg z]
      · rw [if_neg q1, if_neg q1]
        by_cases q2 : x2 = 2
        · rw [if_pos q2, if_pos q2, pz_if2]
        · rw [if_neg q2, if_neg q2]
  have S10 : ∀ g : kv_H, g 112 = h 112 → f_X10_set (nI i) x2 x3 g = (if x2 < 0 ∨ 2 < x2 then some (-1000000001, g) else if x2 = 0 then (if x3 < 1 ∨ 9 < x3 then some (-1000000001, g) else kv_b (f_X10_becomes ((10 + 7 * nI i + 1) + x2) x3 g) (fun r h' => some (r, h'))) else if x2 = 1 then (if x3 < 0 ∨ 99 < x3 then some (-1000000001, g) else kv_b (f_X10_becomes ((10 + 7 * nI i + 1) + x2) x3 g) (fun r h' => some (r, h'))) else (if x3 < 0 ∨ 9 < x3 then some (-1000000001, g) else kv_b (f_X10_becomes ((10 + 7 * nI i + 1) + x2) x3 g) (fun r h' => some (r, h')))) := by
    intro g eg
    rw [f_X10_set, pz_leaf10G (by rw [eg]; exact l10) (by omega) hi, pz_b, if_neg (by decide), pz_in_0_2, pz_b]
    simp only [pz_ifif, pz_jn]
    by_cases q : x2 < 0 ∨ 2 < x2
    · rw [if_pos q, if_pos q]
    · rw [if_neg q, if_neg q]
      by_cases q0 : x2 = 0
      · subst q0
        rw [if_pos rfl, if_pos rfl, if_neg (by decide)]
        simp only [pz_in_1_9, pz_b, pz_ifif, pz_leafAtU]
      · rw [if_neg q0, if_neg q0]
        by_cases q1 : x2 = 1
        · subst q1
          rw [if_pos rfl, if_pos rfl]
          simp only [pz_in_0_99, pz_b, pz_ifif, pz_leafAtU]
        · rw [if_neg q1, if_neg q1]
          simp only [pz_in_0_9, pz_b, pz_ifif, pz_leafAtU]
  have good : ∀ (j v : Nat), 1 ≤ j → j ≤ 3 → x2 = nI (j - 1) → x3 = nI v → pz_LB n (pz_dup D j i v) → f_X9_set (nI i) x2 x3 h = kv_b (f_X9_replace (83 + j) 8 (nI i) x3 h) (fun r h' => some (r, h')) → (∀ g : kv_H, g 112 = h 112 → f_X10_set (nI i) x2 x3 g = kv_b (f_X10_becomes ((10 + 7 * nI i + 1) + x2) x3 g) (fun r h' => some (r, h'))) → pz_op [5] pz_c5 (f_X9_set (nI i) x2 x3) (f_X10_set (nI i) x2 x3) h := by
    intro j v j1 j3 e2 e3 nb z1 z2
    obtain ⟨h1, h2, y1, y2, y3, y4, y5⟩ := pz_repl w j i v (by omega) hi nb
    have lvj : pz_lv j v = nI v := by rw [pz_lv, if_neg (by omega)]
    refine ⟨pz_lv j (D j i), h1, h2, ?_, ?_, y3, y4⟩
    · rw [z1, e3, ← lvj, y1, pz_b]
    · have e0 : (10 : Int32) + 7 * nI i + 1 + nI (j - 1) = nI (10 + j + 7 * i) := by
        rw [show (7 : Int32) = nI 7 from rfl, pz_mul, show (10 : Int32) = nI 10 from rfl, pz_add, show (1 : Int32) = nI 1 from rfl, pz_add, pz_add]; congr 1; omega
      rw [z2 h1 y5, e2, e0, e3, ← lvj, y2, pz_b]
  have S10' := S10 h rfl
  by_cases q0 : x2 = 0
  · by_cases z : x3 < 1 ∨ 9 < x3
    · exact pz_op_same (-1000000001) c (by rw [S9, if_pos q0, if_pos z]) (by rw [S10', if_neg (by rw [q0]; decide), if_pos q0, if_pos z])
    · obtain ⟨v, v1, v2, e⟩ := (pz_rng x3 1 9 (by omega)).resolve_left z
      exact good 1 v (by omega) (by omega) q0 e (pz_LBdup w.1.2.1.2.1 1 i v (by omega)) (by rw [S9, if_pos q0, if_neg z]) (fun g eg => by rw [S10 g eg, if_neg (by rw [q0]; decide), if_pos q0, if_neg z])
  by_cases q1 : x2 = 1
  · by_cases z : x3 < 0 ∨ 99 < x3
    · exact pz_op_same (-1000000001) c (by rw [S9, if_neg q0, if_pos q1, if_pos z]) (by rw [S10', if_neg (by rw [q1]; decide), if_neg q0, if_pos q1, if_pos z])
    · obtain ⟨v, v1, v2, e⟩ := (pz_rng x3 0 99 (by omega)).resolve_left z
      exact good 2 v (by omega) (by omega) q1 e (pz_LBdup w.1.2.1.2.1 2 i v (by omega)) (by rw [S9, if_neg q0, if_pos q1, if_neg z]) (fun g eg => by rw [S10 g eg, if_neg (by rw [q1]; decide), if_neg q0, if_pos q1, if_neg z])
  by_cases q2 : x2 = 2
  · by_cases z : x3 < 0 ∨ 9 < x3
    · exact pz_op_same (-1000000001) c (by rw [S9, if_neg q0, if_neg q1, if_pos q2, if_pos z]) (by rw [S10', if_neg (by rw [q2]; decide), if_neg q0, if_neg q1, if_pos z])
    · obtain ⟨v, v1, v2, e⟩ := (pz_rng x3 0 9 (by omega)).resolve_left z
      exact good 3 v (by omega) (by omega) q2 e (pz_LBdup w.1.2.1.2.1 3 i v (by omega)) (by rw [S9, if_neg q0, if_neg q1, if_pos q2, if_neg z]) (fun g eg => by rw [S10 g eg, if_neg (by rw [q2]; decide), if_neg q0, if_neg q1, if_neg z])
  · have q : x2 < 0 ∨ 2 < x2 := by
      rcases pz_rng x2 0 2 (by omega) with y | ⟨j, j1, j2, e⟩
      · exact y
      · exfalso
        have : j = 0 ∨ j = 1 ∨ j = 2 := by omega
        rcases this with rfl | rfl | rfl
        · exact q0 e
        · exact q1 e
        · exact q2 e
    exact pz_op_same (-1000000001) c (by rw [S9, if_neg q0, if_neg q1, if_neg q2]) (by rw [S10', if_pos q])

/-! PURE PART: pour -/
def pz_pl (n : Nat) (v : Nat → Int32) : Nat → Nat → List Nat → Nat × List Nat
  | 0, k, R => (k, R)
  | d + 1, k, R => if (v k < nI 0 ∨ nI n ≤ v k) ∨ 24 ≤ R.length then (k, R) else pz_pl n v d (k + 1) (R ++ [(v k).toNatClampNeg])
theorem pz_plB (n : Nat) (hn : n ≤ 8) (v : Nat → Int32) : ∀ d k R, R.length ≤ 24 → (∀ u, u ∈ R → u < n) → (pz_pl n v d k R).2.length ≤ 24 ∧ (∀ u, u ∈ (pz_pl n v d k R).2 → u < n) := by
  intro d
  induction d with
  | zero => intro k R h1 h2; exact ⟨h1, h2⟩
  | succ d ih =>
    intro k R h1 h2
    rw [pz_pl]
    by_cases q : (v k < nI 0 ∨ nI n ≤ v k) ∨ 24 ≤ R.length
    · rw [if_pos q]; exact ⟨h1, h2⟩
    · rw [if_neg q]
      have q1 : ¬ pz_bad (v k) n := fun z => q (Or.inl z)
      obtain ⟨i, hi, ei⟩ := (pz_cases (v k) n (by omega)).resolve_left q1
      refine ih (k + 1) _ (by simp; omega) ?_
      intro u hu
      rw [ei, pz_cl (by omega)] at hu
      rcases List.mem_append.mp hu with z | z
      · exact h2 u z
      · rw [List.mem_singleton] at z; omega
theorem pz_pour9 (n len q : Nat) (hn : n ≤ 8) (hl : len ≤ 24) (hq : q + 1 < 79) (v : Nat → Int32) (C : Int32 → kv_H → Option (Int32 × kv_H)) : ∀ d k R g fuel, k + d = len → d < fuel → g q 2 = nI len → (∀ i, i < len → g (q + 1) i = v i) → g 82 8 = nI n → g 79 5 = nI R.length → R.length ≤ 24 → (∀ (i u : Nat), R[i]? = some u → g 80 i = nI u) → ∃ g', f_X9_pour_L34 q fuel (nI k) (nI k) g C = C (nI (pz_pl n v d k R).1) g' ∧ g' 79 5 = nI (pz_pl n v d k R).2.length ∧ (∀ (i u : Nat), (pz_pl n v d k R).2[i]? = some u → g' 80 i = nI u) ∧ (∀ a, a ≠ 79 → a ≠ 80 → g' a = g a) ∧ (∀ b, b ≠ 5 → g' 79 b = g 79 b) := by
  intro d
  induction d with
  | zero =>
    intro k R g fuel h1 h2 h3 h4 h5 h6 h7 h8
    obtain ⟨fuel, rfl⟩ : ∃ m, fuel = m + 1 := ⟨fuel - 1, by omega⟩
    refine ⟨g, ?_, h6, h8, fun _ _ _ => rfl, fun _ _ => rfl⟩
    rw [f_X9_pour_L34, h3, if_pos (nI_le (by omega) (by omega))]; rfl
  | succ d ih =>
    intro k R g fuel h1 h2 h3 h4 h5 h6 h7 h8
    obtain ⟨fuel, rfl⟩ : ∃ m, fuel = m + 1 := ⟨fuel - 1, by omega⟩
    have vk := h4 k (by omega)
    rw [f_X9_pour_L34, h3, if_neg (nI_ge (by omega) (by omega)), pz_kN (by omega) (by omega), pz_cl (by omega), vk, pz_pl]
    by_cases q1 : v k < nI 0 ∨ nI n ≤ v k
    · refine ⟨g, ?_, ?_, ?_, fun _ _ _ => rfl, fun _ _ => rfl⟩
      · rw [pz_leaf9B h5 (by omega) q1, pz_b, if_pos rfl, if_pos (Or.inl q1)]
      · rw [if_pos (Or.inl q1)]; exact h6
      · rw [if_pos (Or.inl q1)]; exact h8
    · obtain ⟨i, hi, ei⟩ := (pz_cases (v k) n (by omega)).resolve_left q1
      by_cases q2 : 24 ≤ R.length
      · refine ⟨g, ?_, ?_, ?_, fun _ _ _ => rfl, fun _ _ => rfl⟩
        · rw [ei, pz_leaf9G h5 (by omega) hi, pz_b, if_neg (by decide), pz_kN (by omega) (by omega), vk, ei, f_X8_addAsking, h6, if_neg (show ¬ nI R.length < (24 : Int32) from nI_nlt (b := 24) q2 (by omega)), pz_b, if_pos rfl, if_pos (Or.inr q2)]
        · rw [if_pos (Or.inr q2)]; exact h6
        · rw [if_pos (Or.inr q2)]; exact h8
      · have nq : ¬ ((v k < nI 0 ∨ nI n ≤ v k) ∨ 24 ≤ R.length) := fun z => z.elim q1 q2
        obtain ⟨g', x1, x2, x3, x4, x5⟩ := ih (k + 1) (R ++ [(v k).toNatClampNeg]) (kv_up (kv_up g 80 R.length (v k)) 79 5 (nI (R.length + 1))) fuel (by omega) (by omega) (by simp (disch := omega) only [pz_upne]; exact h3) (by intro i hi; simp (disch := omega) only [pz_upne]; exact h4 i hi) (by simp (disch := omega) only [pz_upne]; exact h5) (by simp (disch := omega) only [pz_upne, pz_upeq, pz_upd, if_neg, if_pos, if_true, if_false, List.length_append, List.length_singleton]) (by simp; omega) (by
          intro b u hb
          rcases pz_getEnd hb with ⟨z1, z2⟩ | ⟨z1, z2⟩
          · simp (disch := omega) only [pz_upne, pz_upeq, pz_upd, if_neg, if_pos, if_true, if_false]; exact h8 b u z2
          · subst z1; simp (disch := omega) only [pz_upne, pz_upeq, pz_upd, if_neg, if_pos, if_true, if_false]; rw [z2, ei, pz_cl (by omega)])
        rw [if_neg nq]
        refine ⟨g', ?_, x2, x3, ?_, ?_⟩
        · rw [ei, pz_leaf9G h5 (by omega) hi, pz_b, if_neg (by decide), pz_kN (by omega) (by omega), vk, f_X8_addAsking, h6, if_pos (show nI R.length < (24 : Int32) from nI_lt (b := 24) (by omega) (by omega)), pz_kN (by omega) (by omega), pz_hl, pz_hl, pz_cl (by omega), pz_upne (by omega), h6, nI_1, pz_b, if_neg (by decide), nI_1]
          rw [← ei]; exact x1
        · intro a q3 q4; rw [x4 a q3 q4]; simp (disch := omega) only [pz_upne]
        · intro b hb; rw [x5 b hb]; simp (disch := omega) only [pz_upne, pz_upeq, pz_upd, if_neg, if_pos, if_true, if_false]
theorem pz_pour10 (n len j : Nat) (hn : n ≤ 8) (hl : len ≤ 24) (hj : j < 4) (v : Nat → Int32) (C : Int32 → kv_H → Option (Int32 × kv_H)) : ∀ d k R g fuel, k + d = len → d < fuel → g 116 j = nI len → (∀ i, i < len → g 117 (24 * j + i) = v i) → g 112 0 = nI n → g 112 8 = nI R.length → R.length ≤ 24 → (∀ (i u : Nat), R[i]? = some u → g 112 (74 + i) = nI u) → ∃ g', f_X10_pour_L25 (nI j) fuel (nI k) g C = C (nI (pz_pl n v d k R).1) g' ∧ g' 112 8 = nI (pz_pl n v d k R).2.length ∧ (∀ (i u : Nat), (pz_pl n v d k R).2[i]? = some u → g' 112 (74 + i) = nI u) ∧ (∀ a, a ≠ 112 → g' a = g a) ∧ (∀ b, b ≠ 8 → (b < 74 ∨ 98 ≤ b) → g' 112 b = g 112 b) := by
  intro d
  induction d with
  | zero =>
    intro k R g fuel h1 h2 h3 h4 h5 h6 h7 h8
    obtain ⟨fuel, rfl⟩ : ∃ m, fuel = m + 1 := ⟨fuel - 1, by omega⟩
    refine ⟨g, ?_, h6, h8, fun _ _ => rfl, fun _ _ _ => rfl⟩
    rw [f_X10_pour_L25, pz_kN hj (by omega), pz_cl (by omega), h3, if_pos (nI_le (by omega) (by omega))]; rfl
  | succ d ih =>
    intro k R g fuel h1 h2 h3 h4 h5 h6 h7 h8
    obtain ⟨fuel, rfl⟩ : ∃ m, fuel = m + 1 := ⟨fuel - 1, by omega⟩
    have vk := h4 k (by omega)
    have a3 : (24 : Int32) * nI j + nI k = nI (24 * j + k) := by rw [show (24 : Int32) = nI 24 from rfl, pz_mul, pz_add]
    rw [f_X10_pour_L25, pz_kN hj (by omega), pz_cl (by omega), h3, if_neg (nI_ge (by omega) (by omega)), a3, pz_kN (by omega) (by omega), pz_cl (by omega), vk, pz_pl]
    by_cases q1 : v k < nI 0 ∨ nI n ≤ v k
    · refine ⟨g, ?_, ?_, ?_, fun _ _ => rfl, fun _ _ _ => rfl⟩
      · rw [pz_leaf10B h5 (by omega) q1, pz_b, if_pos rfl, if_pos (Or.inl q1)]
      · rw [if_pos (Or.inl q1)]; exact h6
      · rw [if_pos (Or.inl q1)]; exact h8
    · obtain ⟨i, hi, ei⟩ := (pz_cases (v k) n (by omega)).resolve_left q1
      by_cases q2 : 24 ≤ R.length
      · refine ⟨g, ?_, ?_, ?_, fun _ _ => rfl, fun _ _ _ => rfl⟩
        · rw [ei, pz_leaf10G h5 (by omega) hi, pz_b, if_neg (by decide), h6, if_pos (show (24 : Int32) ≤ nI R.length from nI_le (a := 24) q2 (by omega)), if_pos (Or.inr q2)]
        · rw [if_pos (Or.inr q2)]; exact h6
        · rw [if_pos (Or.inr q2)]; exact h8
      · have nq : ¬ ((v k < nI 0 ∨ nI n ≤ v k) ∨ 24 ≤ R.length) := fun z => z.elim q1 q2
        obtain ⟨g', x1, x2, x3, x4, x5⟩ := ih (k + 1) (R ++ [(v k).toNatClampNeg]) (kv_up (kv_up g 112 (74 + R.length) (v k)) 112 8 (nI (R.length + 1))) fuel (by omega) (by omega) (by simp (disch := omega) only [pz_upne]; exact h3) (by intro i hi; simp (disch := omega) only [pz_upne]; exact h4 i hi) (by simp (disch := omega) only [pz_upne, pz_upeq, pz_upd, if_neg, if_pos, if_true, if_false]; exact h5) (by simp (disch := omega) only [pz_upne, pz_upeq, pz_upd, if_neg, if_pos, if_true, if_false, List.length_append, List.length_singleton]) (by simp; omega) (by
          intro b u hb
          rcases pz_getEnd hb with ⟨z1, z2⟩ | ⟨z1, z2⟩
          · simp (disch := omega) only [pz_upne, pz_upeq, pz_upd, if_neg, if_pos, if_true, if_false]; exact h8 b u z2
          · subst z1; simp (disch := omega) only [pz_upne, pz_upeq, pz_upd, if_neg, if_pos, if_true, if_false]; rw [z2, ei, pz_cl (by omega)])
        rw [if_neg nq]
        refine ⟨g', ?_, x2, x3, ?_, ?_⟩
        · rw [ei, pz_leaf10G h5 (by omega) hi, pz_b, if_neg (by decide), h6, if_neg (show ¬ (24 : Int32) ≤ nI R.length from nI_ge (b := 24) (by omega) (by omega)), show (74 : Int32) = nI 74 from rfl, pz_add, pz_kN (by omega) (by omega), pz_kN (by omega) (by omega), pz_hl, pz_hl, pz_cl (by omega), pz_upeq, pz_upd, if_neg (by omega), h6, nI_1, nI_1, vk]
          rw [← ei]; exact x1
        · intro a q3; rw [x4 a q3]; simp (disch := omega) only [pz_upne]
        · intro b hb hb2; rw [x5 b hb hb2]; simp (disch := omega) only [pz_upne, pz_upeq, pz_upd, if_neg, if_pos, if_true, if_false]

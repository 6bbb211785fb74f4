/-! PURE PART: leaf -/
/-- the live world after the class weighed its leaves and the reference has the same leaves -/
theorem pz_weighed {h : kv_H} {n : Nat} {D : Nat → Nat → Nat} {t : Nat} {TX : Nat → pz_T} (lc : pz_LC h 82 n D) (b : pz_LB n D) (tc : pz_TC h t TX) (tb : pz_TB t TX) (lw : pz_LW h 79 t TX) : ∃ h' ch, f_X8_weighAll 79 h = some ((), h') ∧ pz_LC h' 82 n D ∧ pz_LX h' 82 n (pz_rm TX t D) (pz_ms TX t n D) ch ∧ pz_CH n D ch ∧ pz_TC h' t TX ∧ pz_LW h' 79 t TX ∧ (∀ a, a ≠ 49 → a ≠ 50 → a ≠ 88 → a ≠ 89 → a ≠ 90 → h' a = h a) := by
  have hn := b.1
  have ht := tb.1
  obtain ⟨h1, ch, x1, x2, x3, x4⟩ := pz_weigh (w := 79) (by omega) lc b tc tb lw
  refine ⟨h1, ch, x1, ⟨?_, ?_⟩, x2, x3, ?_, ?_, x4⟩
  · rw [x4 _ (by omega) (by omega) (by omega) (by omega) (by omega)]; exact lc.1
  · intro i hi
    rw [x4 _ (by omega) (by omega) (by omega) (by omega) (by omega), x4 _ (by omega) (by omega) (by omega) (by omega) (by omega), x4 _ (by omega) (by omega) (by omega) (by omega) (by omega), x4 _ (by omega) (by omega) (by omega) (by omega) (by omega), x4 _ (by omega) (by omega) (by omega) (by omega) (by omega)]; exact lc.2 i hi
  · intro i hi
    rw [x4 _ (by omega) (by omega) (by omega) (by omega) (by omega), x4 _ (by omega) (by omega) (by omega) (by omega) (by omega)]; exact tc i hi
  · intro k hk
    rw [x4 _ (by omega) (by omega) (by omega) (by omega) (by omega)]; exact lw k hk
theorem pz_mayLeanU (x y : Int32) (h : kv_H) : f_X9_mayLean x y h = some ((if y = -1000000005 then 1 else if y < 0 ∨ x ≤ y then 0 else 1), h) := by
  rw [f_X9_mayLean, pz_if2, pz_ifs, pz_ifs]
/-- a lean as told: none, outside, or one of the leaves -/
theorem pz_leanC (x : Int32) (n : Nat) (hn : n < 1000) : (¬ x = -1000000005 ∧ pz_bad x n) ∨ ∃ on, on ≤ n ∧ ((x = -1000000005 ∧ on = 0) ∨ (¬ x = -1000000005 ∧ x = pz_on on ∧ 0 < on ∧ x = nI (on - 1))) := by
  by_cases q : x = -1000000005
  · exact Or.inr ⟨0, by omega, Or.inl ⟨q, rfl⟩⟩
  · rcases pz_cases x n (by omega) with z | ⟨k, hk, e⟩
    · exact Or.inl ⟨q, z⟩
    · exact Or.inr ⟨k + 1, by omega, Or.inr ⟨q, e, by omega, e⟩⟩
theorem pz_leaf (x1 x2 x3 x4 : Int32) (h : kv_H) (c : pz_c5 h) : pz_op [5] pz_c5 (f_X9_leaf x1 x2 x3 x4) (f_X10_leaf x1 x2 x3 x4) h := by
  obtain ⟨n, D, t, TX, ch, V, X, sp, ru, ca, R, w⟩ := c
  have c : pz_c5 h := ⟨n, D, t, TX, ch, V, X, sp, ru, ca, R, w⟩
  obtain ⟨⟨lc, m, lx, chc, tc, lw, e6⟩, ⟨cc, cm, cb⟩, g3, g4⟩ := w
  have hn := m.2.1.1
  have l9 : h 82 8 = nI n := lc.1
  have l10 : h 112 0 = nI n := m.1.1
  rcases pz_cases x1 6 (by omega) with q | ⟨kd, hkd, rfl⟩
  · exact pz_op_same (-1000000001) c (by rw [f_X9_leaf, pz_isKindB q]; rfl) (by rw [f_X10_leaf, pz_in_0_5B q]; rfl)
  rcases pz_rng x2 1 9 (by omega) with q | ⟨sz, s1, s2, rfl⟩
  · refine pz_op_same (-1000000001) c ?_ ?_
    · rw [f_X9_leaf, pz_isKindG hkd, pz_b, if_neg (by decide), pz_isSizeU, if_pos (show x2 < 1 ∨ 9 < x2 from q)]; rfl
    · rw [f_X10_leaf, pz_in_0_5G hkd, pz_b, if_neg (by decide), pz_in_1_9, if_pos (show x2 < 1 ∨ 9 < x2 from q)]; rfl
  rcases pz_rng x3 0 99 (by omega) with q | ⟨ls, t1, t2, rfl⟩
  · refine pz_op_same (-1000000001) c ?_ ?_
    · rw [f_X9_leaf, pz_isKindG hkd, pz_b, if_neg (by decide), pz_isSizeU, if_neg (show ¬ (nI sz < 1 ∨ 9 < nI sz) by
        rintro (z | z)
        · exact nI_nlt (b := 1) s1 (by omega) z
        · exact nI_nlt (a := 9) s2 (by omega) z), pz_b, if_neg (by decide), pz_isLossU, if_pos (show x3 < 0 ∨ 99 < x3 from q)]; rfl
    · rw [f_X10_leaf, pz_in_0_5G hkd, pz_b, if_neg (by decide), pz_in_1_9G s1 (by omega), pz_b, if_neg (by decide), pz_in_0_99, if_pos (show x3 < 0 ∨ 99 < x3 from q)]; rfl
  have sN : ¬ (nI sz < 1 ∨ 9 < nI sz) := by
    rintro (z | z)
    · exact nI_nlt (b := 1) s1 (by omega) z
    · exact nI_nlt (a := 9) s2 (by omega) z
  have lN' : ¬ (nI ls < 0 ∨ 99 < nI ls) := by
    rintro (z | z)
    · exact pz_ng (by omega) z
    · exact nI_nlt (a := 99) t2 (by omega) z
  have A9 : f_X9_leaf (nI kd) (nI sz) (nI ls) x4 h = (if (if x4 = -1000000005 then (1 : Int32) else if x4 < 0 ∨ nI n ≤ x4 then 0 else 1) = 0 then some (-1000000001, h) else kv_b (f_X9_leanInside x4 h) (fun r10 h9 => kv_b (f_X8_addLeaf 79 (nI kd) (nI sz) (nI ls) r10 h9) (fun r12 h11 => kv_b (f_X8_weighAll 79 h11) (fun _ h13 => some (r12, h13))))) := by
    rw [f_X9_leaf, pz_isKindG hkd, pz_b, if_neg (by decide), pz_isSizeU, if_neg sN, pz_b, if_neg (by decide), pz_isLossU, if_neg lN', pz_b, if_neg (by decide), l9, pz_mayLeanU, pz_b]
  rcases pz_leanC x4 n (by omega) with ⟨q, z⟩ | ⟨on, hon, z⟩
  · refine pz_op_same (-1000000001) c ?_ ?_
    · rw [A9, if_neg q, if_pos (show x4 < 0 ∨ nI n ≤ x4 from z)]; rfl
    · rw [f_X10_leaf, pz_in_0_5G hkd, pz_b, if_neg (by decide), pz_in_1_9G s1 (by omega), pz_b, if_neg (by decide), pz_in_0_99G (by omega), pz_b, if_neg (by decide), pz_jn, if_neg q, pz_leaf10B l10 (by omega) z]; rfl
  have A9' : f_X9_leaf (nI kd) (nI sz) (nI ls) x4 h = kv_b (f_X8_addLeaf 79 (nI kd) (nI sz) (nI ls) (pz_on on) h) (fun r12 h11 => kv_b (f_X8_weighAll 79 h11) (fun _ h13 => some (r12, h13))) := by
    rw [A9]
    rcases z with ⟨z1, z2⟩ | ⟨z1, z2, z3, z4⟩
    · rw [if_pos z1, if_neg (by decide), f_X9_leanInside, if_pos z1, pz_b, z2]; rfl
    · rw [if_neg z1, if_neg (show ¬ (x4 < 0 ∨ nI n ≤ x4) by
        rw [z4]; rintro (y | y)
        · exact pz_ng (by omega) y
        · exact nI_ge (by omega) (by omega) y), if_neg (by decide), f_X9_leanInside, if_neg z1, pz_b, z2]
  have A10 : ∀ g : kv_H, g 112 = h 112 → f_X10_leaf (nI kd) (nI sz) (nI ls) x4 g = (if nI n = (8 : Int32) then some (-1000000003, g) else kv_b (f_X10_comes (nI kd) (nI sz) (nI ls) (pz_on on) g) (fun _ h10 => some ((h10 112 0) - 1, h10))) := by
    intro g eg
    rw [f_X10_leaf, pz_in_0_5G hkd, pz_b, if_neg (by decide), pz_in_1_9G s1 (by omega), pz_b, if_neg (by decide), pz_in_0_99G (by omega), pz_b, if_neg (by decide), pz_jn]
    rcases z with ⟨z1, z2⟩ | ⟨z1, z2, z3, z4⟩
    · rw [if_pos z1]
      dsimp only
      rw [eg, l10, pz_jn, if_pos z1, z2]; rfl
    · rw [if_neg z1, z4, pz_leaf10G (by rw [eg]; exact l10) (by omega) (by omega), pz_b, if_neg (by decide)]
      dsimp only
      rw [eg, l10, pz_jn, if_neg (show ¬ nI (on - 1) = (-1000000005 : Int32) by rw [← z4]; exact z1), ← z4, z2]
  by_cases full : n = 8
  · obtain ⟨h1, ch', y1, y2, y3, y4, y5, y6, y7⟩ := pz_weighed lc m.2.1 tc m.2.2.2.1 lw
    have s112 : h1 112 = h 112 := y7 112 (by omega) (by omega) (by omega) (by omega) (by omega)
    refine ⟨-1000000003, h1, h1, ?_, ?_, ⟨n, D, t, TX, ch', V, X, sp, ru, ca, R, ⟨y2, by rw [s112]; exact m, y3, y4, y5, y6, ?_⟩, ?_, ?_, ?_⟩, ?_⟩
    · rw [A9', f_X8_addLeaf, pz_vl, show h (79 + 3) 8 = nI n from l9, full, if_neg (by decide), pz_b, y1, pz_b]
    · rw [A10 h1 s112, if_pos (by rw [full]; rfl)]
    · rw [y7 _ (by omega) (by omega) (by omega) (by omega) (by omega)]; exact e6
    · rw [s112]; exact pz_G2_fr hn ⟨cc, cm, cb⟩ (fun a q1 q2 => y7 _ (by omega) (by omega) (by omega) (by omega) (by omega)) rfl rfl rfl rfl (fun _ _ => rfl) (fun _ _ _ _ _ => rfl)
    · rw [s112]; exact pz_G3_fr g3 (by rw [y7 _ (by omega) (by omega) (by omega) (by omega) (by omega)]) (by rw [y7 _ (by omega) (by omega) (by omega) (by omega) (by omega)]) (by rw [y7 _ (by omega) (by omega) (by omega) (by omega) (by omega)]) rfl rfl rfl
    · rw [s112]; exact pz_G4_fr g4 (by rw [y7 _ (by omega) (by omega) (by omega) (by omega) (by omega)]) (by rw [y7 _ (by omega) (by omega) (by omega) (by omega) (by omega)]) rfl (fun _ _ => rfl)
    · intro a b q1 q2
      by_cases zz : a = 49 ∨ a = 50 ∨ a = 88 ∨ a = 89 ∨ a = 90
      · exfalso
        by_cases y : a = 49 ∨ a = 50
        · apply q2; rcases y with rfl | rfl <;> rfl
        · apply q1; rw [pz_reg5 (by omega) (by omega)]; decide
      · rw [y7 a (by omega) (by omega) (by omega) (by omega) (by omega)]
  · have hn8 : n < 8 := by omega
    obtain ⟨ha, a1, a2, a3⟩ := pz_add9 lc hn8 kd sz ls on
    have nb := pz_LBadd m.2.1 hn8 (kd := kd) (sz := sz) (ls := ls) (on := on) (by omega) s1 s2 t2 hon
    have ht := m.2.2.2.1.1
    have tca : pz_TC ha t TX := by
      intro i hi; rw [a3 _ (by omega), a3 _ (by omega)]; exact tc i hi
    have lwa : pz_LW ha 79 t TX := by
      intro k hk; rw [a3 _ (by omega)]; exact lw k hk
    obtain ⟨h1, ch', y1, y2, y3, y4, y5, y6, y7⟩ := pz_weighed a2 nb tca m.2.2.2.1 lwa
    have f1 : ∀ a, a ≠ 49 → a ≠ 50 → (a < 82 ∨ 90 < a) → h1 a = h a := fun a q1 q2 q3 => (y7 a q1 q2 (by omega) (by omega) (by omega)).trans (a3 a (by omega))
    have s112 : h1 112 = h 112 := f1 112 (by omega) (by omega) (by omega)
    obtain ⟨h2, b1, b2, b3, b4, b5, b6⟩ := pz_add10 (h := h1) (by rw [s112]; exact m) (by rw [s112]; exact cm) cb hn8 (kd := kd) (sz := sz) (ls := ls) (on := on) (by omega) s1 s2 t2 hon
    rw [s112] at b6
    have f2 : ∀ a, a ≠ 49 → a ≠ 50 → (a < 82 ∨ 90 < a) → a ≠ 112 → h2 a = h a := fun a q1 q2 q3 q4 => (b5 a q4).trans (f1 a q1 q2 q3)
    refine ⟨nI n, h1, h2, ?_, ?_, ⟨n + 1, pz_dadd D n kd sz ls on, t, TX, ch', V, X, sp, ru, ca, R, ⟨⟨?_, ?_⟩, b2, ?_, y4, ?_, ?_, ?_⟩, ⟨?_, b3, b4⟩, ?_, ?_⟩, ?_⟩
    · rw [A9', a1, pz_b, y1, pz_b]
    · rw [A10 h1 s112, if_neg (show ¬ nI n = (8 : Int32) from fun z => full ((nI_eq (by omega) (b := 8) (by omega)).mp z)), b1, pz_b, b2.1.1, nI_pred]
    · rw [b5 _ (by omega)]; exact y2.1
    · intro i hi
      rw [b5 _ (by omega), b5 _ (by omega), b5 _ (by omega), b5 _ (by omega), b5 _ (by omega)]; exact y2.2 i hi
    · intro i hi
      rw [b5 _ (by omega), b5 _ (by omega), b5 _ (by omega)]; exact y3 i hi
    · intro i hi
      rw [b5 _ (by omega), b5 _ (by omega)]; exact y5 i hi
    · intro k hk
      rw [b5 _ (by omega)]; exact y6 k hk
    · rw [f2 _ (by omega) (by omega) (by omega) (by omega)]; exact e6
    · have := pz_G2_fr (h' := h2) (s' := h 112) hn ⟨cc, cm, cb⟩ (fun a q1 q2 => f2 a (by omega) (by omega) (by omega) (by omega)) rfl rfl rfl rfl (fun _ _ => rfl) (fun _ _ _ _ _ => rfl)
      exact this.1
    · exact pz_G3_fr g3 (by rw [f2 _ (by omega) (by omega) (by omega) (by omega)]) (by rw [f2 _ (by omega) (by omega) (by omega) (by omega)]) (by rw [f2 _ (by omega) (by omega) (by omega) (by omega)]) (b6 _ (by omega)) (b6 _ (by omega)) (b6 _ (by omega))
    · have g4' := pz_G4_fr (h' := h2) (s' := h2 112) g4 (by rw [f2 _ (by omega) (by omega) (by omega) (by omega)]) (by rw [f2 _ (by omega) (by omega) (by omega) (by omega)]) (b6 _ (by omega)) (fun i hi => b6 _ (by omega))
      exact ⟨g4'.1, g4'.2.1, g4'.2.2.1, fun i v hv => ⟨(g4'.2.2.2 i v hv).1, (g4'.2.2.2 i v hv).2.1, Nat.lt_succ_of_lt (g4'.2.2.2 i v hv).2.2⟩⟩
    · intro a b q1 q2
      by_cases zz : a = 49 ∨ a = 50
      · exfalso; apply q2; rcases zz with rfl | rfl <;> rfl
      · by_cases zy : (82 ≤ a ∧ a ≤ 90) ∨ a = 112
        · exfalso; apply q1; rw [pz_reg5 (by omega) (by omega)]; decide
        · rw [f2 a (by omega) (by omega) (by omega) (by omega)]

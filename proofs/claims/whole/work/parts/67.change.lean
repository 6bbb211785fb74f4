/-! PURE PART: a leaf is changed -/
def pz_lv (j x : Nat) : Int32 := if j = 4 then pz_on x else nI x
theorem pz_LCu {h : kv_H} {q n : Nat} {D : Nat → Nat → Nat} (l : pz_LC h q n D) (i : Nat) (hi : i < n) (j : Nat) (hj : j < 5) : h (q + 1 + j) i = pz_lv j (D j i) := by
  obtain ⟨a, b, c, d, e⟩ := l.2 i hi
  have : j = 0 ∨ j = 1 ∨ j = 2 ∨ j = 3 ∨ j = 4 := by omega
  rcases this with rfl | rfl | rfl | rfl | rfl
  · exact a
  · exact b
  · exact c
  · exact d
  · exact e
theorem pz_LCo {h : kv_H} {q n : Nat} {D : Nat → Nat → Nat} (l0 : h q 8 = nI n) (l : ∀ i, i < n → ∀ j, j < 5 → h (q + 1 + j) i = pz_lv j (D j i)) : pz_LC h q n D :=
  ⟨l0, fun i hi => ⟨l i hi 0 (by omega), l i hi 1 (by omega), l i hi 2 (by omega), l i hi 3 (by omega), l i hi 4 (by omega)⟩⟩
theorem pz_LMu {s : Nat → Int32} {n : Nat} {D : Nat → Nat → Nat} (l : pz_LM s n D) (i : Nat) (hi : i < n) (j : Nat) (hj : j < 5) : s (10 + j + 7 * i) = pz_lv j (D j i) := by
  obtain ⟨a, b, c, d, e⟩ := l.2 i hi
  have : j = 0 ∨ j = 1 ∨ j = 2 ∨ j = 3 ∨ j = 4 := by omega
  rcases this with rfl | rfl | rfl | rfl | rfl
  · exact a
  · exact b
  · exact c
  · exact d
  · exact e
theorem pz_LMo {s : Nat → Int32} {n : Nat} {D : Nat → Nat → Nat} (l0 : s 0 = nI n) (l : ∀ i, i < n → ∀ j, j < 5 → s (10 + j + 7 * i) = pz_lv j (D j i)) : pz_LM s n D :=
  ⟨l0, fun i hi => ⟨l i hi 0 (by omega), l i hi 1 (by omega), l i hi 2 (by omega), l i hi 3 (by omega), l i hi 4 (by omega)⟩⟩
theorem pz_TM_fr {s s' : Nat → Int32} {t : Nat} {TX : Nat → pz_T} (tm : pz_TM s t TX) (tb : pz_TB t TX) (f3 : ∀ b, 98 ≤ b → b < 2898 → s' b = s b) : pz_TM s' t TX := by
  have ht := tb.1
  intro i hi
  obtain ⟨a1, a2, a3, a4⟩ := tm i hi
  refine ⟨?_, ?_, ?_, ?_⟩
  · rw [f3 _ (by omega) (by omega)]; exact a1
  · rw [f3 _ (by omega) (by omega)]; exact a2
  · rw [f3 _ (by omega) (by omega)]; exact a3
  · intro k st hk
    have kl : k < (TX i).2.2.length := by
      rcases Nat.lt_or_ge k (TX i).2.2.length with z | z
      · exact z
      · rw [List.getElem?_eq_none z] at hk; cases hk
    have lb := (tb.2 i hi).2.2.1
    rw [f3 _ (by omega) (by omega), f3 _ (by omega) (by omega)]; exact a4 k st hk
def pz_dup (D : Nat → Nat → Nat) (j i v : Nat) : Nat → Nat → Nat := fun a b => if a = j ∧ b = i then v else D a b
theorem pz_repl {h : kv_H} {n : Nat} {D : Nat → Nat → Nat} {t : Nat} {TX : Nat → pz_T} {ch : Nat → Nat} {V : List Nat} {X : Nat → Int32} {sp ru ca : Nat} {R : List Nat} (c : pz_world 79 h (h 112) n D t TX ch V X sp ru ca R) (j i v : Nat) (hj : j < 5) (hi : i < n) (nb : pz_LB n (pz_dup D j i v)) : ∃ h1 h2, f_X9_replace (83 + j) 8 (nI i) (pz_lv j v) h = some (pz_lv j (D j i), h1) ∧ f_X10_becomes (nI (10 + j + 7 * i)) (pz_lv j v) h1 = some (pz_lv j (D j i), h2) ∧ pz_c5 h2 ∧ pz_fr [5] h h2 ∧ h1 112 = h 112 := by
  obtain ⟨⟨lc, m, lx, chc, tc, lw, e6⟩, g2, g3, g4⟩ := c
  have hn := nb.1
  have ht := m.2.2.2.1.1
  have lc' : pz_LC (kv_up h (83 + j) i (pz_lv j v)) (79 + 3) n (pz_dup D j i v) := by
    refine pz_LCo ?_ ?_
    · rw [pz_upne (by omega)]; exact lc.1
    · intro k hk b hb
      have := pz_LCu lc k hk b hb
      unfold pz_dup
      by_cases z : b = j
      · subst z
        rw [show 79 + 3 + 1 + b = 83 + b from by omega, pz_upeq, pz_upd]
        by_cases y : k = i
        · rw [if_pos y, if_pos ⟨rfl, y⟩]
        · rw [if_neg y, if_neg (fun z => y z.2)]; rw [show 79 + 3 + 1 + b = 83 + b from by omega] at this; exact this
      · rw [pz_upne (by omega), if_neg (fun y => z y.1)]; exact this
  have tc' : pz_TC (kv_up h (83 + j) i (pz_lv j v)) t TX := by
    intro k hk; rw [pz_upne (by omega), pz_upne (by omega)]; exact tc k hk
  have lw' : pz_LW (kv_up h (83 + j) i (pz_lv j v)) 79 t TX := by
    intro k hk; rw [pz_upne (by omega)]; exact lw k hk
  obtain ⟨h1, ch', x1, x2, x3, x4⟩ := pz_weigh (by omega) lc' nb tc' m.2.2.2.1 lw'
  have f1 : ∀ a, a ≠ 49 → a ≠ 50 → a ≠ 79 + 3 + 6 → a ≠ 79 + 3 + 7 → a ≠ 79 + 3 + 8 → a ≠ 83 + j → h1 a = h a := fun a q1 q2 q3 q4 q5 q6 => (x4 a q1 q2 q3 q4 q5).trans (pz_upne q6)
  have s112 : h1 112 = h 112 := f1 112 (by omega) (by omega) (by omega) (by omega) (by omega) (by omega)
  refine ⟨h1, kv_up h1 112 (10 + j + 7 * i) (pz_lv j v), ?_, ?_, ⟨n, pz_dup D j i v, t, TX, ch', V, X, sp, ru, ca, R, ⟨?_, ?_, ?_, x3, ?_, ?_, ?_⟩, ?_, ?_, ?_⟩, ?_, s112⟩
  · rw [f_X9_replace, pz_kN (by omega) (by omega), pz_vl, pz_kN (by omega) (by omega), pz_hl, pz_cl (by omega), x1, pz_b]
    have := pz_LCu lc i hi j hj
    rw [show 79 + 3 + 1 + j = 83 + j from by omega] at this
    rw [this]
  · rw [pz_becomes _ (by omega), s112]
    have := pz_LMu m.1 i hi j hj
    rw [this]
  · refine pz_LCo ?_ ?_
    · rw [pz_upne (by omega), x4 _ (by omega) (by omega) (by omega) (by omega) (by omega)]; exact lc'.1
    · intro k hk b hb
      rw [pz_upne (by omega), x4 _ (by omega) (by omega) (by omega) (by omega) (by omega)]; exact pz_LCu lc' k hk b hb
  · rw [pz_upeq, s112]
    refine ⟨pz_LMo ?_ ?_, nb, ?_, m.2.2.2.1, ?_⟩
    · rw [pz_upd, if_neg (by omega)]; exact m.1.1
    · intro k hk b hb
      have := pz_LMu m.1 k hk b hb
      unfold pz_dup
      rw [pz_upd]
      by_cases z : b = j ∧ k = i
      · rw [if_pos (by omega), if_pos z, z.1]
      · rw [if_neg (by omega), if_neg z]; exact this
    · exact pz_TM_fr m.2.2.1 m.2.2.2.1 (fun b q1 q2 => by rw [pz_upd, if_neg (by omega)])
    · rw [pz_upd, if_neg (by omega)]; exact m.2.2.2.2
  · intro k hk
    rw [pz_upne (by omega), pz_upne (by omega), pz_upne (by omega)]; exact x2 k hk
  · intro k hk
    rw [pz_upne (by omega), pz_upne (by omega), x4 _ (by omega) (by omega) (by omega) (by omega) (by omega), x4 _ (by omega) (by omega) (by omega) (by omega) (by omega)]; exact tc' k hk
  · intro k hk
    rw [pz_upne (by omega), x4 _ (by omega) (by omega) (by omega) (by omega) (by omega)]; exact lw' k hk
  · rw [pz_upne (by omega), f1 _ (by omega) (by omega) (by omega) (by omega) (by omega) (by omega)]; exact e6
  · refine pz_G2_fr hn g2 ?_ ?_ ?_ ?_ ?_ ?_ ?_
    · intro a q1 q2; rw [pz_upne (by omega), f1 _ (by omega) (by omega) (by omega) (by omega) (by omega) (by omega)]
    · rw [pz_upeq, s112, pz_upd, if_neg (by omega)]
    · rw [pz_upeq, s112, pz_upd, if_neg (by omega)]
    · rw [pz_upeq, s112, pz_upd, if_neg (by omega)]
    · rw [pz_upeq, s112, pz_upd, if_neg (by omega)]
    · intro a q1; rw [pz_upeq, s112, pz_upd, if_neg (by omega)]
    · intro a b q1 q2 q3; rw [pz_upeq, s112, pz_upd, if_neg (by omega)]
  · refine pz_G3_fr g3 ?_ ?_ ?_ ?_ ?_ ?_
    · rw [pz_upne (by omega), f1 _ (by omega) (by omega) (by omega) (by omega) (by omega) (by omega)]
    · rw [pz_upne (by omega), f1 _ (by omega) (by omega) (by omega) (by omega) (by omega) (by omega)]
    · rw [pz_upne (by omega), f1 _ (by omega) (by omega) (by omega) (by omega) (by omega) (by omega)]
    · rw [pz_upeq, s112, pz_upd, if_neg (by omega)]
    · rw [pz_upeq, s112, pz_upd, if_neg (by omega)]
    · rw [pz_upeq, s112, pz_upd, if_neg (by omega)]
  · refine pz_G4_fr g4 ?_ ?_ ?_ ?_
    · rw [pz_upne (by omega), f1 _ (by omega) (by omega) (by omega) (by omega) (by omega) (by omega)]
    · rw [pz_upne (by omega), f1 _ (by omega) (by omega) (by omega) (by omega) (by omega) (by omega)]
    · rw [pz_upeq, s112, pz_upd, if_neg (by omega)]
    · intro a q1; rw [pz_upeq, s112, pz_upd, if_neg (by omega)]
  · refine pz_fr5 ?_ (by decide) (by omega) (by omega)
    intro a b q1 q2
    by_cases z : a = 49 ∨ a = 50 ∨ a = 79 + 3 + 6 ∨ a = 79 + 3 + 7 ∨ a = 79 + 3 + 8 ∨ a = 83 + j
    · exfalso
      by_cases y : a = 49 ∨ a = 50
      · apply q2; rcases y with rfl | rfl <;> rfl
      · apply q1; rw [pz_reg5 (by omega) (by omega)]; decide
    · rw [f1 a (by omega) (by omega) (by omega) (by omega) (by omega) (by omega)]

/-! PURE PART: leans, leaf -/
theorem pz_leans (x1 x2 : Int32) (h : kv_H) (c : pz_c5 h) : pz_op [5] pz_c5 (f_X9_leans x1 x2) (f_X10_leans x1 x2) h := by
  obtain ⟨n, D, t, TX, ch, V, X, sp, ru, ca, R, w⟩ := c
  have c : pz_c5 h := ⟨n, D, t, TX, ch, V, X, sp, ru, ca, R, w⟩
  have hn := w.1.2.1.2.1.1
  have l9 : h 82 8 = nI n := w.1.1.1
  have l10 : h 112 0 = nI n := w.1.2.1.1.1
  rcases pz_cases x1 n (by omega) with q | ⟨i, hi, rfl⟩
  · exact pz_op_same (-1000000001) c (by rw [f_X9_leans, pz_leaf9B l9 (by omega) q]; rfl) (by rw [f_X10_leans, pz_leaf10B l10 (by omega) q]; rfl)
  have e0 : (10 : Int32) + 7 * nI i + 4 = nI (10 + 4 + 7 * i) := by
    rw [show (7 : Int32) = nI 7 from rfl, pz_mul, show (10 : Int32) = nI 10 from rfl, pz_add, show (4 : Int32) = nI 4 from rfl, pz_add]; congr 1; omega
  by_cases q : x2 = -1000000005
  · obtain ⟨h1, h2, y1, y2, y3, y4, y5⟩ := pz_repl w 4 i 0 (by omega) hi (pz_LBdup w.1.2.1.2.1 4 i 0 (by omega))
    refine ⟨if 0 ≤ pz_on (D 4 i) then pz_on (D 4 i) else -1000000005, h1, h2, ?_, ?_, y3, y4⟩
    · rw [f_X9_leans, pz_leaf9G l9 (by omega) hi, pz_b, if_neg (by decide), f_X9_mayLean, if_pos q, pz_b, if_neg (by decide), f_X9_leanInside, if_pos q, pz_b]
      rw [show f_X9_replace 87 8 (nI i) (-1) h = _ from y1, pz_b, f_X9_leanOutside, pz_ifs, pz_b]; rfl
    · rw [f_X10_leans, pz_leaf10G (by rw [y5]; exact l10) (by omega) hi, pz_b, if_neg (by decide), pz_jn, if_pos q]
      dsimp only
      rw [pz_leafAtU, pz_b, if_pos q, e0]
      rw [show f_X10_becomes (nI (10 + 4 + 7 * i)) (-1) h1 = _ from y2, pz_b, pz_orNoneU, pz_b]; rfl
  rcases pz_cases x2 i (by omega) with z | ⟨k, hk, rfl⟩
  · refine pz_op_same (-1000000001) c ?_ ?_
    · rw [f_X9_leans, pz_leaf9G l9 (by omega) hi, pz_b, if_neg (by decide), f_X9_mayLean, if_neg q, pz_if2, if_pos (show x2 < 0 ∨ nI i ≤ x2 from z)]; rfl
    · rw [f_X10_leans, pz_leaf10G l10 (by omega) hi, pz_b, if_neg (by decide), pz_jn, if_neg q, pz_in0, if_pos (show x2 < 0 ∨ nI i - 1 < x2 from of_eq_true (pz_hasT z (by omega)).2)]; rfl
  · obtain ⟨h1, h2, y1, y2, y3, y4, y5⟩ := pz_repl w 4 i (k + 1) (by omega) hi (pz_LBdup w.1.2.1.2.1 4 i (k + 1) (by omega))
    refine ⟨if 0 ≤ pz_on (D 4 i) then pz_on (D 4 i) else -1000000005, h1, h2, ?_, ?_, y3, y4⟩
    · rw [f_X9_leans, pz_leaf9G l9 (by omega) hi, pz_b, if_neg (by decide), f_X9_mayLean, if_neg q, if_neg (pz_ng (by omega)), if_neg (nI_ge hk (by omega)), pz_b, if_neg (by decide), f_X9_leanInside, if_neg q, pz_b]
      rw [show f_X9_replace 87 8 (nI i) (nI k) h = _ from y1, pz_b, f_X9_leanOutside, pz_ifs, pz_b]; rfl
    · rw [f_X10_leans, pz_leaf10G (by rw [y5]; exact l10) (by omega) hi, pz_b, if_neg (by decide), pz_jn, if_neg q, pz_in0, show (1 : Int32) = nI 1 from rfl, pz_sub (by omega), if_neg (pz_goodI (n := i - 1) (by omega) (by omega)), pz_b, if_neg (by decide)]
      dsimp only
      rw [pz_leafAtU, pz_b, if_neg q, e0]
      rw [show f_X10_becomes (nI (10 + 4 + 7 * i)) (nI k) h1 = _ from y2, pz_b, pz_orNoneU, pz_b]; rfl
def pz_dadd (D : Nat → Nat → Nat) (n kd sz ls on : Nat) : Nat → Nat → Nat := fun a b => if b = n then (if a = 0 then kd else if a = 1 then sz else if a = 2 then ls else if a = 3 then 1 else on) else D a b
theorem pz_LBadd {n : Nat} {D : Nat → Nat → Nat} (b : pz_LB n D) (hn : n < 8) {kd sz ls on : Nat} (h0 : kd ≤ 5) (h1 : 1 ≤ sz) (h2 : sz ≤ 9) (h3 : ls ≤ 99) (h4 : on ≤ n) : pz_LB (n + 1) (pz_dadd D n kd sz ls on) := by
  refine ⟨by omega, fun k hk => ?_⟩
  unfold pz_dadd
  by_cases z : k = n
  · simp only [z, if_true]
    simp; omega
  · have := b.2 k (by omega)
    simp only [z, if_false]; exact this
/-- the class's part of a new leaf -/
theorem pz_add9 {h : kv_H} {n : Nat} {D : Nat → Nat → Nat} (lc : pz_LC h 82 n D) (hn : n < 8) (kd sz ls on : Nat) : ∃ h', f_X8_addLeaf 79 (nI kd) (nI sz) (nI ls) (pz_on on) h = some (nI n, h') ∧ pz_LC h' 82 (n + 1) (pz_dadd D n kd sz ls on) ∧ (∀ a, a < 82 ∨ 87 < a → h' a = h a) := by
  refine ⟨kv_up (kv_up (kv_up (kv_up (kv_up (kv_up h 83 n (nI kd)) 84 n (nI sz)) 85 n (nI ls)) 86 n 1) 87 n (pz_on on)) 82 8 (nI (n + 1)), ?_, ?_, ?_⟩
  · have l0 : h (79 + 3) 8 = nI n := lc.1
    rw [f_X8_addLeaf, pz_vl, l0, if_pos (show nI n < (8 : Int32) from nI_lt (b := 8) (by omega) (by omega)), pz_kN (by omega) (by omega), pz_hl, pz_kN (by omega) (by omega), pz_hl, pz_kN (by omega) (by omega), pz_hl, pz_kN (by omega) (by omega), pz_hl, pz_kN (by omega) (by omega), pz_hl, pz_hl, pz_cl (by omega), nI_1]
  · refine ⟨rfl, fun i hi => ?_⟩
    unfold pz_dadd
    by_cases z : i = n
    · subst z
      refine ⟨?_, ?_, ?_, ?_, ?_⟩ <;> (simp (disch := omega) only [pz_upne, pz_upeq, pz_upd, if_neg, if_pos, if_true, if_false]) <;> (try rfl)
    · have := lc.2 i (by omega)
      simp (disch := omega) only [pz_upne, pz_upeq, pz_upd, if_neg, if_pos, if_true, if_false]
      exact this
  · intro a ha; simp (disch := omega) only [pz_upne, pz_upeq, pz_upd, if_neg, if_pos, if_true, if_false]
/-- the reference's part of a new leaf -/
theorem pz_add10 {h : kv_H} {n : Nat} {D : Nat → Nat → Nat} {t : Nat} {TX : Nat → pz_T} {V : List Nat} {X : Nat → Int32} (m : pz_M (h 112) n D t TX) (cm : pz_CM (h 112) n V X) (cb : pz_CB n V X) (hn : n < 8) {kd sz ls on : Nat} (h0 : kd ≤ 5) (h1 : 1 ≤ sz) (h2 : sz ≤ 9) (h3 : ls ≤ 99) (h4 : on ≤ n) : ∃ h', f_X10_comes (nI kd) (nI sz) (nI ls) (pz_on on) h = some ((), h') ∧ pz_M (h' 112) (n + 1) (pz_dadd D n kd sz ls on) t TX ∧ pz_CM (h' 112) (n + 1) V X ∧ pz_CB (n + 1) V X ∧ (∀ a, a ≠ 112 → h' a = h a) ∧ (∀ b, b = 3 ∨ b = 4 ∨ b = 5 ∨ b = 8 ∨ (74 ≤ b ∧ b < 98) → h' 112 b = h 112 b) := by
  obtain ⟨lm, b, tm, tb, e1⟩ := m
  refine ⟨kv_up (kv_up (kv_up (kv_up (kv_up (kv_up (kv_up (kv_up h 112 (10 + 7 * n) (nI kd)) 112 (10 + 7 * n + 1) (nI sz)) 112 (10 + 7 * n + 2) (nI ls)) 112 (10 + 7 * n + 3) 1) 112 (10 + 7 * n + 4) (pz_on on)) 112 (10 + 7 * n + 5) 0) 112 (10 + 7 * n + 6) 0) 112 0 (nI (n + 1)), ?_, ⟨?_, pz_LBadd b hn h0 h1 h2 h3 h4, ?_, tb, ?_⟩, ?_, ?_, ?_, ?_⟩
  · have e0 : (10 : Int32) + 7 * nI n = nI (10 + 7 * n) := by
      rw [show (7 : Int32) = nI 7 from rfl, pz_mul, show (10 : Int32) = nI 10 from rfl, pz_add]
    have ea : ∀ c : Nat, nI (10 + 7 * n) + nI c = nI (10 + 7 * n + c) := fun c => pz_add _ _
    rw [f_X10_comes, lm.1, pz_leafAtU, pz_b, e0, show (1 : Int32) = nI 1 from rfl, show (2 : Int32) = nI 2 from rfl, show (3 : Int32) = nI 3 from rfl, show (4 : Int32) = nI 4 from rfl, show (5 : Int32) = nI 5 from rfl, show (6 : Int32) = nI 6 from rfl, ea, ea, ea, ea, ea, ea]
    rw [pz_kN (by omega) (by omega), pz_hl, pz_kN (by omega) (by omega), pz_hl, pz_kN (by omega) (by omega), pz_hl, pz_kN (by omega) (by omega), pz_hl, pz_kN (by omega) (by omega), pz_hl, pz_kN (by omega) (by omega), pz_hl, pz_kN (by omega) (by omega), pz_hl, pz_hl]
    rw [pz_cl (by omega), pz_cl (by omega), pz_cl (by omega), pz_cl (by omega), pz_cl (by omega), pz_cl (by omega), pz_cl (by omega)]
    congr 3
    rw [pz_upeq, pz_upd, if_neg (by omega), pz_upeq, pz_upd, if_neg (by omega), pz_upeq, pz_upd, if_neg (by omega), pz_upeq, pz_upd, if_neg (by omega), pz_upeq, pz_upd, if_neg (by omega), pz_upeq, pz_upd, if_neg (by omega), pz_upeq, pz_upd, if_neg (by omega), lm.1, pz_add]
  · refine ⟨?_, fun i hi => ?_⟩
    · simp (disch := omega) only [pz_upne, pz_upeq, pz_upd, if_neg, if_pos, if_true, if_false]
    · unfold pz_dadd
      by_cases z : i = n
      · subst z
        refine ⟨?_, ?_, ?_, ?_, ?_⟩ <;> (simp (disch := omega) only [pz_upne, pz_upeq, pz_upd, if_neg, if_pos, if_true, if_false]) <;> (try rfl)
      · have := lm.2 i (by omega)
        simp (disch := omega) only [pz_upne, pz_upeq, pz_upd, if_neg, if_pos, if_true, if_false]
        exact this
  · exact pz_TM_fr tm tb (by intros; simp (disch := omega) only [pz_upne, pz_upeq, pz_upd, if_neg, if_pos, if_true, if_false])
  · simp (disch := omega) only [pz_upne, pz_upeq, pz_upd, if_neg, if_pos, if_true, if_false]; exact e1
  · obtain ⟨b1, b2, b3, b4, b5, b6⟩ := cm
    have vl := pz_nodup_le n V cb.1 cb.2.1
    refine ⟨?_, ?_, ?_, ?_, ?_, ?_⟩
    · simp (disch := omega) only [pz_upne, pz_upeq, pz_upd, if_neg, if_pos, if_true, if_false]; exact b1
    · simp (disch := omega) only [pz_upne, pz_upeq, pz_upd, if_neg, if_pos, if_true, if_false]; exact b2
    · simp (disch := omega) only [pz_upne, pz_upeq, pz_upd, if_neg, if_pos, if_true, if_false]; exact b3
    · simp (disch := omega) only [pz_upne, pz_upeq, pz_upd, if_neg, if_pos, if_true, if_false]; exact b4
    · intro i v hv
      have il : i < V.length := by
        rcases Nat.lt_or_ge i V.length with z | z
        · exact z
        · rw [List.getElem?_eq_none z] at hv; cases hv
      simp (disch := omega) only [pz_upne, pz_upeq, pz_upd, if_neg, if_pos, if_true, if_false]; exact b5 i v hv
    · intro i hi
      by_cases z : i = n
      · subst z
        simp (disch := omega) only [pz_upne, pz_upeq, pz_upd, if_neg, if_pos, if_true, if_false]
        have := cb.2.2 i (by omega) (by omega)
        exact ⟨this.1.symm, this.2.symm⟩
      · simp (disch := omega) only [pz_upne, pz_upeq, pz_upd, if_neg, if_pos, if_true, if_false]; exact b6 i (by omega)
  · exact ⟨cb.1, fun v hv => Nat.lt_succ_of_lt (cb.2.1 v hv), fun i q1 q2 => cb.2.2 i (by omega) q2⟩
  · intro a ha; simp (disch := omega) only [pz_upne, pz_upeq, pz_upd, if_neg, if_pos, if_true, if_false]
  · intro b' hb; simp (disch := omega) only [pz_upne, pz_upeq, pz_upd, if_neg, if_pos, if_true, if_false]

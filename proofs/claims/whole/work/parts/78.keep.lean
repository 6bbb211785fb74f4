/-! PURE PART: a world becomes another -/
theorem pz_lvs {h : kv_H} {q0 q n : Nat} {D : Nat → Nat → Nat} {rm ms ch : Nat → Nat} (d : q0 + 9 ≤ q ∨ q + 9 ≤ q0) (hn : n ≤ 8) (lc : pz_LC h q n D) (lx : pz_LX h q n rm ms ch) : ∃ h', f_X1_becomes q0 q h = some ((), h') ∧ pz_LC h' q0 n D ∧ pz_LX h' q0 n rm ms ch ∧ ∀ a, (a < q0 ∨ q0 + 8 < a) → h' a = h a := by
  refine ⟨kv_up (kv_row (kv_row (kv_row (kv_row (kv_row (kv_row (kv_row (kv_row h (q0 + 1) (va_cpy (h (q + 1)) (h (q0 + 1)) 0 0 8)) (q0 + 2) (va_cpy (h (q + 2)) (h (q0 + 2)) 0 0 8)) (q0 + 3) (va_cpy (h (q + 3)) (h (q0 + 3)) 0 0 8)) (q0 + 4) (va_cpy (h (q + 4)) (h (q0 + 4)) 0 0 8)) (q0 + 5) (va_cpy (h (q + 5)) (h (q0 + 5)) 0 0 8)) (q0 + 6) (va_cpy (h (q + 6)) (h (q0 + 6)) 0 0 8)) (q0 + 7) (va_cpy (h (q + 7)) (h (q0 + 7)) 0 0 8)) (q0 + 8) (va_cpy (h (q + 8)) (h (q0 + 8)) 0 0 8)) q0 8 (h q 8), ?_, ⟨?_, ?_⟩, ?_, ?_⟩
  · rw [f_X1_becomes, pz_copyRow _ _ 8 (by omega), pz_b, pz_copyRow _ _ 8 (by omega), pz_b, pz_copyRow _ _ 8 (by omega), pz_b, pz_copyRow _ _ 8 (by omega), pz_b, pz_copyRow _ _ 8 (by omega), pz_b, pz_copyRow _ _ 8 (by omega), pz_b, pz_copyRow _ _ 8 (by omega), pz_b, pz_copyRow _ _ 8 (by omega), pz_b, pz_hl]
    simp (disch := omega) only [pz_upne, pz_rowne]
  · simp (disch := omega) only [pz_upne, pz_upeq, pz_upd, if_neg, if_pos, if_true, if_false]; exact lc.1
  · intro i hi
    simp (disch := omega) only [pz_upne, pz_rowne, pz_roweq, pz_cpy0]; exact lc.2 i hi
  · intro i hi
    simp (disch := omega) only [pz_upne, pz_rowne, pz_roweq, pz_cpy0]; exact lx i hi
  · intro a ha; simp (disch := omega) only [pz_upne, pz_rowne]
/-- the class's world w0 becomes w, the reference's row s0 becomes s: they hold the same -/
theorem pz_become {h : kv_H} {w0 w : Nat} {s s0 : Nat → Int32} {n : Nat} {D : Nat → Nat → Nat} {t : Nat} {TX : Nat → pz_T} {ch : Nat → Nat} {V : List Nat} {X : Nat → Int32} {sp ru ca : Nat} {R : List Nat} (d : w0 + 16 ≤ w ∨ w + 16 ≤ w0) (h79 : 79 ≤ w0) (g : pz_world w h s n D t TX ch V X sp ru ca R) (es : ∀ b, b < 2898 → s0 b = s b) : ∃ h', f_X8_becomes w0 w h = some ((), h') ∧ pz_world w0 h' s0 n D t TX ch V X sp ru ca R ∧ ∀ a, (a < w0 ∨ w0 + 15 < a) → h' a = h a := by
  obtain ⟨⟨lc, m, lx, chc, tc, lw, e6⟩, ⟨cc, cm, cb⟩, g3, g4⟩ := g
  have hn := m.2.1.1
  have ht := m.2.2.2.1.1
  have vl := pz_nodup_le n V cb.1 cb.2.1
  obtain ⟨h1, x1, x2, x3, x4⟩ := pz_lvs (q0 := w0 + 3) (by omega) hn lc lx
  have cc1 : pz_CC h1 (w + 12) V X := by
    unfold pz_CC at *
    rw [x4 (w + 12) (by omega), x4 (w + 12 + 1) (by omega), x4 (w + 12 + 2) (by omega), x4 (w + 12 + 3) (by omega)]; exact cc
  obtain ⟨h2, y1, y2, y3⟩ := pz_course (c0 := w0 + 12) (by omega) (by omega) cc1
  have f2 : ∀ a, (a < w0 + 3 ∨ w0 + 15 < a) → h2 a = h a := fun a ha => (y3 a (by omega)).trans (x4 a (by omega))
  obtain ⟨h3, eh3⟩ : ∃ g, g = kv_up (kv_up (kv_up (kv_up (kv_up (kv_row (kv_row h2 (w0 + 1) (va_cpy (h (w + 1)) (h (w0 + 1)) 0 0 24)) (w0 + 2) (va_cpy (h (w + 2)) (h (w0 + 2)) 0 0 3)) w0 5 (h w 5)) w0 6 (h w 6)) w0 7 (h w 7)) w0 8 (h w 8)) w0 9 (h w 9) := ⟨_, rfl⟩
  have f3 : ∀ a, (a < w0 ∨ w0 + 2 < a) → h3 a = h2 a := by
    intro a ha; rw [eh3]; simp (disch := omega) only [pz_upne, pz_rowne]
  refine ⟨h3, ?_, ⟨⟨?_, ?_, ?_, chc, ?_, ?_, ?_⟩, ⟨?_, ?_, cb⟩, ?_, ?_⟩, ?_⟩
  · rw [f_X8_becomes, x1, pz_b, y1, pz_b, pz_copyRow _ _ 24 (by omega), pz_b, pz_copyRow _ _ 3 (by omega), pz_b, pz_hl, pz_hl, pz_hl, pz_hl, pz_hl, eh3]
    simp (disch := omega) only [pz_upne, pz_rowne, f2]
  · refine ⟨?_, fun i hi => ?_⟩
    · rw [f3 _ (by omega), y3 _ (by omega)]; exact x2.1
    · rw [f3 _ (by omega), f3 _ (by omega), f3 _ (by omega), f3 _ (by omega), f3 _ (by omega), y3 _ (by omega), y3 _ (by omega), y3 _ (by omega), y3 _ (by omega), y3 _ (by omega)]; exact x2.2 i hi
  · exact pz_M_fr m (es _ (by omega)) (es _ (by omega)) (fun i j q1 q2 => es _ (by omega)) (fun b q1 q2 => es _ q2)
  · intro i hi
    rw [f3 _ (by omega), f3 _ (by omega), f3 _ (by omega), y3 _ (by omega), y3 _ (by omega), y3 _ (by omega)]; exact x3 i hi
  · intro i hi
    rw [f3 _ (by omega), f3 _ (by omega), f2 _ (by omega), f2 _ (by omega)]; exact tc i hi
  · intro k hk
    have : h3 (w0 + 2) k = h (w + 2) k := by rw [eh3]; simp (disch := omega) only [pz_upne, pz_rowne, pz_roweq, pz_cpy0]
    rw [this]; exact lw k hk
  · rw [eh3]; simp (disch := omega) only [pz_upne, pz_upeq, pz_upd, if_neg, if_pos, if_true, if_false]; exact e6
  · unfold pz_CC at *
    rw [f3 (w0 + 12) (by omega), f3 (w0 + 12 + 1) (by omega), f3 (w0 + 12 + 2) (by omega), f3 (w0 + 12 + 3) (by omega)]; exact y2
  · obtain ⟨b1, b2, b3, b4, b5, b6⟩ := cm
    refine ⟨?_, ?_, ?_, ?_, ?_, ?_⟩
    · rw [es _ (by omega)]; exact b1
    · rw [es _ (by omega)]; exact b2
    · rw [es _ (by omega)]; exact b3
    · rw [es _ (by omega)]; exact b4
    · intro i v hv
      have il : i < V.length := by
        rcases Nat.lt_or_ge i V.length with z | z
        · exact z
        · rw [List.getElem?_eq_none z] at hv; cases hv
      rw [es _ (by omega)]; exact b5 i v hv
    · intro i hi; rw [es _ (by omega), es _ (by omega)]; exact b6 i hi
  · obtain ⟨c1, c2, c3, c4, c5, c6, c7⟩ := g3
    refine ⟨?_, ?_, ?_, ?_, ?_, ?_, c7⟩
    · rw [eh3]; simp (disch := omega) only [pz_upne, pz_upeq, pz_upd, if_neg, if_pos, if_true, if_false]; exact c1
    · rw [eh3]; simp (disch := omega) only [pz_upne, pz_upeq, pz_upd, if_neg, if_pos, if_true, if_false]; exact c2
    · rw [eh3]; simp (disch := omega) only [pz_upne, pz_upeq, pz_upd, if_neg, if_pos, if_true, if_false]; exact c3
    · rw [es _ (by omega)]; exact c4
    · rw [es _ (by omega)]; exact c5
    · rw [es _ (by omega)]; exact c6
  · obtain ⟨c1, c2, c3, c4⟩ := g4
    refine ⟨?_, ?_, c3, ?_⟩
    · rw [eh3]; simp (disch := omega) only [pz_upne, pz_upeq, pz_upd, if_neg, if_pos, if_true, if_false]; exact c1
    · rw [es _ (by omega)]; exact c2
    · intro i v hv
      have il : i < R.length := by
        rcases Nat.lt_or_ge i R.length with z | z
        · exact z
        · rw [List.getElem?_eq_none z] at hv; cases hv
      have : h3 (w0 + 1) i = h (w + 1) i := by rw [eh3]; simp (disch := omega) only [pz_upne, pz_rowne, pz_roweq, pz_cpy0]
      rw [this, es _ (by omega)]; exact c4 i v hv
  · intro a ha; rw [f3 a (by omega)]; exact f2 a (by omega)

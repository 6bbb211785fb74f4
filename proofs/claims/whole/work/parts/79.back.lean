/-! PURE PART: keep, back -/
theorem pz_world_fr {w : Nat} {h h' : kv_H} {s s' : Nat → Int32} {n : Nat} {D : Nat → Nat → Nat} {t : Nat} {TX : Nat → pz_T} {ch : Nat → Nat} {V : List Nat} {X : Nat → Int32} {sp ru ca : Nat} {R : List Nat} (g : pz_world w h s n D t TX ch V X sp ru ca R) (f : ∀ a, (w ≤ a ∧ a ≤ w + 15) ∨ (51 ≤ a ∧ a ≤ 78) → h' a = h a) (es : ∀ b, b < 2898 → s' b = s b) : pz_world w h' s' n D t TX ch V X sp ru ca R := by
  obtain ⟨g1, g2, g3, g4⟩ := g
  have hn : n ≤ 8 := g1.2.1.2.1.1
  refine ⟨?_, ?_, ?_, ?_⟩
  · exact pz_G1_fr g1 (fun a q1 q2 => f a (by omega)) (fun a q1 q2 => f a (by omega)) (by rw [f _ (by omega)]) (es _ (by omega)) (es _ (by omega)) (fun _ _ _ _ => es _ (by omega)) (fun _ _ _ => es _ (by omega))
  · exact pz_G2_fr hn g2 (fun a q1 q2 => f a (by omega)) (es _ (by omega)) (es _ (by omega)) (es _ (by omega)) (es _ (by omega)) (fun _ _ => es _ (by omega)) (fun _ _ _ _ _ => es _ (by omega))
  · exact pz_G3_fr g3 (by rw [f _ (by omega)]) (by rw [f _ (by omega)]) (by rw [f _ (by omega)]) (es _ (by omega)) (es _ (by omega)) (es _ (by omega))
  · exact pz_G4_fr g4 (by rw [f _ (by omega)]) (by rw [f _ (by omega)]) (es _ (by omega)) (fun _ _ => es _ (by omega))
theorem pz_keep (h : kv_H) (c : pz_c5 h) : pz_op [6] pz_c6 f_X9_keep f_X10_keep h := by
  obtain ⟨n, D, t, TX, ch, V, X, sp, ru, ca, R, w⟩ := c
  have ht := w.1.2.1.2.2.2.1.1
  have e6 : h 79 6 = nI t := w.1.2.2.2.2.2.2
  obtain ⟨h1, x1, x2, x3⟩ := pz_become (w0 := 95) (w := 79) (s0 := h 112) (by omega) (by omega) w (fun _ _ => rfl)
  have l0 : h1 98 8 = nI n := x2.1.1.1
  have m0 : h 112 0 = nI n := w.1.2.1.1.1
  refine ⟨nI n, kv_up h1 0 11 1, pz_st (kv_up (kv_up h1 0 11 1) 111 3 1) 113 0 2898 (fun k => h 112 k), ?_, ?_, ?_, ?_⟩
  · rw [f_X9_keep, x1, pz_b, pz_hl, pz_upne (by omega), l0]
  · have e112 : kv_up (kv_up h1 0 11 1) 111 3 1 112 = h 112 := by rw [pz_upne (by omega), pz_upne (by omega), x3 _ (by omega)]
    rw [f_X10_keep, pz_hl, pz_aside _ _ (by omega), pz_b, e112, pz_stne _ (by omega), e112, m0]
  · right
    refine ⟨?_, ?_, n, D, t, TX, ch, V, X, sp, ru, ca, R, ?_, t, ?_, Nat.le_refl t, ht⟩
    · rw [pz_stne _ (by omega)]; simp (disch := omega) only [pz_upne, pz_upeq, pz_upd, if_neg, if_pos, if_true, if_false]
    · rw [pz_stne _ (by omega)]; simp (disch := omega) only [pz_upne, pz_upeq, pz_upd, if_neg, if_pos, if_true, if_false]
    · refine pz_world_fr x2 ?_ ?_
      · intro a ha; rw [pz_stne _ (by omega)]; simp (disch := omega) only [pz_upne]
      · intro b hb; rw [pz_stin _ (by omega) hb]
    · rw [pz_stne _ (by omega), pz_upne (by omega), pz_upne (by omega), x3 _ (by omega)]; exact e6
  · refine pz_fr_st (pz_fr_up (pz_fr_up ?_ (by decide)) (by decide)) (fun b => by rw [pz_reg6 (by omega)]; decide)
    intro a b q1 q2
    by_cases z : 95 ≤ a ∧ a ≤ 110
    · exfalso; apply q1; rw [pz_reg6 (by omega)]; decide
    · rw [x3 a (by omega)]
theorem pz_back (h : kv_H) (c5 : pz_c5 h) (c : pz_c6 h) : pz_op [5, 9] (fun g => pz_c5 g ∧ pz_c6 g) f_X9_back f_X10_back h := by
  have c' := c
  rcases c with ⟨i1, i2⟩ | ⟨i1, i2, n, D, t, TX, ch, V, X, sp, ru, ca, R, w, u, u1, u2, u3⟩
  · exact pz_op_same (-1000000002) ⟨c5, c'⟩ (by rw [f_X9_back, i1]; rfl) (by rw [f_X10_back, i2]; rfl)
  have ht := w.1.2.1.2.2.2.1.1
  obtain ⟨h1, x1, x2, x3⟩ := pz_become (w0 := 79) (w := 95) (s0 := h 113) (by omega) (by omega) w (fun _ _ => rfl)
  have l0 : h1 82 8 = nI n := x2.1.1.1
  have m0 : h 113 0 = nI n := w.1.2.1.1.1
  have e113 : h1 113 = h 113 := x3 _ (by omega)
  refine ⟨nI n, h1, pz_st h1 112 0 2898 (fun k => h 113 k), ?_, ?_, ⟨⟨n, D, t, TX, ch, V, X, sp, ru, ca, R, ?_⟩, Or.inr ⟨?_, ?_, n, D, t, TX, ch, V, X, sp, ru, ca, R, ?_, t, ?_, Nat.le_refl t, ht⟩⟩, ?_⟩
  · rw [f_X9_back, i1, if_neg (by decide), x1, pz_b, l0]
  · rw [f_X10_back, x3 111 (by omega), i2, if_neg (by decide), pz_aside _ _ (by omega), pz_b, e113, pz_stin _ (by omega) (by omega), m0]
  · refine pz_world_fr x2 ?_ ?_
    · intro a ha; rw [pz_stne _ (by omega)]
    · intro b hb; rw [pz_stin _ (by omega) hb]
  · rw [pz_stne _ (by omega), x3 _ (by omega)]; exact i1
  · rw [pz_stne _ (by omega), x3 _ (by omega)]; exact i2
  · refine pz_world_fr w ?_ ?_
    · intro a ha; rw [pz_stne _ (by omega), x3 _ (by omega)]
    · intro b hb; rw [pz_stne _ (by omega), e113]
  · rw [pz_stne _ (by omega)]; exact x2.1.2.2.2.2.2.2
  · have rg : ∀ a b, (79 ≤ a ∧ a ≤ 94) ∨ a = 112 → pz_reg a b ∈ [5, 9] := by
      intro a b q
      by_cases z : a = 79 ∧ b = 6
      · rw [z.1, z.2]; decide
      · rw [pz_reg5 q z]; decide
    refine pz_fr_st ?_ (fun b => Or.inl (rg _ _ (by omega)))
    intro a b q1 q2
    by_cases z : 79 ≤ a ∧ a ≤ 94
    · exact absurd (rg a b (Or.inl z)) q1
    · rw [x3 a (by omega)]

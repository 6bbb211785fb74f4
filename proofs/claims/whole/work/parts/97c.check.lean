/-! PURE PART: check, the call -/
theorem pz_check (x : Int32) (h : kv_H) (c1 : pz_c1 h) (c6 : pz_c6 h) : pz_op [1] pz_c1 (f_X9_check x) (f_X10_check x) h := by
  obtain ⟨k0, hk, a1, a2, a3⟩ := c1
  obtain ⟨p, ep⟩ : ∃ p, p = kv_up h 0 10 0 := ⟨_, rfl⟩
  have fp : ∀ a, a ≠ 0 → p a = h a := fun a q => by rw [ep]; exact pz_upne q
  have p10 : p 0 10 = 0 := by rw [ep, pz_upeq, pz_upd, if_pos rfl]
  have fp0 : ∀ b, b ≠ 10 → p 0 b = h 0 b := fun b q => by rw [ep, pz_upeq, pz_upd, if_neg q]
  -- an answer with no more than the row forgotten
  have early : ∀ r : Int32, f_X9_check x h = some (r, p) → f_X10_check x p = some (r, kv_up p 111 36 0) → pz_op [1] pz_c1 (f_X9_check x) (f_X10_check x) h := by
    intro r e1 e2
    refine ⟨r, p, kv_up p 111 36 0, e1, e2, ⟨0, by omega, ?_, ?_, fun j hj => absurd hj (by omega)⟩, ?_⟩
    · rw [pz_upne (by omega)]; exact p10
    · rw [pz_upeq, pz_upd, if_pos rfl]; rfl
    · rw [ep]; exact pz_fr_up (pz_fr_up (pz_fr_refl _ h) (by simp [pz_reg])) (by simp [pz_reg])
  obtain ⟨m, em⟩ : ∃ m, m = fun g : kv_H => kv_up g 111 36 0 := ⟨_, rfl⟩
  have b2 : p 111 36 = nI k0 := by rw [fp 111 (by omega)]; exact a2
  rcases pz_rng x 1 30 (by omega) with q | ⟨y, s1, s2, rfl⟩
  · refine early (-1000000001) ?_ ?_
    · rw [f_X9_check, pz_vl, pz_hl, ← ep]; exact pz_rng9 q _ _
    · rw [f_X10_check, pz_vl, pz_hl, pz_in_1_30, if_pos (show x < 1 ∨ 30 < x from q)]; rfl
  have A9 : f_X9_check (nI y) h = (if (p 0 11) = 0 then (some ((-1000000002), p))
      else (if (1 : Int32) ≤ (p 98 8) then (kv_b (f_X0_becomes 6 107 p) (fun _ h4 =>
          f_X9_check_L73 (nI y) (nI k0) (p 98 8) kv_fu 0 h4 (fun  h14 =>
          if (nI k0) ≤ (2 * nI y) then (some (0, h14))
            else (some ((1 + (2 * nI y)), h14)))))
        else (some ((-1000000002), p)))) := by
    rw [f_X9_check, pz_vl, pz_hl, ← ep, a1]
    exact (pz_rng9G s1 s2 (by omega) _ _).trans rfl
  have A10 : ∀ g : kv_H, g 111 36 = nI k0 → f_X10_check (nI y) g = (if (kv_up g 111 36 0 111 3) = 0 then (some ((-1000000002), kv_up g 111 36 0))
    else (if (kv_up g 111 36 0 113 0) = 0 then (some ((-1000000002), kv_up g 111 36 0))
      else (kv_b (f_X10_setAside 112 3098 114 3098 (kv_up g 111 36 0)) (fun _ h5 =>
        kv_b (f_X10_setAside 113 3098 112 3098 h5) (fun _ h6 =>
        kv_b (f_X10_knows h6) (fun _ h7 =>
        f_X10_check_L74 (nI y) (nI k0) kv_fu 0 h7 (fun  h19 =>
        kv_b (f_X10_setAside 114 3098 112 3098 h19) (fun _ h20 =>
          f_X10_check_L154 (nI y) (nI k0) kv_fu 0 h20 (fun z21 h22 =>
          kv_jn (fun  (h23 : kv_H) =>
            some ((1 + z21), h23)) (fun (J203 : kv_H → Option (Int32 × kv_H)) =>
            if z21 = nI k0 then (if z21 = (2 * nI y) then (some (0, h22))
              else (J203 h22))
            else (J203 h22))))))))))) := by
    intro g eg
    rw [f_X10_check, eg, pz_vl, pz_hl, pz_in_1_30G s1 (by omega), pz_b, if_neg (by decide)]
  have u3 : ∀ g : kv_H, kv_up g 111 36 0 111 3 = g 111 3 := fun g => by rw [pz_upeq, pz_upd, if_neg (by omega)]
  rcases c6 with ⟨i1, i2⟩ | ⟨i1, i2, n, D, t, TX, ch, V, X, sp, ru, ca, R, ⟨g1, ⟨cc, cm, cb⟩, g3, g4⟩, u, u1, u2, u4⟩
  · refine early (-1000000002) ?_ ?_
    · rw [A9, fp0 11 (by omega), i1, if_pos rfl]
    · rw [A10 p b2, u3, fp 111 (by omega), i2, if_pos rfl]
  have hn := g1.2.1.2.1.1
  have ht := g1.2.1.2.2.2.1.1
  have l9 : h 98 8 = nI n := g1.1.1
  have l10 : h 113 0 = nI n := g1.2.1.1.1
  by_cases n0 : n = 0
  · refine early (-1000000002) ?_ ?_
    · rw [A9, fp0 11 (by omega), i1, if_neg (by decide), fp 98 (by omega), l9, n0, if_neg (by decide)]
    · rw [A10 p b2, u3, fp 111 (by omega), i2, if_neg (by decide), pz_upne (by omega), fp 113 (by omega), l10, n0, if_pos (show nI 0 = (0 : Int32) from rfl)]
  have n1 : 0 < n := by omega
  have vl := pz_vlen cb hn
  have cc : pz_CC h 107 V X := cc
  obtain ⟨e9, eb⟩ := pz_toE9 g1 g3
  obtain ⟨k, kk1, kk2, kk3⟩ := pz_course (h := p) (c0 := 6) (c := 107) (by omega) vl (pz_CC_fr cc (fun a q1 q2 => fp a (by omega)))
  have fk : ∀ a, a ≠ 0 → (a < 6 ∨ 9 < a) → k a = h a := fun a q1 q2 => (kk3 a (by omega)).trans (fp a q1)
  obtain ⟨J, h1, j1, j2, j3⟩ := pz_check9 (k0 := k0) (x := y) (s := (V, X)) (w := h 5) eb n1 hk s2 cb y 0 k kv_fu (by omega) (by rw [show kv_fu = 5000 from rfl]; omega) (fun j hj => absurd hj (by omega)) (fk 5 (by omega) (by omega)) (pz_E9_fr e9 ht (fun a q1 q2 => fk a (by omega) (by omega)) (fun a q1 q2 => fk a (by omega) (by omega))) kk2
  have f1 : ∀ a, a ≠ 0 → ¬ pz_sc a → h1 a = h a := fun a q1 q2 => by
    unfold pz_sc at q2
    rw [j3 a (by omega) (by omega) (by omega), fk a q1 (by omega)]
  have f10 : h1 0 = p 0 := by rw [j3 0 (by omega) (by omega) (by omega), kk3 0 (by omega)]
  obtain ⟨g, eg⟩ : ∃ g, g = kv_up h1 111 36 0 := ⟨_, rfl⟩
  have fg : ∀ a, a ≠ 111 → g a = h1 a := fun a q => by rw [eg]; exact pz_upne q
  obtain ⟨m5, em5⟩ : ∃ m5, m5 = pz_st g 114 0 2898 (fun k => g 112 k) := ⟨_, rfl⟩
  obtain ⟨m6, em6⟩ : ∃ m6, m6 = pz_st m5 112 0 2898 (fun k => m5 113 k) := ⟨_, rfl⟩
  have f6 : ∀ a, a ≠ 112 → a ≠ 114 → m6 a = g a := fun a q1 q2 => by rw [em6, pz_stne m5 q1, em5, pz_stne g q2]
  have f6s : ∀ b, b < 2898 → m6 112 b = h 113 b := fun b q => by
    rw [em6, pz_stin m5 (Nat.zero_le b) q, em5, pz_stne g (by omega), fg 113 (by omega), f1 113 (by omega) (by unfold pz_sc; omega)]
  have f6t : ∀ b, 2898 ≤ b → m6 112 b = h 112 b := fun b q => by
    rw [em6, pz_stout m5 (by omega), em5, pz_stne g (by omega), fg 112 (by omega), f1 112 (by omega) (by unfold pz_sc; omega)]
  have f614 : ∀ b, b < 2898 → m6 114 b = h 112 b := fun b q => by
    rw [em6, pz_stne m5 (by omega), em5, pz_stin g (Nat.zero_le b) q, fg 112 (by omega), f1 112 (by omega) (by unfold pz_sc; omega)]
  obtain ⟨m7, x1, x2, x3, x4⟩ := pz_toE10 (h := m6) (sp := sp) (ru := ru) (ca := ca) (pz_M_fr g1.2.1 (f6s _ (by omega)) (f6s _ (by omega)) (fun i j q1 q2 => f6s _ (by omega)) (fun b q1 q2 => f6s _ (by omega))) (by rw [f6s _ (by omega)]; exact g3.2.2.2.1) (by rw [f6s _ (by omega)]; exact g3.2.2.2.2.1) (by rw [f6s _ (by omega)]; exact g3.2.2.2.2.2.1)
  have cm7 : pz_CM (m7 112) n V X := by
    rw [x3]
    exact (pz_G2_fr (w := 95) (h' := h) (s' := m6 112) hn ⟨cc, cm, cb⟩ (fun _ _ _ => rfl) (f6s _ (by omega)) (f6s _ (by omega)) (f6s _ (by omega)) (f6s _ (by omega)) (fun i q => f6s _ (by omega)) (fun i j q1 q2 q3 => f6s _ (by omega))).2.1
  obtain ⟨m19, y1, y2, y3, y4⟩ := pz_check10 (x := y) (s := (V, X)) eb.2.2.2.1 eb.2.2.2.2.1 eb.2.2.2.2.2 n1 s2 cb (nI k0) (fun h19 => kv_b (f_X10_setAside 114 3098 112 3098 h19) (fun _ h20 =>
          f_X10_check_L154 (nI y) (nI k0) kv_fu 0 h20 (fun z21 h22 =>
          kv_jn (fun  (h23 : kv_H) =>
            some ((1 + z21), h23)) (fun (J203 : kv_H → Option (Int32 × kv_H)) =>
            if z21 = nI k0 then (if z21 = (2 * nI y) then (some (0, h22))
              else (J203 h22))
            else (J203 h22))))) y 0 m7 kv_fu (by omega) (by rw [show kv_fu = 5000 from rfl]; omega) (fun j hj => absurd hj (by omega)) x2 cm7
  obtain ⟨m20, em20⟩ : ∃ m20, m20 = pz_st m19 112 0 2898 (fun k => m19 114 k) := ⟨_, rfl⟩
  have f20 : ∀ a, a ≠ 112 → ¬ pz_sc a → m20 a = g a := fun a q1 q2 => by
    have q2' := q2
    unfold pz_sc at q2
    rw [em20, pz_stne m19 q1, y3 a (by omega) (by omega) q1 (by omega), x4 a q2', f6 a q1 (by omega)]
  have f2012 : m20 112 = h 112 := by
    funext b
    by_cases q : b < 2898
    · rw [em20, pz_stin m19 (Nat.zero_le b) q, y3 114 (by omega) (by omega) (by omega) (by omega)]
      have : m7 114 = m6 114 := by
        obtain ⟨m7', z1, z2, z3⟩ := pz_knows (h := m6) (pz_M_fr g1.2.1 (f6s _ (by omega)) (f6s _ (by omega)) (fun i j q1 q2 => f6s _ (by omega)) (fun b q1 q2 => f6s _ (by omega)))
        rw [x1] at z1
        have e : m7 = m7' := (Prod.mk.inj (Option.some.inj z1)).2
        rw [e]; exact z3 114 (by omega) (by omega) (by omega) (by omega)
      rw [this, f614 b q]
    · rw [em20, pz_stout m19 (by omega), y4 b (by unfold pz_sb; omega), x3, f6t b (by omega)]
  have m20_135 : m20 135 = m19 135 := by rw [em20, pz_stne m19 (by omega)]
  have jk : J ≤ 2 * y := j1.1
  have cmp := pz_cmp10 (k0 := k0) (x := y) (J := J) (h := m20) (w := h 5) s2 hk (fun j hj => by rw [f20 134 (by omega) (by unfold pz_sc; omega), fg 134 (by omega), f1 134 (by omega) (by unfold pz_sc; omega)]; exact (a3 j hj).symm) (fun j hj => by rw [m20_135]; exact y2 j hj) j1
  refine ⟨pz_resJ k0 y J, h1, m20, ?_, ?_, ⟨0, by omega, ?_, ?_, fun j hj => absurd hj (by omega)⟩, ?_⟩
  · rw [A9, fp0 11 (by omega), i1, if_neg (by decide), fp 98 (by omega), l9, if_pos (show (1 : Int32) ≤ nI n from nI_le (a := 1) n1 (by omega)), kk1, pz_b]; exact j2
  · rw [A10 h1 (by rw [f1 111 (by omega) (by unfold pz_sc; omega)]; exact a2), u3, f1 111 (by omega) (by unfold pz_sc; omega), i2, if_neg (by decide), pz_upne (by omega), f1 113 (by omega) (by unfold pz_sc; omega), l10, if_neg (show ¬ nI n = (0 : Int32) from fun z => n0 ((nI_eq (b := 0) (by omega) (by omega)).mp z)), ← eg, pz_aside 112 114 (by omega), pz_b, ← em5, pz_aside 113 112 (by omega), pz_b, ← em6, x1, pz_b]
    refine y1.trans ?_
    rw [pz_aside 114 112 (by omega), pz_b, ← em20, cmp, pz_jn]
    unfold pz_resJ
    rw [show (2 : Int32) * nI y = nI (2 * y) from pz_mul 2 y, show (1 : Int32) + nI J = nI (1 + J) from pz_add 1 J]
    by_cases z : J = 2 * y ∧ k0 = 2 * y
    · rw [if_pos z, if_pos (by rw [z.1, z.2]), if_pos (by rw [z.1])]
    · rw [if_neg z]
      by_cases z1 : J = k0
      · rw [if_pos (by rw [z1]), if_neg (fun q => z (by have := (nI_eq (by omega) (by omega)).mp q; omega))]
      · rw [if_neg (fun q => z1 ((nI_eq (by omega) (by omega)).mp q))]
  · rw [f20 0 (by omega) (by unfold pz_sc; omega), fg 0 (by omega), f10]; exact p10
  · rw [f20 111 (by omega) (by unfold pz_sc; omega), eg, pz_upeq, pz_upd, if_pos rfl]; rfl
  · intro a b q1 q2
    by_cases z : pz_sc a
    · exact absurd (pz_scR z) q2
    · by_cases z0 : a = 0
      · subst z0
        have hb : b ≠ 10 := fun y => q1 (by rw [y]; decide)
        rw [f20 0 (by omega) z, fg 0 (by omega), f10]; exact fp0 b hb
      · by_cases z1 : a = 111
        · subst z1
          have hb : b ≠ 36 := fun y => q1 (by rw [y]; decide)
          rw [f20 111 (by omega) z, eg, pz_upeq, pz_upd, if_neg hb, f1 111 (by omega) z]
        · by_cases z2 : a = 112
          · rw [z2, f2012]
          · rw [f20 a z2 z, fg a z1, f1 a z0 z]

/-! PURE PART: text, the call -/
theorem pz_lenLt {α : Type} {S : List α} {i : Nat} {t : α} (h : S[i]? = some t) : i < S.length := by
  obtain ⟨q, _⟩ := List.getElem?_eq_some_iff.mp h; exact q
theorem pz_M_fr2 {s s' : Nat → Int32} {n : Nat} {D : Nat → Nat → Nat} {t : Nat} {TX : Nat → pz_T} (g : pz_M s n D t TX) (f0 : s' 0 = s 0) (f1 : s' 1 = s 1) (f2 : ∀ i j, i < 8 → j < 5 → s' (10 + 7 * i + j) = s (10 + 7 * i + j)) (f3 : ∀ b, 98 ≤ b → b < 98 + 200 * t → s' b = s b) : pz_M s' n D t TX := by
  obtain ⟨⟨l0, l1⟩, b, tm, tb, e⟩ := g
  have hn := b.1
  have ht := tb.1
  refine ⟨⟨f0.trans l0, ?_⟩, b, ?_, tb, f1.trans e⟩
  · intro i hi
    have := l1 i hi
    rw [show 10 + 7 * i = 10 + 7 * i + 0 from rfl, f2 i 0 (by omega) (by omega), show 11 + 7 * i = 10 + 7 * i + 1 from by omega, f2 i 1 (by omega) (by omega), show 12 + 7 * i = 10 + 7 * i + 2 from by omega, f2 i 2 (by omega) (by omega), show 13 + 7 * i = 10 + 7 * i + 3 from by omega, f2 i 3 (by omega) (by omega), show 14 + 7 * i = 10 + 7 * i + 4 from by omega, f2 i 4 (by omega) (by omega)]
    rw [show 11 + 7 * i = 10 + 7 * i + 1 from by omega, show 12 + 7 * i = 10 + 7 * i + 2 from by omega, show 13 + 7 * i = 10 + 7 * i + 3 from by omega, show 14 + 7 * i = 10 + 7 * i + 4 from by omega] at this
    exact this
  · intro i hi
    obtain ⟨a1, a2, a3, a4⟩ := tm i hi
    refine ⟨?_, ?_, ?_, ?_⟩
    · rw [f3 _ (by omega) (by omega)]; exact a1
    · rw [f3 _ (by omega) (by omega)]; exact a2
    · rw [f3 _ (by omega) (by omega)]; exact a3
    · intro k st hk
      have kl := pz_lenLt hk
      have lb := (tb.2 i hi).2.2.1
      rw [f3 _ (by omega) (by omega), f3 _ (by omega) (by omega)]; exact a4 k st hk
theorem pz_lawC {TX TX' : Nat → pz_T} (key : Nat) : ∀ t, (∀ i, i < t → TX' i = TX i) → pz_law TX' t key = pz_law TX t key := by
  intro t
  induction t with
  | zero => intro _; rfl
  | succ t ih => intro h; rw [pz_law, pz_law, h t (by omega), ih (fun i hi => h i (by omega))]
theorem pz_text (h : kv_H) (c2 : pz_c2 h) (c5 : pz_c5 h) (c6 : pz_c6 h) : pz_op [2, 5, 8, 9] (fun g => pz_c2 g ∧ pz_c5 g ∧ pz_c6 g) f_X9_text f_X10_text h := by
  obtain ⟨len, B, hl, l1, l2, l3⟩ := c2
  obtain ⟨n, D, t, TX, ch, V, X, sp, ru, ca, R, g1, g2, g3, g4⟩ := c5
  have hn := g1.2.1.2.1.1
  have tb := g1.2.1.2.2.2.1
  have ht := tb.1
  have t9 : h 79 6 = nI t := g1.2.2.2.2.2.2
  have t10 : h 112 1 = nI t := g1.2.1.2.2.2.2
  have hB : ∀ k, k < len → B k < 256 := fun k hk => (l3 k hk).1
  obtain ⟨h1, c, p1, pf, pA, pB⟩ := pz_prs9 (h := h) ⟨l1, fun k hk => (l3 k hk).2.1⟩ hl hB
  obtain ⟨g, eg⟩ : ∃ g, g = kv_up h1 41 1 0 := ⟨_, rfl⟩
  have fg : ∀ a, a ≠ 41 → a ≠ 43 → g a = h a := fun a q1 q2 => by rw [eg, pz_upne q1, pf a q1 q2]
  have g41 : g 41 1 = 0 := by rw [eg, pz_upeq, pz_upd, if_pos rfl]
  have fg41 : ∀ b, b ≠ 1 → g 41 b = h1 41 b := fun b q => by rw [eg, pz_upeq, pz_upd, if_neg q]
  have g43 : g 43 = h1 43 := by rw [eg, pz_upne (by omega)]
  have A9 : f_X9_text h = (if c < 0 then (if (g 79 6) < (14 : Int32) then (kv_vl (g 79 6) (fun e4 =>
      kv_k e4 14 (kv_b (f_X6_becomes (51 + 2 * e4.toNatClampNeg) g) (fun _ h6 =>
      kv_k (h6 41 4) 3 (kv_hl (kv_up h6 81 (h6 41 4).toNatClampNeg e4) (fun h7 =>
      kv_hl (kv_up h7 79 6 (e4 + 1)) (fun h8 =>
      kv_b (f_X8_weighAll 79 h8) (fun _ h9 =>
      some (e4, h9)))))))))
    else (some ((-1000000003), g)))
  else (some (((-100) - c), g))) := by
    rw [f_X9_text, p1, pz_b, pz_hl, ← eg]
  obtain ⟨base, eb⟩ : ∃ base, base = (if t = 14 then 2898 else 102 + 200 * t) := ⟨_, rfl⟩
  have bb : 98 + 200 * t ≤ base ∧ base ≤ 2898 := by rw [eb]; split <;> omega
  -- what the reference's reading leaves, behind any heap like g
  have prs : ∀ k : kv_H, k 112 = h 112 → k 111 = h 111 → k 130 = h 130 → ∃ h2 c', f_X10_parse k = some (c', h2) ∧ h2 111 21 = 0 ∧ (∀ a, a ≠ 111 → a ≠ 112 → h2 a = k a) ∧ (∀ b, b < 21 ∨ 31 < b → h2 111 b = k 111 b) ∧ (∀ b, b < base ∨ base + 200 ≤ b → h2 112 b = k 112 b) ∧ (pz_ky B (pz_τ1 B len) = none → c' = -1 ∧ h2 111 22 = nI (pz_τ1 B len).2.1) ∧ ∀ key, pz_ky B (pz_τ1 B len) = some key → (((pz_rr B len key).1 = true ∧ (pz_rr B len key).2.1.1 = 0) → c' = nI key ∧ h2 111 29 = nI (pz_rr B len key).2.2.1.length ∧ h2 111 31 = nI (pz_rr B len key).2.2.2 ∧ ∀ i st, (pz_rr B len key).2.2.1[i]? = some st → h2 112 (base + 2 * i) = nI st.1 ∧ h2 112 (base + 2 * i + 1) = nI (pz_mv key st)) ∧ (¬ ((pz_rr B len key).1 = true ∧ (pz_rr B len key).2.1.1 = 0) → c' = -1 ∧ h2 111 22 = nI (pz_rr B len key).2.1.2.1) := by
    intro k q1 q2 q3
    have := pz_prs10 (h := k) (len := len) (t := t) (B := B) ⟨by rw [q2]; exact l2, fun j hj => by rw [q3]; exact (l3 j hj).2.2⟩ hl hB ht (by rw [q1]; exact t10)
    rw [← eb] at this
    exact this
  have gk : g 112 = h 112 ∧ g 111 = h 111 ∧ g 130 = h 130 := ⟨fg 112 (by omega) (by omega), fg 111 (by omega) (by omega), fg 130 (by omega) (by omega)⟩
  -- no text is stored
  have plain : ∀ (r : Int32) (h2 : kv_H), f_X9_text h = some (r, g) → f_X10_text g = some (r, h2) → h2 111 21 = 0 → (∀ a, a ≠ 111 → a ≠ 112 → h2 a = g a) → (∀ b, b < 21 ∨ 31 < b → h2 111 b = g 111 b) → (∀ b, b < base ∨ base + 200 ≤ b → h2 112 b = g 112 b) → pz_op [2, 5, 8, 9] (fun g => pz_c2 g ∧ pz_c5 g ∧ pz_c6 g) f_X9_text f_X10_text h := by
    intro r h2 e1 e2 e3 e4 e5 e6
    have fa : ∀ a, a ≠ 41 → a ≠ 43 → a ≠ 111 → a ≠ 112 → h2 a = h a := fun a q1 q2 q3 q4 => by rw [e4 a q3 q4, fg a q1 q2]
    have fs : ∀ b, b < base ∨ base + 200 ≤ b → h2 112 b = h 112 b := fun b q => by rw [e6 b q, gk.1]
    have f111 : ∀ b, b < 21 ∨ 31 < b → h2 111 b = h 111 b := fun b q => by rw [e5 b q, gk.2.1]
    refine ⟨r, g, h2, e1, e2, ⟨⟨0, B, by omega, ?_, e3, fun k hk => absurd hk (by omega)⟩, ⟨n, D, t, TX, ch, V, X, sp, ru, ca, R, ?_, ?_, ?_, ?_⟩, ?_⟩, ?_⟩
    · rw [e4 41 (by omega) (by omega)]; exact g41
    · obtain ⟨lc, m, lx, cc', tc, lw, e⟩ := g1
      refine ⟨⟨by rw [fa _ (by omega) (by omega) (by omega) (by omega)]; exact lc.1, fun i hi => ?_⟩, pz_M_fr2 m (fs _ (by omega)) (fs _ (by omega)) (fun i j q1 q2 => fs _ (by omega)) (fun b q1 q2 => fs _ (by omega)), fun i hi => ?_, cc', fun i hi => ?_, fun k hk => ?_, by rw [fa 79 (by omega) (by omega) (by omega) (by omega)]; exact e⟩
      · rw [fa _ (by omega) (by omega) (by omega) (by omega), fa _ (by omega) (by omega) (by omega) (by omega), fa _ (by omega) (by omega) (by omega) (by omega), fa _ (by omega) (by omega) (by omega) (by omega), fa _ (by omega) (by omega) (by omega) (by omega)]; exact lc.2 i hi
      · rw [fa _ (by omega) (by omega) (by omega) (by omega), fa _ (by omega) (by omega) (by omega) (by omega), fa _ (by omega) (by omega) (by omega) (by omega)]; exact lx i hi
      · rw [fa _ (by omega) (by omega) (by omega) (by omega), fa _ (by omega) (by omega) (by omega) (by omega)]; exact tc i hi
      · rw [fa _ (by omega) (by omega) (by omega) (by omega)]; exact lw k hk
    · exact pz_G2_fr hn g2 (fun a q1 q2 => fa a (by omega) (by omega) (by omega) (by omega)) (fs _ (by omega)) (fs _ (by omega)) (fs _ (by omega)) (fs _ (by omega)) (fun i q => fs _ (by omega)) (fun i j q1 q2 q3 => fs _ (by omega))
    · exact pz_G3_fr g3 (by rw [fa 79 (by omega) (by omega) (by omega) (by omega)]) (by rw [fa 79 (by omega) (by omega) (by omega) (by omega)]) (by rw [fa 79 (by omega) (by omega) (by omega) (by omega)]) (fs _ (by omega)) (fs _ (by omega)) (fs _ (by omega))
    · exact pz_G4_fr g4 (by rw [fa 79 (by omega) (by omega) (by omega) (by omega)]) (fa _ (by omega) (by omega) (by omega) (by omega)) (fs _ (by omega)) (fun i _ => fs _ (by omega))
    · refine pz_c6_fr c6 (fun a b q => ?_)
      by_cases w : a = 111
      · subst w
        refine f111 b ?_
        apply Classical.byContradiction
        intro v
        have : pz_reg 111 b = 2 := by unfold pz_reg; rw [if_neg (by omega), if_neg (by omega), if_pos rfl, if_neg (by omega), if_neg (by omega), if_neg (by omega)]
        omega
      · by_cases w2 : a = 41 ∨ a = 43
        · exfalso
          have : pz_reg a b = 2 := by unfold pz_reg; rw [if_neg (by omega), if_neg (by omega), if_neg (by omega), if_pos (by omega)]
          omega
        · by_cases w3 : a = 112
          · exfalso; rw [w3, pz_reg5 (by omega) (by omega)] at q; omega
          · rw [fa a (by omega) (by omega) w w3]
    · intro a b q1 q2
      by_cases w : a = 111
      · subst w
        refine f111 b ?_
        apply Classical.byContradiction
        intro v
        exact q1 (by rw [show pz_reg 111 b = 2 by unfold pz_reg; rw [if_neg (by omega), if_neg (by omega), if_pos rfl, if_neg (by omega), if_neg (by omega), if_neg (by omega)]]; decide)
      · by_cases w2 : a = 41 ∨ a = 43
        · exact absurd (show pz_reg a b ∈ [2, 5, 8, 9] by rw [show pz_reg a b = 2 by unfold pz_reg; rw [if_neg (by omega), if_neg (by omega), if_neg (by omega), if_pos (by omega)]]; decide) q1
        · by_cases w3 : a = 112
          · exact absurd (show pz_reg a b ∈ [2, 5, 8, 9] by rw [w3, pz_reg5 (by omega) (by omega)]; decide) q1
          · rw [fa a (by omega) (by omega) w w3]
  have failed : ∀ a : Nat, a ≤ 96 → c = nI a → (∃ h2, f_X10_parse g = some (-1, h2) ∧ h2 111 22 = nI a ∧ h2 111 21 = 0 ∧ (∀ a, a ≠ 111 → a ≠ 112 → h2 a = g a) ∧ (∀ b, b < 21 ∨ 31 < b → h2 111 b = g 111 b) ∧ (∀ b, b < base ∨ base + 200 ≤ b → h2 112 b = g 112 b)) → pz_op [2, 5, 8, 9] (fun g => pz_c2 g ∧ pz_c5 g ∧ pz_c6 g) f_X9_text f_X10_text h := by
    intro a ha ec ⟨h2, x1, x2, x3, x4, x5, x6⟩
    refine plain ((-100) - nI a) h2 ?_ ?_ x3 x4 x5 x6
    · rw [A9, ec, if_neg (pz_ng (by omega))]
    · rw [f_X10_text, x1, pz_b, if_neg (by decide), x2]
  obtain ⟨h2, c', x1, x2, x3, x4, x5, xA, xB⟩ := prs g gk.1 gk.2.1 gk.2.2
  cases hky : pz_ky B (pz_τ1 B len) with
  | none =>
    obtain ⟨a1, a2⟩ := xA hky
    rw [a1] at x1
    have := (pz_nxV B (len := len) (s := 3) (e := 0) (Nat.zero_le _)).1
    have b1 : (pz_τ1 B len).2.1 ≤ (pz_τ1 B len).2.2 := this.2.1
    have b2 : (pz_τ1 B len).2.2 ≤ len := this.2.2.1
    exact failed (pz_τ1 B len).2.1 (by omega) (pA hky) ⟨h2, x1, a2, x2, x3, x4, x5⟩
  | some key =>
    have kb := pz_kyB hky
    have tv1 : pz_tv B len (pz_τ1 B len) := (pz_nxV B (len := len) (s := 3) (e := 0) (Nat.zero_le _)).1
    have fv := pz_fwV (σ := (pz_τ1 B len, [], 0)) tv1 (by show ¬ (pz_τ1 B len).1 = 0; omega)
    have rb : pz_rb B len key (pz_σ0 B len) (pz_rr B len key) := pz_rbP kb.1 hB 62 0 0 0 (pz_σ0 B len) fv.1
    have r1 := rb.1.2.1
    have r2 := rb.1.2.2.1
    by_cases ok : (pz_rr B len key).1 = true ∧ (pz_rr B len key).2.1.1 = 0
    · obtain ⟨ec, o9⟩ := (pB key hky).1 ok
      obtain ⟨d1, d2, d3, d4⟩ := (xB key hky).1 ok
      rw [d1] at x1
      by_cases full : t = 14
      · refine plain (-1000000003) h2 ?_ ?_ x2 x3 x4 x5
        · rw [A9, ec, if_pos (by decide), fg 79 (by omega) (by omega), t9, full, if_neg (by decide)]
        · rw [f_X10_text, x1, pz_b, if_pos (pz_g0 (by omega)), x5 1 (by omega), gk.1, t10, full, if_pos (by decide)]
      -- a text is stored
      have t14 : t < 14 := by omega
      have base' : base = 102 + 200 * t := by rw [eb, if_neg full]
      obtain ⟨S, eS⟩ : ∃ S, S = (pz_rr B len key).2.2.1 := ⟨_, rfl⟩
      obtain ⟨gv, egv⟩ : ∃ gv, gv = (pz_rr B len key).2.2.2 := ⟨_, rfl⟩
      have S96 : S.length ≤ 96 ∧ gv ≤ 96 := by
        have a1 := rb.2.2.1
        have a2 := rb.2.2.2.1
        have e0 : (pz_σ0 B len).2.1.length = 0 := rfl
        have e00 : (pz_σ0 B len).2.2 = 0 := rfl
        rw [eS, egv]; omega
      have va : pz_va (pz_nk key) S 0 := by
        obtain ⟨_, E, e1, e2⟩ := rb.2.2.2.2 ok.1
        have := e2 [] 0 rfl
        rw [List.append_nil] at this
        rw [eS, e1]; exact this
      rw [← eS] at d2 d4
      rw [← egv] at d3
      have o3 : h1 41 3 = nI S.length ∧ ∀ i st, S[i]? = some st → h1 43 i = nI (pz_enc st) := by rw [eS]; exact o9.2.2.1
      have o5 : h1 41 5 = nI gv := by rw [egv]; exact o9.2.2.2.1
      have o4 : h1 41 4 = nI key := o9.2.2.2.2.2
      obtain ⟨TX', eTX⟩ : ∃ TX' : Nat → pz_T, TX' = fun i => if i = t then (key, gv, S) else TX i := ⟨_, rfl⟩
      have TXl : ∀ i, i < t → TX' i = TX i := fun i hi => by rw [eTX]; exact if_neg (by omega)
      have TXt : TX' t = (key, gv, S) := by rw [eTX]; exact if_pos rfl
      -- the class's writes
      obtain ⟨k, ek⟩ : ∃ k, k = kv_up (kv_up (kv_up (kv_up (kv_up (kv_row g (52 + 2 * t) (va_cpy (g 43) (g (52 + 2 * t)) 0 0 96)) (51 + 2 * t) 1 (nI S.length)) (51 + 2 * t) 2 (nI key)) (51 + 2 * t) 3 (nI gv)) 81 key (nI t)) 79 6 (nI (t + 1)) := ⟨_, rfl⟩
      have ka : ∀ a, a ≠ 41 → a ≠ 43 → a ≠ 51 + 2 * t → a ≠ 52 + 2 * t → a ≠ 81 → a ≠ 79 → k a = h a := fun a q1 q2 q3 q4 q5 q6 => by rw [ek, pz_upne q6, pz_upne q5, pz_upne q3, pz_upne q3, pz_upne q3, pz_rowne g q4, fg a q1 q2]
      have kg : ∀ a, a ≠ 51 + 2 * t → a ≠ 52 + 2 * t → a ≠ 81 → a ≠ 79 → k a = g a := fun a q3 q4 q5 q6 => by rw [ek, pz_upne q6, pz_upne q5, pz_upne q3, pz_upne q3, pz_upne q3, pz_rowne g q4]
      have k79 : ∀ b, b ≠ 6 → k 79 b = h 79 b := fun b q => by rw [ek, pz_upeq, pz_upd, if_neg q, pz_upne (by omega), pz_upne (by omega), pz_upne (by omega), pz_upne (by omega), pz_rowne g (by omega), fg 79 (by omega) (by omega)]
      have k796 : k 79 6 = nI (t + 1) := by rw [ek, pz_upeq, pz_upd, if_pos rfl]
      have k81 : ∀ b, k 81 b = if b = key then nI t else h 81 b := fun b => by rw [ek, pz_upne (by omega), pz_upeq, pz_upd, pz_upne (by omega), pz_upne (by omega), pz_upne (by omega), pz_rowne g (by omega), fg 81 (by omega) (by omega)]
      have k51 : k (51 + 2 * t) 1 = nI S.length ∧ k (51 + 2 * t) 2 = nI key ∧ k (51 + 2 * t) 3 = nI gv := by
        refine ⟨?_, ?_, ?_⟩ <;> rw [ek, pz_upne (by omega), pz_upne (by omega)] <;> simp (disch := omega) only [pz_upne, pz_upeq, pz_upd, if_neg, if_pos, if_true, if_false]
      have k52 : ∀ i, i < 96 → k (52 + 2 * t) i = h1 43 i := fun i hi => by rw [ek, pz_upne (by omega), pz_upne (by omega), pz_upne (by omega), pz_upne (by omega), pz_upne (by omega), pz_roweq, pz_cpy0 hi, g43]
      obtain ⟨lc, m, lx, chh, tc, lw, e6⟩ := g1
      have lck : pz_LC k 82 n D := ⟨by rw [ka _ (by omega) (by omega) (by omega) (by omega) (by omega) (by omega)]; exact lc.1, fun i hi => by
        rw [ka _ (by omega) (by omega) (by omega) (by omega) (by omega) (by omega), ka _ (by omega) (by omega) (by omega) (by omega) (by omega) (by omega), ka _ (by omega) (by omega) (by omega) (by omega) (by omega) (by omega), ka _ (by omega) (by omega) (by omega) (by omega) (by omega) (by omega), ka _ (by omega) (by omega) (by omega) (by omega) (by omega) (by omega)]; exact lc.2 i hi⟩
      have tck : pz_TC k (t + 1) TX' := by
        intro i hi
        by_cases z : i = t
        · subst z
          rw [TXt]
          refine ⟨k51.1, k51.2.1, k51.2.2, fun j st hj => ?_⟩
          have jl := pz_lenLt hj
          rw [k52 j (by have : j < S.length := jl; omega)]; exact o3.2 j st hj
        · rw [TXl i (by omega), ka _ (by omega) (by omega) (by omega) (by omega) (by omega) (by omega), ka _ (by omega) (by omega) (by omega) (by omega) (by omega) (by omega)]; exact tc i (by omega)
      have tbk : pz_TB (t + 1) TX' := by
        refine ⟨by omega, fun i hi => ?_⟩
        by_cases z : i = t
        · subst z
          rw [TXt]
          exact ⟨kb.1, S96.2, S96.1, va⟩
        · rw [TXl i (by omega)]; exact tb.2 i (by omega)
      have lwk : pz_LW k 79 (t + 1) TX' := by
        intro j hj
        have : k (79 + 2) j = k 81 j := rfl
        rw [this, k81, pz_law, TXt, pz_lawC j t TXl]
        by_cases z : j = key
        · rw [if_pos z, if_pos z.symm]; rfl
        · rw [if_neg z, if_neg (fun w => z w.symm)]; exact lw j hj
      obtain ⟨h3, ch', y1, y2, y3, y4, y5, y6, y7⟩ := pz_weighed lck m.2.1 tck tbk lwk
      have f3 : ∀ a, a ≠ 49 → a ≠ 50 → a ≠ 88 → a ≠ 89 → a ≠ 90 → a ≠ 41 → a ≠ 43 → a ≠ 51 + 2 * t → a ≠ 52 + 2 * t → a ≠ 81 → a ≠ 79 → h3 a = h a := fun a q1 q2 q3 q4 q5 q6 q7 q8 q9 q10 q11 => by rw [y7 a q1 q2 q3 q4 q5, ka a q6 q7 q8 q9 q10 q11]
      obtain ⟨w2, w', v1, v2, v3, v4, v5, vA, vB⟩ := prs h3 (f3 112 (by omega) (by omega) (by omega) (by omega) (by omega) (by omega) (by omega) (by omega) (by omega) (by omega) (by omega)) (f3 111 (by omega) (by omega) (by omega) (by omega) (by omega) (by omega) (by omega) (by omega) (by omega) (by omega) (by omega)) (f3 130 (by omega) (by omega) (by omega) (by omega) (by omega) (by omega) (by omega) (by omega) (by omega) (by omega) (by omega))
      obtain ⟨u1, u2, u3, u4⟩ := (vB key hky).1 ok
      rw [u1] at v1
      rw [← eS] at u2 u4
      rw [← egv] at u3
      have w112 : ∀ b, b < base ∨ base + 200 ≤ b → w2 112 b = h 112 b := fun b q => by rw [v5 b q, f3 112 (by omega) (by omega) (by omega) (by omega) (by omega) (by omega) (by omega) (by omega) (by omega) (by omega) (by omega)]
      obtain ⟨f, ef⟩ : ∃ f, f = kv_up (kv_up (kv_up (kv_up w2 112 (98 + 200 * t) (nI key)) 112 (99 + 200 * t) (nI gv)) 112 (100 + 200 * t) (nI S.length)) 112 1 (nI (t + 1)) := ⟨_, rfl⟩
      have fa : ∀ a, a ≠ 112 → f a = w2 a := fun a q => by rw [ef, pz_upne q, pz_upne q, pz_upne q, pz_upne q]
      have fs : ∀ b, b ≠ 98 + 200 * t → b ≠ 99 + 200 * t → b ≠ 100 + 200 * t → b ≠ 1 → f 112 b = w2 112 b := fun b q1 q2 q3 q4 => by rw [ef, pz_upeq, pz_upd, if_neg q4, pz_upeq, pz_upd, if_neg q3, pz_upeq, pz_upd, if_neg q2, pz_upeq, pz_upd, if_neg q1]
      have fsh : ∀ b, b < 98 + 200 * t → b ≠ 1 → f 112 b = h 112 b := fun b q1 q2 => by rw [fs b (by omega) (by omega) (by omega) q2, w112 b (by omega)]
      have f98 : f 112 (98 + 200 * t) = nI key ∧ f 112 (99 + 200 * t) = nI gv ∧ f 112 (100 + 200 * t) = nI S.length ∧ f 112 1 = nI (t + 1) := by
        rw [ef]
        refine ⟨?_, ?_, ?_, ?_⟩ <;> simp (disch := omega) only [pz_upne, pz_upeq, pz_upd, if_neg, if_pos, if_true, if_false]
      have fh3 : ∀ a, a ≠ 111 → a ≠ 112 → f a = h3 a := fun a q1 q2 => by rw [fa a q2, v3 a q1 q2]
      have f111 : ∀ b, b < 21 ∨ 31 < b → f 111 b = h 111 b := fun b q => by rw [fa 111 (by omega), v4 b q, f3 111 (by omega) (by omega) (by omega) (by omega) (by omega) (by omega) (by omega) (by omega) (by omega) (by omega) (by omega)]
      have fh : ∀ a, a ≠ 111 → a ≠ 112 → a ≠ 49 → a ≠ 50 → a ≠ 88 → a ≠ 89 → a ≠ 90 → a ≠ 41 → a ≠ 43 → a ≠ 51 + 2 * t → a ≠ 52 + 2 * t → a ≠ 81 → a ≠ 79 → f a = h a := fun a p1 p2 q1 q2 q3 q4 q5 q6 q7 q8 q9 q10 q11 => by rw [fh3 a p1 p2, f3 a q1 q2 q3 q4 q5 q6 q7 q8 q9 q10 q11]
      have f79 : ∀ b, b ≠ 6 → f 79 b = h 79 b := fun b q => by rw [fh3 79 (by omega) (by omega), y7 79 (by omega) (by omega) (by omega) (by omega) (by omega), k79 b q]
      have f796 : f 79 6 = nI (t + 1) := by rw [fh3 79 (by omega) (by omega), y7 79 (by omega) (by omega) (by omega) (by omega) (by omega), k796]
      refine ⟨nI t, h3, f, ?_, ?_, ⟨⟨0, B, by omega, ?_, ?_, fun k hk => absurd hk (by omega)⟩, ⟨n, D, t + 1, TX', ch', V, X, sp, ru, ca, R, ⟨?_, ⟨?_, m.2.1, ?_, tbk, f98.2.2.2⟩, ?_, y4, ?_, ?_, f796⟩, ?_, ?_, ?_⟩, ?_⟩, ?_⟩
      · rw [A9, ec, if_pos (by decide), fg 79 (by omega) (by omega), t9, if_pos (show nI t < (14 : Int32) from nI_lt (b := 14) t14 (by omega)), pz_vl, pz_kN t14 (by omega), pz_cl (by omega), f_X6_becomes, show 51 + 2 * t + 1 = 52 + 2 * t from by omega, pz_copyRow 43 (52 + 2 * t) 96 (by omega), pz_b]
        obtain ⟨r0, er0⟩ : ∃ r0, r0 = kv_row g (52 + 2 * t) (va_cpy (g 43) (g (52 + 2 * t)) 0 0 96) := ⟨_, rfl⟩
        have r41 : r0 41 = g 41 := by rw [er0, pz_rowne g (by omega)]
        rw [← er0, r41, fg41 3 (by omega), o3.1, pz_hl, pz_upne (by omega), r41, fg41 4 (by omega), o4, pz_hl, pz_upne (by omega), pz_upne (by omega), r41, fg41 5 (by omega), o5, pz_hl, pz_b, pz_upne (by omega), pz_upne (by omega), pz_upne (by omega), r41, fg41 4 (by omega), o4, pz_kN (by omega) (by omega), pz_cl (by omega), pz_hl, nI_1, pz_hl, er0, ← ek, y1, pz_b]
      · rw [f_X10_text, v1, pz_b, if_pos (pz_g0 (by omega)), w112 1 (by omega), t10, if_neg (show ¬ nI t = (14 : Int32) from fun w => full ((nI_eq (b := 14) (by omega) (by omega)).mp w)), f_X10_textAt, pz_b, show (98 : Int32) + 200 * nI t = nI (98 + 200 * t) from by rw [show (200 : Int32) = nI 200 from rfl, pz_mul, show (98 : Int32) = nI 98 from rfl, pz_add], show nI (98 + 200 * t) + (0 : Int32) = nI (98 + 200 * t) from pz_add _ 0, show nI (98 + 200 * t) + (1 : Int32) = nI (99 + 200 * t) from (pz_add _ 1).trans (by congr 1; omega), show nI (98 + 200 * t) + (2 : Int32) = nI (100 + 200 * t) from (pz_add _ 2).trans (by congr 1; omega), pz_kN (by omega) (by omega)]
        have e31 : kv_up w2 112 (98 + 200 * t) (nI key) 111 31 = nI gv := by rw [pz_upne (by omega)]; exact u3
        have e29 : kv_up (kv_up w2 112 (98 + 200 * t) (nI key)) 112 (99 + 200 * t) (nI gv) 111 29 = nI S.length := by rw [pz_upne (by omega), pz_upne (by omega)]; exact u2
        have e1' : kv_up (kv_up (kv_up w2 112 (98 + 200 * t) (nI key)) 112 (99 + 200 * t) (nI gv)) 112 (100 + 200 * t) (nI S.length) 112 1 = nI t := by
          simp (disch := omega) only [pz_upne, pz_upeq, pz_upd, if_neg, if_pos, if_true, if_false]
          rw [w112 1 (by omega)]; exact t10
        rw [pz_hl, show (nI (98 + 200 * t)).toNatClampNeg = 98 + 200 * t from pz_cl (by omega), e31, pz_kN (by omega) (by omega), pz_hl, show (nI (99 + 200 * t)).toNatClampNeg = 99 + 200 * t from pz_cl (by omega), e29, pz_kN (by omega) (by omega), pz_hl, show (nI (100 + 200 * t)).toNatClampNeg = 100 + 200 * t from pz_cl (by omega), e1', nI_1, pz_hl, ← ef, f98.2.2.2, show nI (t + 1) - (1 : Int32) = nI t from pz_sub (a := t + 1) (b := 1) (by omega)]
      · rw [fh3 41 (by omega) (by omega), y7 41 (by omega) (by omega) (by omega) (by omega) (by omega), kg 41 (by omega) (by omega) (by omega) (by omega)]; exact g41
      · rw [fa 111 (by omega)]; exact v2
      · exact ⟨by rw [fh3 _ (by omega) (by omega)]; exact y2.1, fun i hi => by rw [fh3 _ (by omega) (by omega), fh3 _ (by omega) (by omega), fh3 _ (by omega) (by omega), fh3 _ (by omega) (by omega), fh3 _ (by omega) (by omega)]; exact y2.2 i hi⟩
      · refine ⟨by rw [fsh 0 (by omega) (by omega)]; exact m.1.1, fun i hi => ?_⟩
        rw [fsh _ (by omega) (by omega), fsh _ (by omega) (by omega), fsh _ (by omega) (by omega), fsh _ (by omega) (by omega), fsh _ (by omega) (by omega)]; exact m.1.2 i hi
      · intro i hi
        by_cases z : i = t
        · subst z
          rw [TXt]
          refine ⟨f98.1, f98.2.1, f98.2.2.1, fun j st hj => ?_⟩
          have := u4 j st hj
          rw [base'] at this
          rw [show 102 + 200 * i + 2 * j = 102 + 200 * i + 2 * j from rfl, fs _ (by omega) (by omega) (by omega) (by omega), show 103 + 200 * i + 2 * j = 102 + 200 * i + 2 * j + 1 from by omega, fs _ (by omega) (by omega) (by omega) (by omega)]
          exact this
        · rw [TXl i (by omega)]
          obtain ⟨a1, a2, a3, a4⟩ := m.2.2.1 i (by omega)
          refine ⟨by rw [fsh _ (by omega) (by omega)]; exact a1, by rw [fsh _ (by omega) (by omega)]; exact a2, by rw [fsh _ (by omega) (by omega)]; exact a3, fun j st hj => ?_⟩
          have jl := pz_lenLt hj
          have lb := (tb.2 i (by omega)).2.2.1
          rw [fsh _ (by omega) (by omega), fsh _ (by omega) (by omega)]; exact a4 j st hj
      · intro i hi
        rw [fh3 _ (by omega) (by omega), fh3 _ (by omega) (by omega), fh3 _ (by omega) (by omega)]; exact y3 i hi
      · intro i hi
        rw [fh3 _ (by omega) (by omega), fh3 _ (by omega) (by omega)]; exact y5 i hi
      · intro j hj
        rw [fh3 _ (by omega) (by omega)]; exact y6 j hj
      · exact pz_G2_fr hn g2 (fun a q1 q2 => fh a (by omega) (by omega) (by omega) (by omega) (by omega) (by omega) (by omega) (by omega) (by omega) (by omega) (by omega) (by omega) (by omega)) (fsh _ (by omega) (by omega)) (fsh _ (by omega) (by omega)) (fsh _ (by omega) (by omega)) (fsh _ (by omega) (by omega)) (fun i q => fsh _ (by omega) (by omega)) (fun i j q1 q2 q3 => fsh _ (by omega) (by omega))
      · exact pz_G3_fr g3 (f79 _ (by omega)) (f79 _ (by omega)) (f79 _ (by omega)) (fsh _ (by omega) (by omega)) (fsh _ (by omega) (by omega)) (fsh _ (by omega) (by omega))
      · exact pz_G4_fr g4 (f79 _ (by omega)) (fh _ (by omega) (by omega) (by omega) (by omega) (by omega) (by omega) (by omega) (by omega) (by omega) (by omega) (by omega) (by omega) (by omega)) (fsh _ (by omega) (by omega)) (fun i q => fsh _ (by omega) (by omega))
      · rcases c6 with ⟨i1, i2⟩ | ⟨i1, i2, n', D', t', TX2, ch2, V2, X2, sp2, ru2, ca2, R2, ⟨a1, a2, a3, a4⟩, u, ue, ut, u14⟩
        · left
          exact ⟨by rw [fh 0 (by omega) (by omega) (by omega) (by omega) (by omega) (by omega) (by omega) (by omega) (by omega) (by omega) (by omega) (by omega) (by omega)]; exact i1, by rw [f111 3 (by omega)]; exact i2⟩
        · right
          have ut' : u = t := (nI_eq (by omega) (by omega)).mp (ue.symm.trans t9)
          have fi : ∀ a, 95 ≤ a → a ≤ 110 → f a = h a := fun a q1 q2 => fh a (by omega) (by omega) (by omega) (by omega) (by omega) (by omega) (by omega) (by omega) (by omega) (by omega) (by omega) (by omega) (by omega)
          have f113 : f 113 = h 113 := fh 113 (by omega) (by omega) (by omega) (by omega) (by omega) (by omega) (by omega) (by omega) (by omega) (by omega) (by omega) (by omega) (by omega)
          have hn' := a1.2.1.2.1.1
          refine ⟨by rw [fh 0 (by omega) (by omega) (by omega) (by omega) (by omega) (by omega) (by omega) (by omega) (by omega) (by omega) (by omega) (by omega) (by omega)]; exact i1, by rw [f111 3 (by omega)]; exact i2, n', D', t', TX2, ch2, V2, X2, sp2, ru2, ca2, R2, ⟨?_, ?_, ?_, ?_⟩, t + 1, f796, by omega, by omega⟩
          · rw [f113]
            obtain ⟨b1, b2, b3, b4, b5, b6, b7⟩ := a1
            refine ⟨⟨by rw [fi _ (by omega) (by omega)]; exact b1.1, fun i hi => by rw [fi _ (by omega) (by omega), fi _ (by omega) (by omega), fi _ (by omega) (by omega), fi _ (by omega) (by omega), fi _ (by omega) (by omega)]; exact b1.2 i hi⟩, b2, fun i hi => by rw [fi _ (by omega) (by omega), fi _ (by omega) (by omega), fi _ (by omega) (by omega)]; exact b3 i hi, b4, fun i hi => ?_, fun j hj => by rw [fi _ (by omega) (by omega)]; exact b6 j hj, by rw [fi _ (by omega) (by omega)]; exact b7⟩
            rw [fh _ (by omega) (by omega) (by omega) (by omega) (by omega) (by omega) (by omega) (by omega) (by omega) (by omega) (by omega) (by omega) (by omega), fh _ (by omega) (by omega) (by omega) (by omega) (by omega) (by omega) (by omega) (by omega) (by omega) (by omega) (by omega) (by omega) (by omega)]; exact b5 i hi
          · rw [f113]; exact pz_G2_fr hn' a2 (fun a q1 q2 => fi a (by omega) (by omega)) rfl rfl rfl rfl (fun _ _ => rfl) (fun _ _ _ _ _ => rfl)
          · rw [f113]; exact pz_G3_fr a3 (by rw [fi 95 (by omega) (by omega)]) (by rw [fi 95 (by omega) (by omega)]) (by rw [fi 95 (by omega) (by omega)]) rfl rfl rfl
          · rw [f113]; exact pz_G4_fr a4 (by rw [fi 95 (by omega) (by omega)]) (fi _ (by omega) (by omega)) rfl (fun _ _ => rfl)
      · intro a b q1 q2
        by_cases z1 : a = 111
        · subst z1
          refine f111 b ?_
          apply Classical.byContradiction
          intro v
          exact q1 (by rw [show pz_reg 111 b = 2 by unfold pz_reg; rw [if_neg (by omega), if_neg (by omega), if_pos rfl, if_neg (by omega), if_neg (by omega), if_neg (by omega)]]; decide)
        · by_cases z2 : a = 41 ∨ a = 43
          · exact absurd (show pz_reg a b ∈ [2, 5, 8, 9] by rw [show pz_reg a b = 2 by unfold pz_reg; rw [if_neg (by omega), if_neg (by omega), if_neg (by omega), if_pos (by omega)]]; decide) q1
          · by_cases z3 : a = 49 ∨ a = 50
            · exact absurd (by rcases z3 with rfl | rfl <;> rfl) q2
            · by_cases z4 : a = 51 + 2 * t ∨ a = 52 + 2 * t
              · exact absurd (show pz_reg a b ∈ [2, 5, 8, 9] by rw [pz_reg8 (by omega)]; decide) q1
              · by_cases z5 : a = 79 ∧ b = 6
                · exact absurd (show pz_reg a b ∈ [2, 5, 8, 9] by rw [z5.1, z5.2]; decide) q1
                · by_cases z6 : a = 79
                  · rw [z6]; exact f79 b (by omega)
                  · by_cases z7 : a = 112 ∨ a = 81 ∨ a = 88 ∨ a = 89 ∨ a = 90
                    · exact absurd (show pz_reg a b ∈ [2, 5, 8, 9] by rw [pz_reg5 (by omega) z5]; decide) q1
                    · rw [fh a (by omega) (by omega) (by omega) (by omega) (by omega) (by omega) (by omega) (by omega) (by omega) (by omega) (by omega) (by omega) (by omega)]
    · obtain ⟨d1, d2⟩ := (xB key hky).2 ok
      rw [d1] at x1
      exact failed (pz_rr B len key).2.1.2.1 (by omega) ((pB key hky).2 ok) ⟨h2, x1, d2, x2, x3, x4, x5⟩

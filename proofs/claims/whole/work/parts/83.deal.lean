/-! PURE PART: deal, the call -/
theorem pz_dlB : ∀ (m n : Nat) (D : Nat → Nat → Nat) (z : Int32), pz_LB n D → n + m ≤ 8 → pz_LB (n + m) (pz_dl m n D z).1 := by
  intro m
  induction m with
  | zero => intro n D z b _; exact b
  | succ m ih =>
    intro n D z b e
    rw [show n + (m + 1) = n + 1 + m from by omega]
    have md9 := Nat.mod_lt (pz_dz (pz_zn z)) (show 0 < 9 from by omega)
    have md100 := Nat.mod_lt (pz_dz (pz_zn (pz_zn z))) (show 0 < 100 from by omega)
    exact ih (n + 1) _ _ (pz_LBadd b (by omega) (by omega) (by omega) (by omega) (by omega) (pz_donL _ n)) (by omega)
theorem pz_X2_CC {h h' : kv_H} {c : Nat} {V : List Nat} {X : Nat → Int32} {z : Int32} (cc : pz_CC h c V X) (f : ∀ b, b ≠ 7 → h' c b = h c b) (e : h' c 7 = z) (g : ∀ a, c < a → a ≤ c + 3 → h' a = h a) : pz_CC h' c V (pz_X2 X z) := by
  obtain ⟨a1, a2, a3, a4, a5, a6, a7⟩ := cc
  refine ⟨by rw [f _ (by omega)]; exact a1, by rw [f _ (by omega)]; exact a2, by rw [f _ (by omega)]; exact a3, by rw [f _ (by omega)]; exact a4, e, ?_, ?_⟩
  · intro i v hv; rw [g _ (by omega) (by omega)]; exact a6 i v hv
  · intro i hi
    unfold pz_X2
    rw [g _ (by omega) (by omega), g _ (by omega) (by omega), if_neg (by omega), if_neg (by omega)]; exact a7 i hi
theorem pz_deal (x : Int32) (h : kv_H) (c : pz_c5 h) : pz_op [5] pz_c5 (f_X9_deal x) (f_X10_deal x) h := by
  obtain ⟨n, D, t, TX, ch, V, X, sp, ru, ca, R, w⟩ := c
  have c : pz_c5 h := ⟨n, D, t, TX, ch, V, X, sp, ru, ca, R, w⟩
  obtain ⟨⟨lc, m, lx, chc, tc, lw, e6⟩, ⟨cc, cm, cb⟩, g3, g4⟩ := w
  have hn := m.2.1.1
  have ht := m.2.2.2.1.1
  rcases pz_rng x 1 8 (by omega) with q | ⟨q, s1, s2, rfl⟩
  · refine pz_op_same (-1000000001) c ?_ ?_
    · rw [f_X9_deal]
      rcases q with z | z
      · rw [if_pos (show x < 1 from z)]
      · by_cases y : x < 1
        · rw [if_pos y]
        · rw [if_neg y, if_neg (show ¬ x ≤ (8 : Int32) from Int32.not_le.mpr z)]
    · rw [f_X10_deal, pz_in_1_8, if_pos (show x < 1 ∨ 8 < x from q)]; rfl
  obtain ⟨k, ek⟩ : ∃ k, k = (if 8 - n < q then 8 - n else q) := ⟨_, rfl⟩
  have k1 : k ≤ q ∧ n + k ≤ 8 ∧ (k = q ∨ n + k = 8) := by
    by_cases z : 8 - n < q
    · rw [if_pos z] at ek; omega
    · rw [if_neg z] at ek; omega
  obtain ⟨ha, a1, a2, a3, a4, a5⟩ := pz_deal9 k (fun h3 => kv_b (f_X8_weighAll 79 h3) (fun _ h4 => some (nI k, h4))) (by omega) k 0 n D (X 2) h kv_fu (by omega) k1.2.1 (by rw [show kv_fu = 5000 from rfl]; omega) lc cc.2.2.2.2.1
  have tca : pz_TC ha t TX := by
    intro i hi; rw [a4 _ (by omega) (by omega), a4 _ (by omega) (by omega)]; exact tc i hi
  have lwa : pz_LW ha 79 t TX := by
    intro k hk; rw [a4 _ (by omega) (by omega)]; exact lw k hk
  have nb := pz_dlB k n D (X 2) m.2.1 k1.2.1
  obtain ⟨h1, ch', y1, y2, y3, y4, y5, y6, y7⟩ := pz_weighed a2 nb tca m.2.2.2.1 lwa
  have f1 : ∀ a, a ≠ 49 → a ≠ 50 → (a < 82 ∨ 90 < a) → a ≠ 91 → h1 a = h a := fun a q1 q2 q3 q4 => (y7 a q1 q2 (by omega) (by omega) (by omega)).trans (a4 a (by omega) q4)
  have s112 : h1 112 = h 112 := f1 112 (by omega) (by omega) (by omega) (by omega)
  obtain ⟨h2, b1, b2, b3, b4, b5, b6⟩ := pz_deal10 q V t TX (fun z14 h15 => some (z14, h15)) s2 k 0 n D X h1 kv_fu (by omega) k1.2.1 (by omega) (by rw [show kv_fu = 5000 from rfl]; omega) (by rw [s112]; exact m) (by rw [s112]; exact cm) cb
  rw [s112] at b6
  have f2 : ∀ a, a ≠ 49 → a ≠ 50 → (a < 82 ∨ 90 < a) → a ≠ 91 → a ≠ 112 → h2 a = h a := fun a q1 q2 q3 q4 q5 => (b5 a q5).trans (f1 a q1 q2 q3 q4)
  refine ⟨nI k, h1, h2, ?_, ?_, ⟨n + k, (pz_dl k n D (X 2)).1, t, TX, ch', V, pz_X2 X (pz_dl k n D (X 2)).2, sp, ru, ca, R, ⟨⟨?_, ?_⟩, b2, ?_, y4, ?_, ?_, ?_⟩, ⟨?_, b3, b4⟩, ?_, ?_⟩, ?_⟩
  · rw [f_X9_deal, if_neg (show ¬ nI q < (1 : Int32) from nI_nlt (b := 1) s1 (by omega)), if_pos (show nI q ≤ (8 : Int32) from nI_le (b := 8) s2 (by omega)), show h 82 8 = nI n from lc.1, show (8 : Int32) = nI 8 from rfl, pz_sub hn, pz_vl]
    have ee : (if nI (8 - n) < nI q then nI (8 - n) else nI q) = nI k := by
      rw [ek]
      by_cases z : 8 - n < q
      · rw [if_pos z, if_pos (nI_lt z (by omega))]
      · rw [if_neg z, if_neg (nI_nlt (by omega) (by omega))]
    rw [ee]
    rw [show (0 : Int32) = nI 0 from rfl, a1, y1, pz_b]
  · rw [f_X10_deal, pz_in_1_8G s1 (by omega), pz_b, if_neg (by decide)]
    rw [show (0 : Int32) = nI 0 from rfl, b1, Nat.zero_add]
  · rw [b5 _ (by omega)]; exact y2.1
  · intro i hi
    rw [b5 _ (by omega), b5 _ (by omega), b5 _ (by omega), b5 _ (by omega), b5 _ (by omega)]; exact y2.2 i hi
  · intro i hi
    rw [b5 _ (by omega), b5 _ (by omega), b5 _ (by omega)]; exact y3 i hi
  · intro i hi
    rw [b5 _ (by omega), b5 _ (by omega)]; exact y5 i hi
  · intro k hk
    rw [b5 _ (by omega)]; exact y6 k hk
  · rw [f2 _ (by omega) (by omega) (by omega) (by omega) (by omega)]; exact e6
  · refine pz_X2_CC (h := h) cc ?_ ?_ ?_
    · intro b hb; rw [b5 _ (by omega), y7 _ (by omega) (by omega) (by omega) (by omega) (by omega)]; exact a5 b hb
    · rw [b5 _ (by omega), y7 _ (by omega) (by omega) (by omega) (by omega) (by omega)]; exact a3
    · intro a q1 q2; exact f2 a (by omega) (by omega) (by omega) (by omega) (by omega)
  · exact pz_G3_fr g3 (by rw [f2 _ (by omega) (by omega) (by omega) (by omega) (by omega)]) (by rw [f2 _ (by omega) (by omega) (by omega) (by omega) (by omega)]) (by rw [f2 _ (by omega) (by omega) (by omega) (by omega) (by omega)]) (b6 _ (by omega)) (b6 _ (by omega)) (b6 _ (by omega))
  · have g4' := pz_G4_fr (h' := h2) (s' := h2 112) g4 (by rw [f2 _ (by omega) (by omega) (by omega) (by omega) (by omega)]) (by rw [f2 _ (by omega) (by omega) (by omega) (by omega) (by omega)]) (b6 _ (by omega)) (fun i hi => b6 _ (by omega))
    exact ⟨g4'.1, g4'.2.1, g4'.2.2.1, fun i v hv => ⟨(g4'.2.2.2 i v hv).1, (g4'.2.2.2 i v hv).2.1, by have := (g4'.2.2.2 i v hv).2.2; omega⟩⟩
  · intro a b q1 q2
    by_cases zz : a = 49 ∨ a = 50
    · exfalso; apply q2; rcases zz with rfl | rfl <;> rfl
    · by_cases zy : (82 ≤ a ∧ a ≤ 91) ∨ a = 112
      · exfalso; apply q1; rw [pz_reg5 (by omega) (by omega)]; decide
      · rw [f2 a (by omega) (by omega) (by omega) (by omega) (by omega)]

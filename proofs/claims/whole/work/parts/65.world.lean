/-! PURE PART: worlds -/
def pz_bits : List Nat → Nat
  | [] => 0
  | v :: r => 2 ^ v ||| pz_bits r
def pz_G1 (w : Nat) (h : kv_H) (s : Nat → Int32) (n : Nat) (D : Nat → Nat → Nat) (t : Nat) (TX : Nat → pz_T) (ch : Nat → Nat) : Prop :=
  pz_LC h (w + 3) n D ∧ pz_M s n D t TX ∧ pz_LX h (w + 3) n (pz_rm TX t D) (pz_ms TX t n D) ch ∧ pz_CH n D ch ∧ pz_TC h t TX ∧ pz_LW h w t TX ∧ h w 6 = nI t
def pz_CC (h : kv_H) (c : Nat) (V : List Nat) (X : Nat → Int32) : Prop := h c 3 = nI V.length ∧ h c 4 = nI (pz_bits V) ∧ h c 5 = X 0 ∧ h c 6 = X 1 ∧ h c 7 = X 2 ∧ (∀ i v, V[i]? = some v → h (c + 1) i = nI v) ∧ ∀ i, i < 8 → h (c + 2) i = X (10 + i) ∧ h (c + 3) i = X (20 + i)
def pz_CM (s : Nat → Int32) (n : Nat) (V : List Nat) (X : Nat → Int32) : Prop := s 2 = nI V.length ∧ s 6 = X 0 ∧ s 7 = X 1 ∧ s 9 = X 2 ∧ (∀ i v, V[i]? = some v → s (66 + i) = nI v) ∧ ∀ i, i < n → s (16 + 7 * i) = X (10 + i) ∧ s (15 + 7 * i) = X (20 + i)
def pz_CB (n : Nat) (V : List Nat) (X : Nat → Int32) : Prop := V.Nodup ∧ (∀ v, v ∈ V → v < n) ∧ ∀ i, n ≤ i → i < 8 → X (10 + i) = 0 ∧ X (20 + i) = 0
def pz_G2 (w : Nat) (h : kv_H) (s : Nat → Int32) (n : Nat) (V : List Nat) (X : Nat → Int32) : Prop := pz_CC h (w + 12) V X ∧ pz_CM s n V X ∧ pz_CB n V X
def pz_G3 (w : Nat) (h : kv_H) (s : Nat → Int32) (sp ru ca : Nat) : Prop := h w 7 = nI sp ∧ h w 8 = nI ru ∧ h w 9 = nI ca ∧ s 3 = nI sp ∧ s 4 = nI ru ∧ s 5 = nI ca ∧ sp ≤ 60 ∧ ru ≤ 4 ∧ ca ≤ 1
def pz_G4 (w : Nat) (h : kv_H) (s : Nat → Int32) (n : Nat) (R : List Nat) : Prop := h w 5 = nI R.length ∧ s 8 = nI R.length ∧ R.length ≤ 24 ∧ ∀ i v, R[i]? = some v → h (w + 1) i = nI v ∧ s (74 + i) = nI v ∧ v < n
def pz_world (w : Nat) (h : kv_H) (s : Nat → Int32) (n : Nat) (D : Nat → Nat → Nat) (t : Nat) (TX : Nat → pz_T) (ch : Nat → Nat) (V : List Nat) (X : Nat → Int32) (sp ru ca : Nat) (R : List Nat) : Prop :=
  pz_G1 w h s n D t TX ch ∧ pz_G2 w h s n V X ∧ pz_G3 w h s sp ru ca ∧ pz_G4 w h s n R
theorem pz_M_fr {s s' : Nat → Int32} {n : Nat} {D : Nat → Nat → Nat} {t : Nat} {TX : Nat → pz_T} (g : pz_M s n D t TX) (f0 : s' 0 = s 0) (f1 : s' 1 = s 1) (f2 : ∀ i j, i < 8 → j < 5 → s' (10 + 7 * i + j) = s (10 + 7 * i + j)) (f3 : ∀ b, 98 ≤ b → b < 2898 → s' b = s b) : pz_M s' n D t TX := by
  obtain ⟨⟨l0, l1⟩, b, tm, tb, e⟩ := g
  have hn := b.1
  have ht := tb.1
  refine ⟨⟨f0.trans l0, ?_⟩, b, ?_, tb, f1.trans e⟩
  · intro i hi
    have := l1 i hi
    rw [show 10 + 7 * i = 10 + 7 * i + 0 from rfl, f2 i 0 (by omega) (by omega), show 11 + 7 * i = 10 + 7 * i + 1 from by omega, f2 i 1 (by omega) (by omega), show 12 + 7 * i = 10 + 7 * i + 2 from by omega, f2 i 2 (by omega) (by omega), show 13 + 7 * i = 10 + 7 * i + 3 from by omega, f2 i 3 (by omega) (by omega), show 14 + 7 * i = 10 + 7 * i + 4 from by omega, f2 i 4 (by omega) (by omega)]
    rw [show 11 + 7 * i = 10 + 7 * i + 1 from by omega, show 12 + 7 * i = 10 + 7 * i + 2 from by omega, show 13 + 7 * i = 10 + 7 * i + 3 from by omega, show 14 + 7 * i = 10 + 7 * i + 4 from by omega] at this
    exact this
  · intro i hi
    obtain ⟨a1, a2, a3, a4⟩ := tm i hi
    refine ⟨?_, ?_, ?_, ?_⟩
    · rw [f3 _ (by omega) (by omega)]; exact a1
    · rw [f3 _ (by omega) (by omega)]; exact a2
    · rw [f3 _ (by omega) (by omega)]; exact a3
    · intro k st hk
      have kl : k < (TX i).2.2.length := by
        rcases Nat.lt_or_ge k (TX i).2.2.length with z | z
        · exact z
        · rw [List.getElem?_eq_none z] at hk; cases hk
      have lb := (tb.2 i hi).2.2.1
      rw [f3 _ (by omega) (by omega), f3 _ (by omega) (by omega)]; exact a4 k st hk
theorem pz_G1_fr {w : Nat} {h h' : kv_H} {s s' : Nat → Int32} {n : Nat} {D : Nat → Nat → Nat} {t : Nat} {TX : Nat → pz_T} {ch : Nat → Nat} (g : pz_G1 w h s n D t TX ch) (fc : ∀ a, w + 2 ≤ a → a ≤ w + 11 → h' a = h a) (ft : ∀ a, 51 ≤ a → a ≤ 78 → h' a = h a) (f6 : h' w 6 = h w 6) (f0 : s' 0 = s 0) (f1 : s' 1 = s 1) (f2 : ∀ i j, i < 8 → j < 5 → s' (10 + 7 * i + j) = s (10 + 7 * i + j)) (f3 : ∀ b, 98 ≤ b → b < 2898 → s' b = s b) : pz_G1 w h' s' n D t TX ch := by
  obtain ⟨⟨a0, a1⟩, m, lx, c, tc, lw, e⟩ := g
  have tb := m.2.2.2.1.1
  refine ⟨⟨?_, ?_⟩, pz_M_fr m f0 f1 f2 f3, ?_, c, ?_, ?_, f6.trans e⟩
  · rw [fc _ (by omega) (by omega)]; exact a0
  · intro i hi
    rw [fc _ (by omega) (by omega), fc _ (by omega) (by omega), fc _ (by omega) (by omega), fc _ (by omega) (by omega), fc _ (by omega) (by omega)]; exact a1 i hi
  · intro i hi
    rw [fc _ (by omega) (by omega), fc _ (by omega) (by omega), fc _ (by omega) (by omega)]; exact lx i hi
  · intro i hi
    rw [ft _ (by omega) (by omega), ft _ (by omega) (by omega)]; exact tc i hi
  · intro k hk
    rw [fc _ (by omega) (by omega)]; exact lw k hk
theorem pz_nodup_le : ∀ (n : Nat) (V : List Nat), V.Nodup → (∀ v, v ∈ V → v < n) → V.length ≤ n := by
  intro n
  induction n with
  | zero =>
    intro V _ h2
    cases V with
    | nil => exact Nat.le_refl 0
    | cons v r => exact absurd (h2 v (List.mem_cons_self ..)) (by omega)
  | succ n ih =>
    intro V h1 h2
    by_cases q : n ∈ V
    · have := ih (V.erase n) (h1.erase n) (fun v hv => by
        have z := (List.Nodup.mem_erase_iff h1).mp hv
        have := h2 v z.2
        have := z.1
        omega)
      rw [List.length_erase_of_mem q] at this
      omega
    · have := ih V h1 (fun v hv => by
        have z := h2 v hv
        have : v ≠ n := fun e => q (e ▸ hv)
        omega)
      omega
theorem pz_G2_fr {w : Nat} {h h' : kv_H} {s s' : Nat → Int32} {n : Nat} {V : List Nat} {X : Nat → Int32} (hn : n ≤ 8) (g : pz_G2 w h s n V X) (fc : ∀ a, w + 12 ≤ a → a ≤ w + 15 → h' a = h a) (f2 : s' 2 = s 2) (f6 : s' 6 = s 6) (f7 : s' 7 = s 7) (f9 : s' 9 = s 9) (f3 : ∀ i, i < 8 → s' (66 + i) = s (66 + i)) (f4 : ∀ i j, i < 8 → 5 ≤ j → j < 7 → s' (10 + 7 * i + j) = s (10 + 7 * i + j)) : pz_G2 w h' s' n V X := by
  obtain ⟨⟨a1, a2, a3, a4, a5, a6, a7⟩, ⟨b1, b2, b3, b4, b5, b6⟩, c1, c2, c3⟩ := g
  have vl := pz_nodup_le n V c1 c2
  refine ⟨⟨?_, ?_, ?_, ?_, ?_, ?_, ?_⟩, ⟨f2.trans b1, f6.trans b2, f7.trans b3, f9.trans b4, ?_, ?_⟩, c1, c2, c3⟩
  · rw [fc _ (by omega) (by omega)]; exact a1
  · rw [fc _ (by omega) (by omega)]; exact a2
  · rw [fc _ (by omega) (by omega)]; exact a3
  · rw [fc _ (by omega) (by omega)]; exact a4
  · rw [fc _ (by omega) (by omega)]; exact a5
  · intro i v hv; rw [fc _ (by omega) (by omega)]; exact a6 i v hv
  · intro i hi; rw [fc _ (by omega) (by omega), fc _ (by omega) (by omega)]; exact a7 i hi
  · intro i v hv
    have il : i < V.length := by
      rcases Nat.lt_or_ge i V.length with z | z
      · exact z
      · rw [List.getElem?_eq_none z] at hv; cases hv
    rw [f3 i (by omega)]; exact b5 i v hv
  · intro i hi
    have := b6 i hi
    rw [show 16 + 7 * i = 10 + 7 * i + 6 from by omega, show 15 + 7 * i = 10 + 7 * i + 5 from by omega] at this ⊢
    rw [f4 i 6 (by omega) (by omega) (by omega), f4 i 5 (by omega) (by omega) (by omega)]; exact this
theorem pz_G3_fr {w : Nat} {h h' : kv_H} {s s' : Nat → Int32} {sp ru ca : Nat} (g : pz_G3 w h s sp ru ca) (f7 : h' w 7 = h w 7) (f8 : h' w 8 = h w 8) (f9 : h' w 9 = h w 9) (m3 : s' 3 = s 3) (m4 : s' 4 = s 4) (m5 : s' 5 = s 5) : pz_G3 w h' s' sp ru ca := by
  unfold pz_G3 at *; rw [f7, f8, f9, m3, m4, m5]; exact g
theorem pz_G4_fr {w : Nat} {h h' : kv_H} {s s' : Nat → Int32} {n : Nat} {R : List Nat} (g : pz_G4 w h s n R) (f5 : h' w 5 = h w 5) (f1 : h' (w + 1) = h (w + 1)) (m8 : s' 8 = s 8) (m : ∀ i, i < 24 → s' (74 + i) = s (74 + i)) : pz_G4 w h' s' n R := by
  obtain ⟨a1, a2, a3, a4⟩ := g
  refine ⟨f5.trans a1, m8.trans a2, a3, ?_⟩
  intro i v hv
  have il : i < R.length := by
    rcases Nat.lt_or_ge i R.length with z | z
    · exact z
    · rw [List.getElem?_eq_none z] at hv; cases hv
  rw [f1, m i (by omega)]; exact a4 i v hv
def pz_c5 (h : kv_H) : Prop := ∃ n D t TX ch V X sp ru ca R, pz_world 79 h (h 112) n D t TX ch V X sp ru ca R
def pz_c6 (h : kv_H) : Prop := (h 0 11 = 0 ∧ h 111 3 = 0) ∨ (h 0 11 = 1 ∧ h 111 3 = 1 ∧ ∃ n D t TX ch V X sp ru ca R, pz_world 95 h (h 113) n D t TX ch V X sp ru ca R ∧ ∃ u, h 79 6 = nI u ∧ t ≤ u ∧ u ≤ 14)
theorem pz_reg5 {a b : Nat} (q : (79 ≤ a ∧ a ≤ 94) ∨ a = 112) (q2 : ¬ (a = 79 ∧ b = 6)) : pz_reg a b = 5 := by
  unfold pz_reg
  rw [if_neg (by omega), if_neg (by omega), if_neg (by omega), if_neg (by omega), if_neg (by omega), if_neg (by omega), if_pos q, if_neg q2]
theorem pz_reg6 {a b : Nat} (q : (95 ≤ a ∧ a ≤ 110) ∨ a = 113) : pz_reg a b = 6 := by
  unfold pz_reg
  rw [if_neg (by omega), if_neg (by omega), if_neg (by omega), if_neg (by omega), if_neg (by omega), if_neg (by omega), if_neg (by omega), if_pos q]
theorem pz_reg8 {a b : Nat} (q : 51 ≤ a ∧ a ≤ 78) : pz_reg a b = 8 := by
  unfold pz_reg
  rw [if_neg (by omega), if_neg (by omega), if_neg (by omega), if_neg (by omega), if_neg (by omega), if_neg (by omega), if_neg (by omega), if_neg (by omega), if_pos q]
theorem pz_c5_fr {h h' : kv_H} (c : pz_c5 h) (f : ∀ a b, pz_reg a b = 5 ∨ pz_reg a b = 8 ∨ pz_reg a b = 9 → h' a b = h a b) : pz_c5 h' := by
  obtain ⟨n, D, t, TX, ch, V, X, sp, ru, ca, R, g1, g2, g3, g4⟩ := c
  have f5 : ∀ a b, (79 ≤ a ∧ a ≤ 94) ∨ a = 112 → h' a b = h a b := by
    intro a b q
    by_cases z : a = 79 ∧ b = 6
    · rw [z.1, z.2]; exact f 79 6 (Or.inr (Or.inr rfl))
    · exact f a b (Or.inl (pz_reg5 q z))
  have f5' : ∀ a, (79 ≤ a ∧ a ≤ 94) ∨ a = 112 → h' a = h a := fun a q => funext (fun b => f5 a b q)
  have f8 : ∀ a, 51 ≤ a → a ≤ 78 → h' a = h a := fun a q1 q2 => funext (fun b => f a b (Or.inr (Or.inl (pz_reg8 ⟨q1, q2⟩))))
  have hn : n ≤ 8 := g1.2.1.2.1.1
  refine ⟨n, D, t, TX, ch, V, X, sp, ru, ca, R, ?_, ?_, ?_, ?_⟩
  · exact pz_G1_fr g1 (fun a q1 q2 => f5' a (by omega)) f8 (f5 _ _ (by omega)) (f5 _ _ (by omega)) (f5 _ _ (by omega)) (fun _ _ _ _ => f5 _ _ (by omega)) (fun _ _ _ => f5 _ _ (by omega))
  · exact pz_G2_fr hn g2 (fun a q1 q2 => f5' a (by omega)) (f5 _ _ (by omega)) (f5 _ _ (by omega)) (f5 _ _ (by omega)) (f5 _ _ (by omega)) (fun _ _ => f5 _ _ (by omega)) (fun _ _ _ _ _ => f5 _ _ (by omega))
  · exact pz_G3_fr g3 (f5 _ _ (by omega)) (f5 _ _ (by omega)) (f5 _ _ (by omega)) (f5 _ _ (by omega)) (f5 _ _ (by omega)) (f5 _ _ (by omega))
  · exact pz_G4_fr g4 (f5 _ _ (by omega)) (f5' _ (by omega)) (f5 _ _ (by omega)) (fun _ _ => f5 _ _ (by omega))
theorem pz_c6_fr {h h' : kv_H} (c : pz_c6 h) (f : ∀ a b, pz_reg a b = 6 ∨ pz_reg a b = 8 ∨ pz_reg a b = 9 → h' a b = h a b) : pz_c6 h' := by
  have e1 : h' 0 11 = h 0 11 := f _ _ (Or.inl rfl)
  have e2 : h' 111 3 = h 111 3 := f _ _ (Or.inl rfl)
  rcases c with c | ⟨i1, i2, n, D, t, TX, ch, V, X, sp, ru, ca, R, ⟨g1, g2, g3, g4⟩, u, u1, u2, u3⟩
  · left; rw [e1, e2]; exact c
  right
  have f5 : ∀ a b, (95 ≤ a ∧ a ≤ 110) ∨ a = 113 → h' a b = h a b := fun a b q => f a b (Or.inl (pz_reg6 q))
  have f5' : ∀ a, (95 ≤ a ∧ a ≤ 110) ∨ a = 113 → h' a = h a := fun a q => funext (fun b => f5 a b q)
  have f8 : ∀ a, 51 ≤ a → a ≤ 78 → h' a = h a := fun a q1 q2 => funext (fun b => f a b (Or.inr (Or.inl (pz_reg8 ⟨q1, q2⟩))))
  have hn : n ≤ 8 := g1.2.1.2.1.1
  refine ⟨e1.trans i1, e2.trans i2, n, D, t, TX, ch, V, X, sp, ru, ca, R, ⟨?_, ?_, ?_, ?_⟩, u, ?_, u2, u3⟩
  · exact pz_G1_fr g1 (fun a q1 q2 => f5' a (by omega)) f8 (f5 _ _ (by omega)) (f5 _ _ (by omega)) (f5 _ _ (by omega)) (fun _ _ _ _ => f5 _ _ (by omega)) (fun _ _ _ => f5 _ _ (by omega))
  · exact pz_G2_fr hn g2 (fun a q1 q2 => f5' a (by omega)) (f5 _ _ (by omega)) (f5 _ _ (by omega)) (f5 _ _ (by omega)) (f5 _ _ (by omega)) (fun _ _ => f5 _ _ (by omega)) (fun _ _ _ _ _ => f5 _ _ (by omega))
  · exact pz_G3_fr g3 (f5 _ _ (by omega)) (f5 _ _ (by omega)) (f5 _ _ (by omega)) (f5 _ _ (by omega)) (f5 _ _ (by omega)) (f5 _ _ (by omega))
  · exact pz_G4_fr g4 (f5 _ _ (by omega)) (f5' _ (by omega)) (f5 _ _ (by omega)) (fun _ _ => f5 _ _ (by omega))
  · rw [f 79 6 (Or.inr (Or.inr rfl))]; exact u1

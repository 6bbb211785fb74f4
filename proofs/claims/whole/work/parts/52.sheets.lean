/-! PURE PART: sheets -/
theorem pz_for {σ β : Type} (L : Nat → Nat → σ → β) (I : Nat → σ → Prop) (Q : β → Prop) (m : Nat)
    (hx : ∀ n s, I m s → Q (L (n + 1) m s))
    (hs : ∀ n k s, k < m → I k s → Q (L (n + 1) k s) ∨ ∃ s', I (k + 1) s' ∧ L (n + 1) k s = L n (k + 1) s') :
    ∀ n k s, k ≤ m → m - k < n → I k s → Q (L n k s) := by
  intro n
  induction n with
  | zero => intro k s _ h2; omega
  | succ n ih =>
    intro k s h1 h2 h3
    by_cases e : k = m
    · subst e; exact hx n s h3
    · rcases hs n k s (by omega) h3 with q | ⟨s', i', e'⟩
      · exact q
      · rw [e']; exact ih (k + 1) s' (by omega) (by omega) i'
def pz_st (h : kv_H) (a lo hi : Nat) (f : Nat → Int32) : kv_H := fun a' b => if a' = a ∧ lo ≤ b ∧ b < hi then f b else h a' b
theorem pz_st0 (h : kv_H) (a lo : Nat) (f : Nat → Int32) : pz_st h a lo lo f = h := by
  funext a' b; unfold pz_st; rw [if_neg (by omega)]
theorem pz_st1 (h : kv_H) (a lo k : Nat) (f : Nat → Int32) (q : lo ≤ k) (v : Int32) (e : v = f k) : kv_up (pz_st h a lo k f) a k v = pz_st h a lo (k + 1) f := by
  funext a' b; rw [pz_up]; unfold pz_st
  by_cases e1 : a' = a
  · by_cases e2 : b = k
    · subst e1; subst e2; rw [if_pos rfl, if_pos rfl, if_pos (by omega)]; exact e
    · rw [if_pos e1, if_neg e2]
      by_cases e3 : a' = a ∧ lo ≤ b ∧ b < k
      · rw [if_pos e3, if_pos (by omega)]
      · rw [if_neg e3, if_neg (by omega)]
  · rw [if_neg e1, if_neg (fun z => e1 z.1), if_neg (fun z => e1 z.1)]
theorem pz_stne (h : kv_H) {a lo hi : Nat} {f : Nat → Int32} {a' : Nat} (q : a' ≠ a) : pz_st h a lo hi f a' = h a' := by
  funext b; unfold pz_st; rw [if_neg (fun z => q z.1)]
theorem pz_stin (h : kv_H) {a lo hi : Nat} {f : Nat → Int32} {b : Nat} (q : lo ≤ b) (q2 : b < hi) : pz_st h a lo hi f a b = f b := by
  unfold pz_st; rw [if_pos ⟨rfl, q, q2⟩]
theorem pz_stout (h : kv_H) {a lo hi : Nat} {f : Nat → Int32} {b : Nat} (q : b < lo ∨ hi ≤ b) : pz_st h a lo hi f a b = h a b := by
  unfold pz_st; rw [if_neg (by omega)]
theorem pz_fr_st {S : List Nat} {h h1 : kv_H} {a lo hi : Nat} {f : Nat → Int32} (q : pz_fr S h h1) (m : ∀ b, pz_reg a b ∈ S ∨ pz_reg a b = 7) : pz_fr S h (pz_st h1 a lo hi f) := by
  intro a' b m1 m2
  unfold pz_st
  by_cases e : a' = a ∧ lo ≤ b ∧ b < hi
  · exfalso; rcases m b with m | m
    · rw [← e.1] at m; exact m1 m
    · rw [← e.1] at m; exact m2 m
  · rw [if_neg e]; exact q a' b m1 m2
theorem pz_fr_row {S : List Nat} {h h1 : kv_H} {a : Nat} {f : Nat → Int32} (q : pz_fr S h h1) (m : ∀ b, pz_reg a b ∈ S ∨ pz_reg a b = 7) : pz_fr S h (kv_row h1 a f) := by
  intro a' b m1 m2
  unfold kv_row
  by_cases e : a' = a
  · exfalso; rcases m b with m | m
    · rw [← e] at m; exact m1 m
    · rw [← e] at m; exact m2 m
  · rw [if_neg e]; exact q a' b m1 m2
theorem pz_rowne (h : kv_H) {k : Nat} {f : Nat → Int32} {a : Nat} (q : a ≠ k) : kv_row h k f a = h a := by unfold kv_row; rw [if_neg q]
theorem pz_roweq (h : kv_H) {k : Nat} {f : Nat → Int32} : kv_row h k f k = f := by unfold kv_row; rw [if_pos rfl]
def pz_sh (h : kv_H) (i : Nat) : Prop := h (18 + 2 * i) 1 = h 115 i ∧ (h 115 i = -1 ∨ ((h 115 i = 0 ∨ h 115 i = 1) ∧ ∃ len : Nat, len ≤ 24 ∧ h (18 + 2 * i) 2 = nI len ∧ h 116 i = nI len ∧ ∀ k, k < len → h (19 + 2 * i) k = h 117 (24 * i + k)))
def pz_c3 (h : kv_H) : Prop := ∀ i, i < 4 → pz_sh h i
theorem pz_reg3 {a b : Nat} (q : (18 ≤ a ∧ a ≤ 25) ∨ (115 ≤ a ∧ a ≤ 117)) : pz_reg a b = 3 := by
  unfold pz_reg
  rw [if_neg (by omega), if_neg (by omega), if_neg (by omega), if_neg (by omega), if_pos q]
theorem pz_sh_fr {h h' : kv_H} {i : Nat} (hi : i < 4) (c : pz_sh h i) (f1 : ∀ b, h' (18 + 2 * i) b = h (18 + 2 * i) b) (f2 : ∀ b, h' (19 + 2 * i) b = h (19 + 2 * i) b) (f3 : h' 115 i = h 115 i) (f4 : h' 116 i = h 116 i) (f5 : ∀ k, k < 24 → h' 117 (24 * i + k) = h 117 (24 * i + k)) : pz_sh h' i := by
  obtain ⟨e1, e2⟩ := c
  refine ⟨by rw [f1, f3]; exact e1, ?_⟩
  rcases e2 with e2 | ⟨e2, len, hl, e3, e4, e5⟩
  · left; rw [f3]; exact e2
  · right; refine ⟨by rw [f3]; exact e2, len, hl, by rw [f1]; exact e3, by rw [f4]; exact e4, ?_⟩
    intro k hk; rw [f2, f5 k (by omega)]; exact e5 k hk
theorem pz_c3_fr {h h' : kv_H} (c : pz_c3 h) (f : ∀ a b, pz_reg a b = 3 → h' a b = h a b) : pz_c3 h' := fun i hi =>
  pz_sh_fr hi (c i hi) (fun b => f _ _ (pz_reg3 (by omega))) (fun b => f _ _ (pz_reg3 (by omega))) (f _ _ (pz_reg3 (by omega))) (f _ _ (pz_reg3 (by omega))) (fun k _ => f _ _ (pz_reg3 (by omega)))
theorem pz_begin (q0 j : Nat) (hj : j ≤ 24) (h : kv_H) (x : Int32) : f_X3_beginAnew q0 x (nI j) h = some ((), pz_st (kv_up (kv_up h q0 1 x) q0 2 (nI j)) (q0 + 1) 0 j (fun _ => 0)) := by
  unfold f_X3_beginAnew
  rw [pz_hl, pz_hl]
  refine pz_for (fun n k g => f_X3_beginAnew_L12 q0 (nI j) n (nI k) g (fun h4 => some ((), h4))) (fun k g => g = pz_st (kv_up (kv_up h q0 1 x) q0 2 (nI j)) (q0 + 1) 0 k (fun _ => 0)) (fun R => R = some ((), pz_st (kv_up (kv_up h q0 1 x) q0 2 (nI j)) (q0 + 1) 0 j (fun _ => 0))) j ?_ ?_ kv_fu 0 _ (by omega) (by rw [show kv_fu = 5000 from rfl]; omega) (pz_st0 _ _ _ _).symm
  · intro n s e
    simp (disch := omega) only [f_X3_beginAnew_L12, pz_lit, pz_le, pz_lt, pz_eq, pz_cl, pz_kN, pz_add, pz_mul, pz_sub, pz_b, pz_hl, pz_vl, pz_vL, pz_jn, if_pos, if_neg, Nat.add_zero, Nat.zero_add, if_true, if_false, e]
  · intro n k s hk e
    right
    refine ⟨_, rfl, ?_⟩
    rw [← pz_st1 _ _ _ _ _ (by omega) _ rfl, ← e]
    simp (disch := omega) only [f_X3_beginAnew_L12, pz_lit, pz_le, pz_lt, pz_eq, pz_cl, pz_kN, pz_add, pz_mul, pz_sub, pz_b, pz_hl, pz_vl, pz_vL, pz_jn, if_pos, if_neg, Nat.add_zero, Nat.zero_add, if_true, if_false]
theorem pz_clr (j : Nat) (hj : j < 4) (h : kv_H) (C : kv_H → Option (Int32 × kv_H)) : f_X10_sheet_L69 (nI j) kv_fu (nI 0) h C = C (pz_st h 117 (24 * j) (24 * j + 24) (fun _ => 0)) := by
  refine pz_for (fun n k g => f_X10_sheet_L69 (nI j) n (nI k) g C) (fun k g => g = pz_st h 117 (24 * j) (24 * j + k) (fun _ => 0)) (fun R => R = C (pz_st h 117 (24 * j) (24 * j + 24) (fun _ => 0))) 24 ?_ ?_ kv_fu 0 _ (by omega) (by rw [show kv_fu = 5000 from rfl]; omega) (pz_st0 _ _ _ _).symm
  · intro n s e
    simp (disch := omega) only [f_X10_sheet_L69, pz_lit, pz_le, pz_lt, pz_eq, pz_cl, pz_kN, pz_add, pz_mul, pz_sub, pz_b, pz_hl, pz_vl, pz_vL, pz_jn, if_pos, if_neg, Nat.add_zero, Nat.zero_add, if_true, if_false, e]
  · intro n k s hk e
    right
    refine ⟨_, rfl, ?_⟩
    rw [← Nat.add_assoc, ← pz_st1 _ _ _ _ _ (by omega) _ rfl, ← e]
    simp (disch := omega) only [f_X10_sheet_L69, pz_lit, pz_le, pz_lt, pz_eq, pz_cl, pz_kN, pz_add, pz_mul, pz_sub, pz_b, pz_hl, pz_vl, pz_vL, pz_jn, if_pos, if_neg, Nat.add_zero, Nat.zero_add, if_true, if_false]

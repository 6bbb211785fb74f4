/-! PURE PART: the least over fitting subsets -/
def pz_ss (u s : Nat) : Prop := u &&& s = u
theorem pz_ssT {u s : Nat} : pz_ss u s ↔ ∀ k, u.testBit k = true → s.testBit k = true := by
  unfold pz_ss
  constructor
  · intro h k hk
    have := congrArg (fun x => Nat.testBit x k) h
    simp only [Nat.testBit_and, hk, Bool.true_and] at this
    exact this
  · intro h
    apply Nat.eq_of_testBit_eq; intro k
    rw [Nat.testBit_and]
    have := h k
    revert this
    cases u.testBit k <;> cases s.testBit k <;> simp
theorem pz_ssL {u s : Nat} (h : pz_ss u s) : u ≤ s := by unfold pz_ss at h; rw [← h]; exact Nat.and_le_right
def pz_wf (fit : Nat → Bool) (T : Nat → Nat) (s : Nat) : Nat → Nat
  | 0 => T 0
  | k + 1 => if (k + 1) &&& s = k + 1 ∧ fit (k + 1) = true ∧ T (k + 1) < pz_wf fit T s k then T (k + 1) else pz_wf fit T s k
def pz_win (fit : Nat → Bool) (T : Nat → Nat) (s : Nat) : Nat := pz_wf fit T s s
/-- T' is the least of T over the fitting subsets of s -/
def pz_lw (fit : Nat → Bool) (T : Nat → Nat) (s v : Nat) : Prop := (∃ u, pz_ss u s ∧ fit u = true ∧ v = T u) ∧ ∀ u, pz_ss u s → fit u = true → v ≤ T u
theorem pz_lwU {fit : Nat → Bool} {T : Nat → Nat} {s v v' : Nat} (h : pz_lw fit T s v) (h' : pz_lw fit T s v') : v = v' := by
  obtain ⟨⟨u, a1, a2, a3⟩, a4⟩ := h
  obtain ⟨⟨u', b1, b2, b3⟩, b4⟩ := h'
  have := a4 u' b1 b2
  have := b4 u a1 a2
  omega
theorem pz_winW {fit : Nat → Bool} {T : Nat → Nat} (f0 : fit 0 = true) (s : Nat) : pz_lw fit T s (pz_win fit T s) := by
  have main : ∀ k, (∃ u, u ≤ k ∧ pz_ss u s ∧ fit u = true ∧ pz_wf fit T s k = T u) ∧ ∀ u, u ≤ k → pz_ss u s → fit u = true → pz_wf fit T s k ≤ T u := by
    intro k
    induction k with
    | zero =>
      refine ⟨⟨0, Nat.le_refl 0, Nat.zero_and s, f0, rfl⟩, fun u hu _ _ => ?_⟩
      rw [show u = 0 from by omega]; exact Nat.le_refl _
    | succ k ih =>
      obtain ⟨⟨u, a0, a1, a2, a3⟩, a4⟩ := ih
      rw [pz_wf]
      by_cases z : (k + 1) &&& s = k + 1 ∧ fit (k + 1) = true ∧ T (k + 1) < pz_wf fit T s k
      · rw [if_pos z]
        refine ⟨⟨k + 1, Nat.le_refl _, z.1, z.2.1, rfl⟩, fun v hv h1 h2 => ?_⟩
        by_cases y : v = k + 1
        · rw [y]; exact Nat.le_refl _
        · have := a4 v (by omega) h1 h2; omega
      · rw [if_neg z]
        refine ⟨⟨u, by omega, a1, a2, a3⟩, fun v hv h1 h2 => ?_⟩
        by_cases y : v = k + 1
        · subst y
          rcases Nat.lt_or_ge (T (k + 1)) (pz_wf fit T s k) with x | x
          · exact absurd ⟨h1, h2, x⟩ z
          · exact x
        · exact a4 v (by omega) h1 h2
  obtain ⟨⟨u, a0, a1, a2, a3⟩, a4⟩ := main s
  exact ⟨⟨u, a1, a2, a3⟩, fun v h1 h2 => a4 v (pz_ssL h1) h1 h2⟩
theorem pz_win0 {fit : Nat → Bool} (f0 : fit 0 = true) (s : Nat) : pz_win fit (fun _ => 0) s = 0 := by
  obtain ⟨⟨u, _, _, a⟩, _⟩ := pz_winW (T := fun _ => 0) f0 s
  exact a
/-- the step over one bit, and all of them -/
def pz_zt (t : Nat → Nat) : Nat → Nat → Nat
  | 0, s => t s
  | b + 1, s => if s.testBit b then (if pz_zt t b (s ^^^ 2 ^ b) < pz_zt t b s then pz_zt t b (s ^^^ 2 ^ b) else pz_zt t b s) else pz_zt t b s
def pz_sb2 (b u s : Nat) : Prop := ∀ k, (u.testBit k = true → s.testBit k = true) ∧ (b ≤ k → u.testBit k = s.testBit k)
theorem pz_xb (s b k : Nat) : (s ^^^ 2 ^ b).testBit k = (s.testBit k ^^ decide (b = k)) := by rw [Nat.testBit_xor, Nat.testBit_two_pow]
theorem pz_ztM (t : Nat → Nat) : ∀ b s, (∃ u, pz_sb2 b u s ∧ pz_zt t b s = t u) ∧ ∀ u, pz_sb2 b u s → pz_zt t b s ≤ t u := by
  intro b
  induction b with
  | zero =>
    intro s
    refine ⟨⟨s, fun k => ⟨id, fun _ => rfl⟩, rfl⟩, fun u hu => ?_⟩
    have : u = s := Nat.eq_of_testBit_eq (fun k => (hu k).2 (Nat.zero_le k))
    rw [this]; exact Nat.le_refl _
  | succ b ih =>
    intro s
    rw [pz_zt]
    by_cases z : s.testBit b = true
    · rw [if_pos z]
      obtain ⟨⟨u1, a1, a2⟩, a3⟩ := ih s
      obtain ⟨⟨u2, b1, b2⟩, b3⟩ := ih (s ^^^ 2 ^ b)
      have e1 : pz_sb2 (b + 1) u1 s := fun k => ⟨(a1 k).1, fun hk => (a1 k).2 (by omega)⟩
      have e2 : pz_sb2 (b + 1) u2 s := fun k => by
        refine ⟨fun hk => ?_, fun hk => ?_⟩
        · have := (b1 k).1 hk
          rw [pz_xb] at this
          by_cases y : b = k
          · rw [← y]; exact z
          · rw [decide_eq_false y, Bool.xor_false] at this; exact this
        · have := (b1 k).2 (by omega)
          rw [pz_xb, decide_eq_false (by omega), Bool.xor_false] at this; exact this
      have lo : ∀ u, pz_sb2 (b + 1) u s → pz_zt t b s ≤ t u ∨ pz_zt t b (s ^^^ 2 ^ b) ≤ t u := fun u hu => by
        by_cases y : u.testBit b = true
        · left
          refine a3 u (fun k => ⟨(hu k).1, fun hk => ?_⟩)
          by_cases x : k = b
          · rw [x, y, z]
          · exact (hu k).2 (by omega)
        · right
          refine b3 u (fun k => ⟨fun hk => ?_, fun hk => ?_⟩)
          · rw [pz_xb]
            by_cases x : b = k
            · rw [← x] at hk; exact absurd hk y
            · rw [decide_eq_false x, Bool.xor_false]; exact (hu k).1 hk
          · rw [pz_xb]
            by_cases x : b = k
            · rw [← x, decide_eq_true rfl, z]; simpa using y
            · rw [decide_eq_false x, Bool.xor_false]; exact (hu k).2 (by omega)
      by_cases q : pz_zt t b (s ^^^ 2 ^ b) < pz_zt t b s
      · rw [if_pos q]
        refine ⟨⟨u2, e2, b2⟩, fun u hu => ?_⟩
        rcases lo u hu with x | x <;> omega
      · rw [if_neg q]
        refine ⟨⟨u1, e1, a2⟩, fun u hu => ?_⟩
        rcases lo u hu with x | x <;> omega
    · rw [if_neg z]
      obtain ⟨⟨u1, a1, a2⟩, a3⟩ := ih s
      refine ⟨⟨u1, fun k => ⟨(a1 k).1, fun hk => (a1 k).2 (by omega)⟩, a2⟩, fun u hu => a3 u (fun k => ⟨(hu k).1, fun hk => ?_⟩)⟩
      by_cases x : k = b
      · subst x
        by_cases y : u.testBit k = true
        · exact absurd ((hu k).1 y) z
        · rw [show s.testBit k = false from by simpa using z]; simpa using y
      · exact (hu k).2 (by omega)
theorem pz_ztW {n : Nat} {fit : Nat → Bool} {T : Nat → Nat} (f0 : fit 0 = true) (big : Nat) (hb : T 0 < big) {s : Nat} (hs : s < 2 ^ n) : pz_zt (fun u => if fit u then T u else big) n s = pz_win fit T s := by
  have hk : ∀ k, n ≤ k → s.testBit k = false := fun k hk => Nat.testBit_lt_two_pow (Nat.lt_of_lt_of_le hs (Nat.pow_le_pow_right (by omega) hk))
  have conv : ∀ u, pz_ss u s → pz_sb2 n u s := fun u hu k => by
    have := pz_ssT.mp hu k
    refine ⟨this, fun q => ?_⟩
    rw [hk k q] at this ⊢
    cases h : u.testBit k
    · rfl
    · exact absurd (this h) (by simp)
  obtain ⟨⟨u, a1, a2⟩, a3⟩ := pz_ztM (fun u => if fit u then T u else big) n s
  have z0 := a3 0 (conv 0 (Nat.zero_and s))
  rw [if_pos f0] at z0
  have fu : fit u = true := by
    by_cases y : fit u = true
    · exact y
    · rw [if_neg y] at a2; omega
  rw [if_pos fu] at a2
  refine pz_lwU (fit := fit) (T := T) (s := s) ⟨⟨u, pz_ssT.mpr (fun k => (a1 k).1), fu, a2⟩, fun v h1 h2 => ?_⟩ (pz_winW f0 s)
  have := a3 v (conv v h1)
  rw [if_pos h2] at this; exact this

/-! PURE PART: the reference parses: pieces -/
def pz_S10 (h : kv_H) (base key : Nat) (S : List (Nat × Nat)) : Prop := h 111 29 = nI S.length ∧ h 111 30 = nI base ∧ ∀ i st, S[i]? = some st → h 112 (base + 2 * i) = nI st.1 ∧ h 112 (base + 2 * i + 1) = nI (pz_mv key st)
def pz_O10 (h : kv_H) (B : Nat → Nat) (len key base p q : Nat) (σ : pz_σ) : Prop := pz_L10 h len B ∧ pz_t10 h B σ.1 ∧ pz_S10 h base key σ.2.1 ∧ h 111 31 = nI σ.2.2 ∧ h 111 27 = nI p ∧ h 111 28 = nI q
def pz_f10 (base : Nat) (h h' : kv_H) : Prop := (∀ a, a ≠ 111 → a ≠ 112 → h' a = h a) ∧ (∀ b, b < 22 ∨ 31 < b → h' 111 b = h 111 b) ∧ ∀ b, b < base ∨ base + 200 ≤ b → h' 112 b = h 112 b
theorem pz_f10t {base : Nat} {h h1 h2 : kv_H} (a : pz_f10 base h h1) (b : pz_f10 base h1 h2) : pz_f10 base h h2 := ⟨fun x q1 q2 => (b.1 x q1 q2).trans (a.1 x q1 q2), fun x q => (b.2.1 x q).trans (a.2.1 x q), fun x q => (b.2.2 x q).trans (a.2.2 x q)⟩
theorem pz_f10r (base : Nat) (h : kv_H) : pz_f10 base h h := ⟨fun _ _ _ => rfl, fun _ _ => rfl, fun _ _ => rfl⟩
def pz_R10 (B : Nat → Nat) (len key base p q : Nat) (F : Option (Int32 × kv_H)) (r : Bool × pz_σ) (h : kv_H) : Prop := ∃ h', F = some (nI (if r.1 = true then 1 else 0), h') ∧ (r.1 = true → pz_O10 h' B len key base p q r.2) ∧ (r.1 = false → h' 111 22 = nI r.2.1.2.1) ∧ pz_f10 base h h'
theorem pz_advO10 {h : kv_H} {len key base p q : Nat} {B : Nat → Nat} {σ : pz_σ} (hl : len ≤ 96) (hB : ∀ k, k < len → B k < 256) (o : pz_O10 h B len key base p q σ) (t : pz_tv B len σ.1) (n0 : σ.1.1 ≠ 0) (good : σ.1.1 = 2 → σ.1.2.2 - σ.1.2.1 ≤ 4) : ∃ h', f_X10_nextToken h = some ((), h') ∧ pz_O10 h' B len key base p q (pz_fw B len σ) ∧ pz_f10 base h h' := by
  obtain ⟨o1, o2, o3, o4, o5, o6⟩ := o
  have := t.2.2.2.1 n0
  obtain ⟨h', x1, x2, x3, x4⟩ := pz_adv10 o1 hl hB o2 t.1 t.2.2.1 good (fun _ => by omega)
  refine ⟨h', x1, ⟨⟨by rw [x4 21 (by omega)]; exact o1.1, fun k hk => by rw [x3 130 (by omega)]; exact o1.2 k hk⟩, x2, ⟨by rw [x4 29 (by omega)]; exact o3.1, by rw [x4 30 (by omega)]; exact o3.2.1, fun i st hi => by rw [x3 112 (by omega)]; exact o3.2.2 i st hi⟩, by rw [x4 31 (by omega)]; exact o4, by rw [x4 27 (by omega)]; exact o5, by rw [x4 28 (by omega)]; exact o6⟩, fun a q1 q2 => x3 a q1, fun b q => x4 b (by omega), fun b _ => by rw [x3 112 (by omega)]⟩
theorem pz_stepO10 {h : kv_H} {len key base p q : Nat} {B : Nat → Nat} {σ : pz_σ} {st : Nat × Nat} {x1 x2 : Int32} (hb : base ≤ 2898) (o : pz_O10 h B len key base p q σ) (hS : σ.2.1.length < 96) (h1 : x1 = nI st.1) (h2 : x2 = nI (pz_mv key st)) : ∃ h', f_X10_step x1 x2 h = some ((), h') ∧ pz_O10 h' B len key base p q (pz_ad1 st σ) ∧ pz_f10 base h h' := by
  obtain ⟨o1, o2, ⟨o3, o7, o8⟩, o4, o5, o6⟩ := o
  obtain ⟨n, en⟩ : ∃ n, n = σ.2.1.length := ⟨_, rfl⟩
  rw [← en] at o3 hS
  obtain ⟨g, eg⟩ : ∃ g, g = kv_up (kv_up (kv_up h 112 (base + 2 * n) x1) 112 (base + 2 * n + 1) x2) 111 29 (nI (n + 1)) := ⟨_, rfl⟩
  have f1 : ∀ a, a ≠ 111 → a ≠ 112 → g a = h a := fun a q1 q2 => by rw [eg, pz_upne q1, pz_upne q2, pz_upne q2]
  have f2 : ∀ b, b ≠ 29 → g 111 b = h 111 b := fun b q => by rw [eg, pz_upeq, pz_upd, if_neg q, pz_upne (by omega), pz_upne (by omega)]
  have f3 : ∀ b, b ≠ base + 2 * n → b ≠ base + 2 * n + 1 → g 112 b = h 112 b := fun b q1 q2 => by rw [eg, pz_upne (by omega), pz_upeq, pz_upd, if_neg q2, pz_upeq, pz_upd, if_neg q1]
  refine ⟨g, ?_, ⟨⟨by rw [f2 21 (by omega)]; exact o1.1, fun k hk => by rw [f1 130 (by omega) (by omega)]; exact o1.2 k hk⟩, ⟨by rw [f2 22 (by omega)]; exact o2.1, by rw [f2 23 (by omega)]; exact o2.2.1, by rw [f2 24 (by omega)]; exact o2.2.2.1, fun w => by rw [f2 26 (by omega)]; exact o2.2.2.2.1 w, fun w => by rw [f2 26 (by omega)]; exact o2.2.2.2.2.1 w, fun w => by rw [f2 25 (by omega)]; exact o2.2.2.2.2.2 w⟩, ⟨?_, by rw [f2 30 (by omega)]; exact o7, ?_⟩, by rw [f2 31 (by omega)]; exact o4, by rw [f2 27 (by omega)]; exact o5, by rw [f2 28 (by omega)]; exact o6⟩, f1, fun b q => f2 b (by omega), fun b q => f3 b (by omega) (by omega)⟩
  · have e0 : (h 111 30) + (2 * (h 111 29)) = nI (base + 2 * n) := by rw [o7, o3, show (2 : Int32) = nI 2 from rfl, pz_mul, pz_add]
    rw [f_X10_step, e0, pz_kN (by omega) (by omega), pz_hl, pz_cl (by omega), pz_upne (by omega), e0, show nI (base + 2 * n) + (1 : Int32) = nI (base + 2 * n + 1) from pz_add _ 1, pz_kN (by omega) (by omega), pz_hl, pz_cl (by omega), pz_upne (by omega), pz_upne (by omega), o3, nI_1, pz_hl, ← eg]
  · show g 111 29 = nI (σ.2.1 ++ [st]).length
    rw [List.length_append, List.length_singleton, ← en, eg, pz_upeq, pz_upd, if_pos rfl]
  · intro i s hi
    by_cases z : i < σ.2.1.length
    · have hi' : σ.2.1[i]? = some s := by rw [← hi]; exact (List.getElem?_append_left z).symm
      rw [f3 _ (by omega) (by omega), f3 _ (by omega) (by omega)]; exact o8 i s hi'
    · have hi' : [st][i - σ.2.1.length]? = some s := by rw [← hi]; exact (List.getElem?_append_right (by omega)).symm
      have i0 := pz_lt1 hi'
      have : i - σ.2.1.length = 0 := by omega
      rw [this] at hi'
      cases hi'
      obtain rfl : i = n := by omega
      refine ⟨?_, ?_⟩
      · rw [eg, pz_upne (by omega), pz_upeq, pz_upd, if_neg (by omega), pz_upeq, pz_upd, if_pos rfl, h1]
      · rw [eg, pz_upne (by omega), pz_upeq, pz_upd, if_pos rfl, h2]
theorem pz_signO10 {h : kv_H} {len key base p q c : Nat} {B : Nat → Nat} {σ : pz_σ} (hl : len ≤ 96) (hB : ∀ k, k < len → B k < 256) (o : pz_O10 h B len key base p q σ) (t : pz_tv B len σ.1) (hc : c < 256) : f_X10_isSign (nI c) h = some (if σ.1.1 = 3 ∧ B σ.1.2.1 = c then 1 else 0, h) := by
  have t1 := t.1
  have mb : pz_msr σ.1 ≤ 4 := by unfold pz_msr; split <;> omega
  have m3 : pz_msr σ.1 = 3 ↔ σ.1.1 = 3 := by
    unfold pz_msr
    by_cases w : σ.1.1 = 2 ∧ 4 < σ.1.2.2 - σ.1.2.1
    · rw [if_pos w]; omega
    · rw [if_neg w]
  rw [f_X10_isSign, o.2.1.2.2.1]
  by_cases z : σ.1.1 = 3
  · have al : σ.1.2.1 < len := by have := t.2.2.2.1 (by omega); have := t.2.2.1; omega
    have bb := hB _ al
    rw [if_pos (show nI (pz_msr σ.1) = (3 : Int32) by rw [m3.mpr z]; rfl), o.2.1.2.2.2.1 z]
    by_cases y : B σ.1.2.1 = c
    · rw [if_pos (by rw [y]), if_pos ⟨z, y⟩]
    · rw [if_neg (fun w => y ((nI_eq (by omega) (by omega)).mp w)), if_neg (fun w => y w.2)]
  · rw [if_neg (show ¬ nI (pz_msr σ.1) = (3 : Int32) from fun w => z (m3.mp ((nI_eq (b := 3) (by omega) (by omega)).mp w))), if_neg (fun w => z w.1)]
theorem pz_ix9 (c : Nat) : (c = 124 ∧ pz_ixn pz_JT c 0 = some 0) ∨ (c = 38 ∧ pz_ixn pz_JT c 0 = some 1) ∨ (c = 60 ∧ pz_ixn pz_JT c 0 = some 2) ∨ (c = 61 ∧ pz_ixn pz_JT c 0 = some 3) ∨ (c = 62 ∧ pz_ixn pz_JT c 0 = some 4) ∨ (c = 43 ∧ pz_ixn pz_JT c 0 = some 5) ∨ (c = 45 ∧ pz_ixn pz_JT c 0 = some 6) ∨ (c = 42 ∧ pz_ixn pz_JT c 0 = some 7) ∨ (c = 47 ∧ pz_ixn pz_JT c 0 = some 8) ∨ ((c ≠ 124 ∧ c ≠ 38 ∧ c ≠ 60 ∧ c ≠ 61 ∧ c ≠ 62 ∧ c ≠ 43 ∧ c ≠ 45 ∧ c ≠ 42 ∧ c ≠ 47) ∧ pz_ixn pz_JT c 0 = none) := by
  by_cases z0 : c = 124
  · subst z0; exact Or.inl ⟨rfl, rfl⟩
  by_cases z1 : c = 38
  · subst z1; exact Or.inr (Or.inl ⟨rfl, rfl⟩)
  by_cases z2 : c = 60
  · subst z2; exact Or.inr (Or.inr (Or.inl ⟨rfl, rfl⟩))
  by_cases z3 : c = 61
  · subst z3; exact Or.inr (Or.inr (Or.inr (Or.inl ⟨rfl, rfl⟩)))
  by_cases z4 : c = 62
  · subst z4; exact Or.inr (Or.inr (Or.inr (Or.inr (Or.inl ⟨rfl, rfl⟩))))
  by_cases z5 : c = 43
  · subst z5; exact Or.inr (Or.inr (Or.inr (Or.inr (Or.inr (Or.inl ⟨rfl, rfl⟩)))))
  by_cases z6 : c = 45
  · subst z6; exact Or.inr (Or.inr (Or.inr (Or.inr (Or.inr (Or.inr (Or.inl ⟨rfl, rfl⟩))))))
  by_cases z7 : c = 42
  · subst z7; exact Or.inr (Or.inr (Or.inr (Or.inr (Or.inr (Or.inr (Or.inr (Or.inl ⟨rfl, rfl⟩)))))))
  by_cases z8 : c = 47
  · subst z8; exact Or.inr (Or.inr (Or.inr (Or.inr (Or.inr (Or.inr (Or.inr (Or.inr (Or.inl ⟨rfl, rfl⟩))))))))
  refine Or.inr (Or.inr (Or.inr (Or.inr (Or.inr (Or.inr (Or.inr (Or.inr (Or.inr ⟨⟨z0, z1, z2, z3, z4, z5, z6, z7, z8⟩, ?_⟩))))))))
  unfold pz_JT
  rw [pz_ixn, if_neg (fun w => z0 w.symm), pz_ixn, if_neg (fun w => z1 w.symm), pz_ixn, if_neg (fun w => z2 w.symm), pz_ixn, if_neg (fun w => z3 w.symm), pz_ixn, if_neg (fun w => z4 w.symm), pz_ixn, if_neg (fun w => z5 w.symm), pz_ixn, if_neg (fun w => z6 w.symm), pz_ixn, if_neg (fun w => z7 w.symm), pz_ixn, if_neg (fun w => z8 w.symm), pz_ixn]
/-- which joiner a token is at a level, by its sign -/
theorem pz_jlC (B : Nat → Nat) (l : Nat) (τ : Nat × Nat × Nat) : (τ.1 ≠ 3 ∧ pz_jl B l τ = none) ∨ (τ.1 = 3 ∧ ((∃ j, j < 9 ∧ B τ.2.1 = pz_sg j ∧ pz_jl B l τ = (if pz_TI.getD j 9 = l then some j else none)) ∨ ((B τ.2.1 ≠ 124 ∧ B τ.2.1 ≠ 38 ∧ B τ.2.1 ≠ 60 ∧ B τ.2.1 ≠ 61 ∧ B τ.2.1 ≠ 62 ∧ B τ.2.1 ≠ 43 ∧ B τ.2.1 ≠ 45 ∧ B τ.2.1 ≠ 42 ∧ B τ.2.1 ≠ 47) ∧ pz_jl B l τ = none))) := by
  unfold pz_jl pz_jo'
  by_cases z : τ.1 = 3
  · right
    refine ⟨z, ?_⟩
    rw [if_pos z]
    have fs : ∀ j, Option.filter (fun j => decide (pz_TI.getD j 9 = l)) (some j) = if pz_TI.getD j 9 = l then some j else none := by
      intro j
      rw [Option.filter_some]
      by_cases w : pz_TI.getD j 9 = l
      · rw [if_pos w, if_pos (decide_eq_true w)]
      · rw [if_neg w, if_neg (fun v => w (of_decide_eq_true v))]
    rcases pz_ix9 (B τ.2.1) with ⟨a, b⟩ | ⟨a, b⟩ | ⟨a, b⟩ | ⟨a, b⟩ | ⟨a, b⟩ | ⟨a, b⟩ | ⟨a, b⟩ | ⟨a, b⟩ | ⟨a, b⟩ | ⟨a, b⟩
    · exact Or.inl ⟨0, by omega, a, by rw [b, fs]⟩
    · exact Or.inl ⟨1, by omega, a, by rw [b, fs]⟩
    · exact Or.inl ⟨2, by omega, a, by rw [b, fs]⟩
    · exact Or.inl ⟨3, by omega, a, by rw [b, fs]⟩
    · exact Or.inl ⟨4, by omega, a, by rw [b, fs]⟩
    · exact Or.inl ⟨5, by omega, a, by rw [b, fs]⟩
    · exact Or.inl ⟨6, by omega, a, by rw [b, fs]⟩
    · exact Or.inl ⟨7, by omega, a, by rw [b, fs]⟩
    · exact Or.inl ⟨8, by omega, a, by rw [b, fs]⟩
    · exact Or.inr ⟨a, by rw [b]; rfl⟩
  · exact Or.inl ⟨z, by rw [if_neg z]; rfl⟩
/-- a loop of the reference that joins at a level -/
theorem pz_loop10 {len key base p q l lv : Nat} {B : Nat → Nat} {rc : Nat → Int32 → kv_H → Option (Int32 × kv_H)} {f : pz_σ → Bool × pz_σ} {L : Nat → kv_H → Option (Int32 × kv_H)} (hb : base ≤ 2898) (hl : len ≤ 96) (hB : ∀ k, k < len → B k < 256) (hf : ∀ (σ : pz_σ) (h : kv_H), pz_tv B len σ.1 → σ.2.1.length ≤ σ.1.2.1 → pz_O10 h B len key base p q σ → pz_R10 B len key base p q (rc lv (nI key) h) (f σ) h) (hrb : ∀ σ : pz_σ, pz_tv B len σ.1 → pz_rb B len key σ (f σ))
    (H : ∀ (fu : Nat) (σ : pz_σ) (h : kv_H), pz_tv B len σ.1 → pz_O10 h B len key base p q σ → (pz_jl B l σ.1 = none → L (fu + 1) h = some (1, h)) ∧ ∀ j, pz_jl B l σ.1 = some j → L (fu + 1) h = kv_b (f_X10_nextToken h) (fun _ h5 => kv_b (rc lv (nI key) h5) (fun r7 h6 => if r7 = 0 then some (0, h6) else kv_b (f_X10_step 2 (nI (pz_sg j)) h6) (fun _ h8 => L fu h8)))) : ∀ (n : Nat) (σ : pz_σ) (h : kv_H) (fu : Nat), 96 ≤ n + σ.1.2.1 → n < fu → pz_tv B len σ.1 → σ.2.1.length ≤ σ.1.2.1 → pz_O10 h B len key base p q σ → pz_R10 B len key base p q (L fu h) (pz_J f B len l n σ) h := by
  intro n
  induction n with
  | zero =>
    intro σ h fu e1 e2 t hS o
    obtain ⟨fu, rfl⟩ : ∃ f, fu = f + 1 := ⟨fu - 1, by omega⟩
    have s0 : σ.1.1 = 0 := by
      apply Classical.byContradiction
      intro w
      have := t.2.2.2.1 w
      have := t.2.2.1
      omega
    have jn : pz_jl B l σ.1 = none := by
      cases hj : pz_jl B l σ.1 with
      | none => rfl
      | some j => have := (pz_jl3 hj).1; omega
    exact ⟨h, (H fu σ h t o).1 jn, fun _ => o, fun w => (by cases w), pz_f10r base h⟩
  | succ n ih =>
    intro σ h fu e1 e2 t hS o
    obtain ⟨fu, rfl⟩ : ∃ f, fu = f + 1 := ⟨fu - 1, by omega⟩
    rw [pz_J]
    cases hj : pz_jl B l σ.1 with
    | none => exact ⟨h, (H fu σ h t o).1 hj, fun _ => o, fun w => (by cases w), pz_f10r base h⟩
    | some j =>
      have j3 := pz_jl3 hj
      have fv := pz_fwV t (by omega)
      obtain ⟨h1, x1, x2, x3⟩ := pz_advO10 hl hB o t (by omega) (by omega)
      obtain ⟨h2, y1, y2, y3, y4⟩ := hf (pz_fw B len σ) h1 fv.1 (by show σ.2.1.length ≤ (pz_fw B len σ).1.2.1; omega) x2
      obtain ⟨r1, r2, r3, r4, r5⟩ := hrb (pz_fw B len σ) fv.1
      have e3 : (pz_fw B len σ).2.1 = σ.2.1 := rfl
      rw [e3] at r3
      have tl := r1.2.2.1
      have tl2 := r1.2.1
      rw [(H fu σ h t o).2 j hj, x1, pz_b, y1, pz_b]
      show pz_R10 B len key base p q _ (if (f (pz_fw B len σ)).1 = true then pz_J f B len l n (pz_ad1 (2, j) (f (pz_fw B len σ)).2) else (f (pz_fw B len σ))) h
      by_cases z : (f (pz_fw B len σ)).1 = true
      · rw [if_pos z, if_pos z, if_neg (by decide)]
        obtain ⟨h3, z1, z2, z3⟩ := pz_stepO10 (st := (2, j)) (x1 := 2) (x2 := nI (pz_sg j)) hb (y2 z) (by omega) rfl rfl
        rw [z1, pz_b]
        obtain ⟨h', w1, w2, w3, w4⟩ := ih (pz_ad1 (2, j) (f (pz_fw B len σ)).2) h3 fu (by show 96 ≤ n + (f (pz_fw B len σ)).2.1.2.1; omega) (by omega) r1 (by
          show ((f (pz_fw B len σ)).2.2.1 ++ [(2, j)]).length ≤ (f (pz_fw B len σ)).2.1.2.1
          rw [List.length_append, List.length_singleton]; omega) z2
        exact ⟨h', w1, w2, w3, pz_f10t x3 (pz_f10t y4 (pz_f10t z3 w4))⟩
      · rw [if_neg z, if_neg z, if_pos (show nI 0 = (0 : Int32) from rfl)]
        have fz : (f (pz_fw B len σ)).1 = false := by simpa using z
        exact ⟨h2, by rw [if_neg z]; rfl, fun w => absurd w z, fun _ => y3 fz, pz_f10t x3 y4⟩

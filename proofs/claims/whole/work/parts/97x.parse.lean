/-! PURE PART: the parser in the middle -/
abbrev pz_σ : Type := (Nat × Nat × Nat) × List (Nat × Nat) × Nat
def pz_fw (B : Nat → Nat) (len : Nat) (σ : pz_σ) : pz_σ := (pz_nx B len σ.1.1 σ.1.2.2, σ.2.1, σ.2.2)
def pz_gi (B : Nat → Nat) (len : Nat) (st : Nat × Nat) (σ : pz_σ) : pz_σ := (pz_nx B len σ.1.1 σ.1.2.2, σ.2.1 ++ [st], σ.2.2 + 1)
def pz_ad1 (st : Nat × Nat) (σ : pz_σ) : pz_σ := (σ.1, σ.2.1 ++ [st], σ.2.2)
def pz_jl (B : Nat → Nat) (l : Nat) (τ : Nat × Nat × Nat) : Option Nat := (pz_jo' B τ).filter (fun j => decide (pz_TI.getD j 9 = l))
def pz_J (f : pz_σ → Bool × pz_σ) (B : Nat → Nat) (len l : Nat) : Nat → pz_σ → Bool × pz_σ
  | 0, σ => (true, σ)
  | n + 1, σ => (pz_jl B l σ.1).elim (true, σ) (fun j => if (f (pz_fw B len σ)).1 = true then pz_J f B len l n (pz_ad1 (2, j) (f (pz_fw B len σ)).2) else (f (pz_fw B len σ)))
def pz_pp (rc : Nat → Nat → Nat → pz_σ → Bool × pz_σ) (B : Nat → Nat) (len key p q : Nat) (σ : pz_σ) : Bool × pz_σ :=
  if σ.1.1 = 2 ∧ σ.1.2.2 - σ.1.2.1 ≤ 4 then (true, pz_gi B len (0, pz_nv B (σ.1.2.2 - σ.1.2.1) σ.1.2.1 0) σ)
  else (if σ.1.1 = 1 then pz_na B key σ.1 else none).elim
    (if σ.1.1 = 3 ∧ B σ.1.2.1 = 33 ∧ q < 8 then (if (rc 5 p (q + 1) (pz_fw B len σ)).1 = true then (true, pz_ad1 (2, 9) (rc 5 p (q + 1) (pz_fw B len σ)).2) else rc 5 p (q + 1) (pz_fw B len σ))
     else if σ.1.1 = 3 ∧ B σ.1.2.1 = 40 ∧ p < 8 then (if (rc 0 (p + 1) q (pz_fw B len σ)).1 = true then (if (rc 0 (p + 1) q (pz_fw B len σ)).2.1.1 = 3 ∧ B (rc 0 (p + 1) q (pz_fw B len σ)).2.1.2.1 = 41 then (true, pz_fw B len (rc 0 (p + 1) q (pz_fw B len σ)).2) else (false, (rc 0 (p + 1) q (pz_fw B len σ)).2)) else rc 0 (p + 1) q (pz_fw B len σ))
     else (false, σ))
    (fun j => (true, pz_gi B len (1, j) σ))
def pz_P (B : Nat → Nat) (len key : Nat) : Nat → Nat → Nat → Nat → pz_σ → Bool × pz_σ
  | 0, _, _, _, σ => (false, σ)
  | d + 1, l, p, q, σ => if l < 5 then (if (pz_P B len key d (l + 1) p q σ).1 = true then pz_J (pz_P B len key d (l + 1) p q) B len l (if l = 2 then 1 else 96) (pz_P B len key d (l + 1) p q σ).2 else pz_P B len key d (l + 1) p q σ) else pz_pp (pz_P B len key d) B len key p q σ
/-- what holds of every token -/
def pz_tv (B : Nat → Nat) (len : Nat) (τ : Nat × Nat × Nat) : Prop := τ.1 ≤ 4 ∧ τ.2.1 ≤ τ.2.2 ∧ τ.2.2 ≤ len ∧ (τ.1 ≠ 0 → τ.2.1 < τ.2.2) ∧ (τ.1 = 2 → ∀ k, τ.2.1 ≤ k → k < τ.2.2 → pz_srt (B k) = 2) ∧ (τ.1 = 0 → τ.2.1 = len)
theorem pz_nxV (B : Nat → Nat) {len s e : Nat} (he : e ≤ len) : pz_tv B len (pz_nx B len s e) ∧ e ≤ (pz_nx B len s e).2.1 := by
  have zb := pz_skB B (len - e) e
  unfold pz_nx
  by_cases q : pz_sk B (len - e) e = len
  · rw [if_pos q]
    exact ⟨⟨Nat.zero_le _, Nat.le_refl _, Nat.le_refl _, fun w => absurd rfl w, fun w => (by cases w), fun _ => rfl⟩, he⟩
  · rw [if_neg q]
    by_cases q3 : pz_srt (B (pz_sk B (len - e) e)) = 3
    · rw [if_pos q3]
      refine ⟨⟨by show 3 ≤ 4; omega, Nat.le_succ _, by show pz_sk B (len - e) e + 1 ≤ len; omega, fun _ => Nat.lt_succ_self _, fun w => (by cases w), fun w => by cases w⟩, zb.1⟩
    · rw [if_neg q3]
      have sb := pz_srtB (B (pz_sk B (len - e) e))
      have rb := pz_rnB B (pz_srt (B (pz_sk B (len - e) e))) (len - (pz_sk B (len - e) e + 1)) (pz_sk B (len - e) e + 1)
      refine ⟨⟨?_, ?_, ?_, fun _ => ?_, fun w k h1 h2 => ?_, fun w => ?_⟩, zb.1⟩
      · show (if (s = 1 ∨ s = 2) ∧ pz_sk B (len - e) e = e then 4 else pz_srt (B (pz_sk B (len - e) e))) ≤ 4
        split <;> omega
      · dsimp only; omega
      · dsimp only; omega
      · dsimp only; omega
      · dsimp only at w h1 h2
        have s2 : pz_srt (B (pz_sk B (len - e) e)) = 2 := by
          by_cases y : (s = 1 ∨ s = 2) ∧ pz_sk B (len - e) e = e
          · rw [if_pos y] at w; cases w
          · rw [if_neg y] at w; exact w
        by_cases x : k = pz_sk B (len - e) e
        · rw [x]; exact s2
        · have := rb.2.2 k (by omega) h2
          rw [this, s2]
      · dsimp only at w
        by_cases y : (s = 1 ∨ s = 2) ∧ pz_sk B (len - e) e = e
        · rw [if_pos y] at w; cases w
        · rw [if_neg y] at w; omega
/-- a piece of steps that puts one value on the pile -/
def pz_ok1 (nk : Nat) (E : List (Nat × Nat)) : Prop := ∀ rest d, pz_va nk rest (d + 1) → pz_va nk (E ++ rest) d
/-- what a reading keeps -/
def pz_rb (B : Nat → Nat) (len key : Nat) (σ : pz_σ) (r : Bool × pz_σ) : Prop := pz_tv B len r.2.1 ∧ σ.1.2.1 ≤ r.2.1.2.1 ∧ r.2.2.1.length + σ.1.2.1 ≤ σ.2.1.length + r.2.1.2.1 ∧ r.2.2.2 + σ.2.1.length ≤ σ.2.2 + r.2.2.1.length ∧ (r.1 = true → σ.1.2.1 < r.2.1.2.1 ∧ ∃ E, r.2.2.1 = σ.2.1 ++ E ∧ pz_ok1 (pz_nk key) E)
theorem pz_fwV {B : Nat → Nat} {len : Nat} {σ : pz_σ} (t : pz_tv B len σ.1) (n0 : σ.1.1 ≠ 0) : pz_tv B len (pz_fw B len σ).1 ∧ σ.1.2.1 < (pz_fw B len σ).1.2.1 := by
  have := pz_nxV B (len := len) (s := σ.1.1) (e := σ.1.2.2) t.2.2.1
  have := t.2.2.2.1 n0
  exact ⟨‹_ ∧ _›.1, by have := ‹pz_tv B len (pz_nx B len σ.1.1 σ.1.2.2) ∧ _›.2; show _ < (pz_nx B len σ.1.1 σ.1.2.2).2.1; omega⟩
theorem pz_jl3 {B : Nat → Nat} {l j : Nat} {τ : Nat × Nat × Nat} (h : pz_jl B l τ = some j) : τ.1 = 3 ∧ pz_ixn pz_JT (B τ.2.1) 0 = some j ∧ j < 9 ∧ pz_TI.getD j 9 = l := by
  unfold pz_jl at h
  have h1 := Option.mem_filter_iff.mp (show j ∈ (pz_jo' B τ).filter _ from h)
  have h2 := of_decide_eq_true h1.2
  have h3 : pz_jo' B τ = some j := h1.1
  unfold pz_jo' at h3
  by_cases z : τ.1 = 3
  · rw [if_pos z] at h3
    exact ⟨z, h3, by have := pz_ixnL _ _ _ _ h3; exact Nat.lt_of_lt_of_le this.2.1 (by decide), h2⟩
  · rw [if_neg z] at h3; cases h3
theorem pz_rbJ {B : Nat → Nat} {len key l : Nat} {f : pz_σ → Bool × pz_σ} (hf : ∀ σ : pz_σ, pz_tv B len σ.1 → pz_rb B len key σ (f σ)) : ∀ (n : Nat) (σ0 σ : pz_σ) (E : List (Nat × Nat)), pz_tv B len σ.1 → σ0.1.2.1 < σ.1.2.1 → σ.2.1.length + σ0.1.2.1 ≤ σ0.2.1.length + σ.1.2.1 → σ.2.2 + σ0.2.1.length ≤ σ0.2.2 + σ.2.1.length → σ.2.1 = σ0.2.1 ++ E → pz_ok1 (pz_nk key) E → pz_rb B len key σ0 (pz_J f B len l n σ) := by
  intro n
  induction n with
  | zero =>
    intro σ0 σ E t h1 h2 h3 h4 h5
    rw [pz_J]
    exact ⟨t, by dsimp only; omega, h2, h3, fun _ => ⟨h1, E, h4, h5⟩⟩
  | succ n ih =>
    intro σ0 σ E t h1 h2 h3 h4 h5
    rw [pz_J]
    cases hj : pz_jl B l σ.1 with
    | none =>
      show pz_rb B len key σ0 (true, σ)
      exact ⟨t, by dsimp only; omega, h2, h3, fun _ => ⟨h1, E, h4, h5⟩⟩
    | some j =>
      have j3 := pz_jl3 hj
      have fv := pz_fwV t (by omega)
      have r := hf (pz_fw B len σ) fv.1
      obtain ⟨r1, r2, r3, r4, r5⟩ := r
      have e1 : (pz_fw B len σ).2.1 = σ.2.1 := rfl
      have e2 : (pz_fw B len σ).2.2 = σ.2.2 := rfl
      rw [e1] at r3 r4 r5
      rw [e2] at r4
      show pz_rb B len key σ0 (if (f (pz_fw B len σ)).1 = true then pz_J f B len l n (pz_ad1 (2, j) (f (pz_fw B len σ)).2) else (f (pz_fw B len σ)))
      by_cases z : (f (pz_fw B len σ)).1 = true
      · rw [if_pos z]
        obtain ⟨r6, E2, r7, r8⟩ := r5 z
        refine ih σ0 (pz_ad1 (2, j) (f (pz_fw B len σ)).2) (E ++ (E2 ++ [(2, j)])) r1 ?_ ?_ ?_ ?_ ?_
        · show σ0.1.2.1 < (f (pz_fw B len σ)).2.1.2.1; omega
        · show ((f (pz_fw B len σ)).2.2.1 ++ [(2, j)]).length + _ ≤ _ + (f (pz_fw B len σ)).2.1.2.1
          rw [List.length_append, List.length_singleton]; omega
        · show (f (pz_fw B len σ)).2.2.2 + _ ≤ _ + ((f (pz_fw B len σ)).2.2.1 ++ [(2, j)]).length
          rw [List.length_append, List.length_singleton]; omega
        · show (f (pz_fw B len σ)).2.2.1 ++ [(2, j)] = _
          rw [r7, h4, List.append_assoc, List.append_assoc]
        · intro rest d hr
          rw [List.append_assoc, List.append_assoc]
          apply h5
          apply r8
          show pz_va (pz_nk key) ((2, j) :: rest) (d + 1 + 1)
          exact Or.inr (Or.inr (Or.inr ⟨rfl, j3.2.2.1, by omega, hr⟩))
      · rw [if_neg z]
        exact ⟨r1, by omega, by omega, by omega, fun w => absurd w z⟩
theorem pz_rbP {B : Nat → Nat} {len key : Nat} (hk : key ≤ 2) (hB : ∀ k, k < len → B k < 256) : ∀ (d l p q : Nat) (σ : pz_σ), pz_tv B len σ.1 → pz_rb B len key σ (pz_P B len key d l p q σ) := by
  have nkT : (pz_NT key).length = pz_nk key := by
    rcases (show key = 0 ∨ key = 1 ∨ key = 2 by omega) with rfl | rfl | rfl <;> rfl
  have fails : ∀ σ : pz_σ, pz_tv B len σ.1 → pz_rb B len key σ (false, σ) := fun σ t => ⟨t, Nat.le_refl _, Nat.le_refl _, Nat.le_refl _, fun w => by cases w⟩
  intro d
  induction d with
  | zero => intro l p q σ t; exact fails σ t
  | succ d ih =>
    intro l p q σ t
    rw [pz_P]
    by_cases zl : l < 5
    · rw [if_pos zl]
      have r := ih (l + 1) p q σ t
      by_cases z : (pz_P B len key d (l + 1) p q σ).1 = true
      · rw [if_pos z]
        obtain ⟨r1, r2, r3, r4, r5⟩ := r
        obtain ⟨r6, E, r7, r8⟩ := r5 z
        exact pz_rbJ (fun σ' t' => ih (l + 1) p q σ' t') _ σ _ E r1 r6 r3 r4 r7 r8
      · rw [if_neg z]; exact r
    · rw [if_neg zl, pz_pp]
      have give : ∀ st : Nat × Nat, σ.1.1 ≠ 0 → ((st.1 = 0 ∧ st.2 ≤ 9999) ∨ (st.1 = 1 ∧ st.2 < pz_nk key)) → pz_rb B len key σ (true, pz_gi B len st σ) := by
        intro st n0 hst
        have fv := pz_fwV t n0
        refine ⟨fv.1, by show σ.1.2.1 ≤ (pz_fw B len σ).1.2.1; omega, ?_, ?_, fun _ => ⟨fv.2, [st], rfl, fun rest d hr => ?_⟩⟩
        · show (σ.2.1 ++ [st]).length + _ ≤ _ + (pz_fw B len σ).1.2.1
          rw [List.length_append, List.length_singleton]; omega
        · show σ.2.2 + 1 + _ ≤ _ + (σ.2.1 ++ [st]).length
          rw [List.length_append, List.length_singleton]; omega
        · rcases hst with ⟨a, b⟩ | ⟨a, b⟩
          · exact Or.inl ⟨a, b, hr⟩
          · exact Or.inr (Or.inl ⟨a, b, hr⟩)
      by_cases z2 : σ.1.1 = 2 ∧ σ.1.2.2 - σ.1.2.1 ≤ 4
      · rw [if_pos z2]
        refine give _ (by omega) (Or.inl ⟨rfl, ?_⟩)
        have := pz_nvB (B := B) (i := σ.1.2.1) (σ.1.2.2 - σ.1.2.1) (fun k h1 h2 => t.2.2.2.2.1 z2.1 k h1 (by omega))
        have := Nat.pow_le_pow_right (n := 10) (i := σ.1.2.2 - σ.1.2.1) (j := 4) (by omega) z2.2
        show pz_nv B (σ.1.2.2 - σ.1.2.1) σ.1.2.1 0 ≤ 9999
        omega
      rw [if_neg z2]
      cases hn : (if σ.1.1 = 1 then pz_na B key σ.1 else none) with
      | some j =>
        by_cases z1 : σ.1.1 = 1
        · rw [if_pos z1] at hn
          unfold pz_na at hn
          refine give (1, j) (by omega) (Or.inr ⟨rfl, ?_⟩)
          by_cases w : σ.1.2.2 - σ.1.2.1 = 1
          · rw [if_pos w] at hn
            have := pz_ixnL _ _ _ _ hn
            show j < pz_nk key
            omega
          · rw [if_neg w] at hn; cases hn
        · rw [if_neg z1] at hn; cases hn
      | none =>
        show pz_rb B len key σ (if σ.1.1 = 3 ∧ B σ.1.2.1 = 33 ∧ q < 8 then _ else _)
        by_cases z3 : σ.1.1 = 3 ∧ B σ.1.2.1 = 33 ∧ q < 8
        · rw [if_pos z3]
          have fv := pz_fwV t (by omega)
          obtain ⟨r1, r2, r3, r4, r5⟩ := ih 5 p (q + 1) (pz_fw B len σ) fv.1
          have e1 : (pz_fw B len σ).2.1 = σ.2.1 := rfl
          have e2 : (pz_fw B len σ).2.2 = σ.2.2 := rfl
          rw [e1] at r3 r4 r5
          rw [e2] at r4
          by_cases z : (pz_P B len key d 5 p (q + 1) (pz_fw B len σ)).1 = true
          · rw [if_pos z]
            obtain ⟨r6, E, r7, r8⟩ := r5 z
            refine ⟨r1, ?_, ?_, ?_, fun _ => ⟨?_, E ++ [(2, 9)], ?_, fun rest d' hr => ?_⟩⟩
            · show _ ≤ (pz_P B len key d 5 p (q + 1) (pz_fw B len σ)).2.1.2.1; omega
            · show ((pz_P B len key d 5 p (q + 1) (pz_fw B len σ)).2.2.1 ++ [(2, 9)]).length + _ ≤ _ + (pz_P B len key d 5 p (q + 1) (pz_fw B len σ)).2.1.2.1
              rw [List.length_append, List.length_singleton]; omega
            · show (pz_P B len key d 5 p (q + 1) (pz_fw B len σ)).2.2.2 + _ ≤ _ + ((pz_P B len key d 5 p (q + 1) (pz_fw B len σ)).2.2.1 ++ [(2, 9)]).length
              rw [List.length_append, List.length_singleton]; omega
            · show _ < (pz_P B len key d 5 p (q + 1) (pz_fw B len σ)).2.1.2.1; omega
            · show (pz_P B len key d 5 p (q + 1) (pz_fw B len σ)).2.2.1 ++ [(2, 9)] = _
              rw [r7, List.append_assoc]
            · rw [List.append_assoc]
              apply r8
              show pz_va (pz_nk key) ((2, 9) :: rest) (d' + 1)
              exact Or.inr (Or.inr (Or.inl ⟨rfl, rfl, by omega, hr⟩))
          · rw [if_neg z]
            exact ⟨r1, by omega, by omega, by omega, fun w => absurd w z⟩
        rw [if_neg z3]
        by_cases z4 : σ.1.1 = 3 ∧ B σ.1.2.1 = 40 ∧ p < 8
        · rw [if_pos z4]
          have fv := pz_fwV t (by omega)
          obtain ⟨r1, r2, r3, r4, r5⟩ := ih 0 (p + 1) q (pz_fw B len σ) fv.1
          have e1 : (pz_fw B len σ).2.1 = σ.2.1 := rfl
          have e2 : (pz_fw B len σ).2.2 = σ.2.2 := rfl
          rw [e1] at r3 r4 r5
          rw [e2] at r4
          by_cases z : (pz_P B len key d 0 (p + 1) q (pz_fw B len σ)).1 = true
          · rw [if_pos z]
            obtain ⟨r6, E, r7, r8⟩ := r5 z
            by_cases z5 : (pz_P B len key d 0 (p + 1) q (pz_fw B len σ)).2.1.1 = 3 ∧ B (pz_P B len key d 0 (p + 1) q (pz_fw B len σ)).2.1.2.1 = 41
            · rw [if_pos z5]
              have gv := pz_fwV (σ := (pz_P B len key d 0 (p + 1) q (pz_fw B len σ)).2) r1 (by omega)
              refine ⟨gv.1, ?_, ?_, r4, fun _ => ⟨?_, E, r7, r8⟩⟩
              · show _ ≤ (pz_fw B len (pz_P B len key d 0 (p + 1) q (pz_fw B len σ)).2).1.2.1; omega
              · show (pz_P B len key d 0 (p + 1) q (pz_fw B len σ)).2.2.1.length + _ ≤ _ + (pz_fw B len (pz_P B len key d 0 (p + 1) q (pz_fw B len σ)).2).1.2.1; omega
              · show _ < (pz_fw B len (pz_P B len key d 0 (p + 1) q (pz_fw B len σ)).2).1.2.1; omega
            · rw [if_neg z5]
              exact ⟨r1, by show _ ≤ (pz_P B len key d 0 (p + 1) q (pz_fw B len σ)).2.1.2.1; omega, by show (pz_P B len key d 0 (p + 1) q (pz_fw B len σ)).2.2.1.length + _ ≤ _ + (pz_P B len key d 0 (p + 1) q (pz_fw B len σ)).2.1.2.1; omega, r4, fun w => by cases w⟩
          · rw [if_neg z]
            exact ⟨r1, by omega, by omega, by omega, fun w => absurd w z⟩
        rw [if_neg z4]
        exact fails σ t

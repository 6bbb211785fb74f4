/-! PURE PART: base -/
theorem pz_up (h : kv_H) (k j : Nat) (v : Int32) (a b : Nat) : kv_up h k j v a b = if a = k then (if b = j then v else h a b) else h a b := rfl
theorem pz_upne {h : kv_H} {k j : Nat} {v : Int32} {a : Nat} (q : a ≠ k) : kv_up h k j v a = h a := kv_up_off h k j v a q
theorem pz_upeq {h : kv_H} {k j : Nat} {v : Int32} : kv_up h k j v k = upd (h k) j v := kv_up_at h k j v
theorem pz_upr (h : kv_H) (k j : Nat) (v : Int32) (a : Nat) : kv_up h k j v a = if a = k then upd (h k) j v else h a := by
  by_cases e : a = k
  · subst e; rw [if_pos rfl]; exact kv_up_at h a j v
  · rw [if_neg e]; exact kv_up_off h k j v a e
theorem pz_upd (f : Nat → Int32) (j : Nat) (v : Int32) (b : Nat) : upd f j v b = if b = j then v else f b := rfl
theorem pz_b {β γ : Type} (a : β) (h : kv_H) (C : β → kv_H → Option γ) : kv_b (some (a, h)) C = C a h := rfl
theorem pz_hl {γ : Type} (a : kv_H) (f : kv_H → Option γ) : kv_hl a f = f a := rfl
theorem pz_vl {γ : Type} (a : Int32) (f : Int32 → Option γ) : kv_vl a f = f a := rfl
theorem pz_vL {γ : Type} (a : Int64) (f : Int64 → Option γ) : kv_vL a f = f a := rfl
theorem pz_jn {β γ : Type} (J : β) (E : β → Option γ) : kv_jn J E = E J := rfl
theorem pz_k {β : Type} {x : Int32} {n : Nat} {R : Option β} (h : vp_in x n) : kv_k x n R = R := by
  unfold kv_k; rw [if_neg h]
theorem pz_kN {β : Type} {j n : Nat} {R : Option β} (h : j < n) (hn : n < 2147483648) : kv_k (nI j) n R = R := pz_k (vp_in_nI h hn)
theorem pz_lit (n : Nat) : (OfNat.ofNat n : Int32) = nI n := rfl
theorem pz_cl {n : Nat} (h : n < 2147483648) : (nI n).toNatClampNeg = n := nI_clamp h
theorem pz_le {a b : Nat} (ha : a < 2147483648) (hb : b < 2147483648) : (nI a ≤ nI b) = (a ≤ b) := propext (nI_leI ha hb)
theorem pz_lt {a b : Nat} (ha : a < 2147483648) (hb : b < 2147483648) : (nI a < nI b) = (a < b) := propext (nI_ltI ha hb)
theorem pz_eq {a b : Nat} (ha : a < 2147483648) (hb : b < 2147483648) : (nI a = nI b) = (a = b) := propext (nI_eq ha hb)
theorem pz_add (a b : Nat) : nI a + nI b = nI (a + b) := nI_add a b
theorem pz_mul (a b : Nat) : nI a * nI b = nI (a * b) := pk_mul a b
theorem pz_sub {a b : Nat} (h : b ≤ a) : nI a - nI b = nI (a - b) := pk_sub h
theorem pz_z {β : Type} {y : Int32} {R : Option β} (h : ¬ y = 0) : kv_z y R = R := by
  unfold kv_z; rw [if_neg h]
/-- any int: below 0, beyond, or a number below n -/
theorem pz_ix (x : Int32) (n : Nat) (hn : n < 2147483648) : x < 0 ∨ nI n ≤ x ∨ ∃ j : Nat, j < n ∧ x = nI j := pk_ix x hn
def pz_wait (a : Int32) (f : Nat → Int32) (b : Int32) (g : Nat → Int32) : Prop := ∃ k : Nat, k ≤ 60 ∧ a = nI k ∧ b = nI k ∧ ∀ j, j < k → f j = g j
theorem pz_tell (x1 : Int32) (h : kv_H) (hw : pz_wait (h 0 10) (h 5) (h 111 36) (h 134)) : ∃ r h1 h2, f_X9_tell x1 h = some (r, h1) ∧ f_X10_tell x1 h1 = some (r, h2) ∧ pz_wait (h2 0 10) (h2 5) (h2 111 36) (h2 134) := by
  obtain ⟨k, hk, e1, e2, e3⟩ := hw
  simp only [f_X9_tell, f_X10_tell, e1, e2, pz_lit, pz_hl]
  by_cases hf : k = 60
  · subst hf
    simp (disch := omega) only [pz_le, pz_lt, pz_eq, if_true, e1, e2]
    sorry
  · sorry

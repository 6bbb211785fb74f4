/-! PURE PART: base -/
theorem pz_up (h : kv_H) (k j : Nat) (v : Int32) (a b : Nat) : kv_up h k j v a b = if a = k then (if b = j then v else h a b) else h a b := rfl
theorem pz_upne {h : kv_H} {k j : Nat} {v : Int32} {a : Nat} (q : a ≠ k) : kv_up h k j v a = h a := kv_up_off h k j v a q
theorem pz_upeq {h : kv_H} {k j : Nat} {v : Int32} : kv_up h k j v k = upd (h k) j v := kv_up_at h k j v
theorem pz_upr (h : kv_H) (k j : Nat) (v : Int32) (a : Nat) : kv_up h k j v a = if a = k then upd (h k) j v else h a := by
  by_cases e : a = k
  · subst e; rw [if_pos rfl]; exact kv_up_at h a j v
  · rw [if_neg e]; exact kv_up_off h k j v a e
theorem pz_upd (f : Nat → Int32) (j : Nat) (v : Int32) (b : Nat) : upd f j v b = if b = j then v else f b := rfl
theorem pz_b {β γ : Type} (a : β) (h : kv_H) (C : β → kv_H → Option γ) : kv_b (some (a, h)) C = C a h := rfl
theorem pz_hl {γ : Type} (a : kv_H) (f : kv_H → Option γ) : kv_hl a f = f a := rfl
theorem pz_vl {γ : Type} (a : Int32) (f : Int32 → Option γ) : kv_vl a f = f a := rfl
theorem pz_vL {γ : Type} (a : Int64) (f : Int64 → Option γ) : kv_vL a f = f a := rfl
theorem pz_jn {β γ : Type} (J : β) (E : β → Option γ) : kv_jn J E = E J := rfl
theorem pz_k {β : Type} {x : Int32} {n : Nat} {R : Option β} (h : vp_in x n) : kv_k x n R = R := by
  unfold kv_k; rw [if_neg h]
theorem pz_kN {β : Type} {j n : Nat} {R : Option β} (h : j < n) (hn : n < 2147483648) : kv_k (nI j) n R = R := pz_k (vp_in_nI h hn)
theorem pz_lit (n : Nat) : (OfNat.ofNat n : Int32) = nI n := rfl
theorem pz_cl {n : Nat} (h : n < 2147483648) : (nI n).toNatClampNeg = n := nI_clamp h
theorem pz_le {a b : Nat} (ha : a < 2147483648) (hb : b < 2147483648) : (nI a ≤ nI b) = (a ≤ b) := propext (nI_leI ha hb)
theorem pz_lt {a b : Nat} (ha : a < 2147483648) (hb : b < 2147483648) : (nI a < nI b) = (a < b) := propext (nI_ltI ha hb)
theorem pz_eq {a b : Nat} (ha : a < 2147483648) (hb : b < 2147483648) : (nI a = nI b) = (a = b) := propext (nI_eq ha hb)
theorem pz_add (a b : Nat) : nI a + nI b = nI (a + b) := nI_add a b
theorem pz_mul (a b : Nat) : nI a * nI b = nI (a * b) := pk_mul a b
theorem pz_sub {a b : Nat} (h : b ≤ a) : nI a - nI b = nI (a - b) := pk_sub h
theorem pz_z {β : Type} {y : Int32} {R : Option β} (h : ¬ y = 0) : kv_z y R = R := by
  unfold kv_z; rw [if_neg h]
/-- any int: below 0, beyond, or a number below n -/
theorem pz_ix (x : Int32) (n : Nat) (hn : n < 2147483648) : x < 0 ∨ nI n ≤ x ∨ ∃ j : Nat, j < n ∧ x = nI j := pk_ix x hn
theorem pz_lit0 : (0 : Int32) = nI 0 := rfl
theorem pz_lit1 : (1 : Int32) = nI 1 := rfl
theorem pz_kk {β : Type} (x : Int32) (n : Nat) (R : Option β) : kv_k x n (kv_k x n R) = kv_k x n R := by
  unfold kv_k; by_cases e : x < 0 ∨ n ≤ x.toNatClampNeg
  · rw [if_pos e, if_pos e]
  · rw [if_neg e, if_neg e]
theorem pz_ng {n : Nat} (h : n < 2147483648) : ¬ nI n < 0 := nI_pos h
theorem pz_g0 {n : Nat} (h : n < 2147483648) : 0 ≤ nI n := nI_pos' h
theorem pz_leT {a b : Nat} (h : a ≤ b) (hb : b < 2147483648) : (nI a ≤ nI b) = True := eq_true (nI_le h hb)
theorem pz_leF {a b : Nat} (h : b < a) (hb : a < 2147483648) : (nI a ≤ nI b) = False := eq_false (nI_ge h hb)
theorem pz_ltT {a b : Nat} (h : a < b) (hb : b < 2147483648) : (nI a < nI b) = True := eq_true (nI_lt h hb)
theorem pz_ltF {a b : Nat} (h : b ≤ a) (hb : a < 2147483648) : (nI a < nI b) = False := eq_false (nI_nlt h hb)
theorem pz_eqT {a b : Nat} (h : a = b) : (nI a = nI b) = True := eq_true (by rw [h])
theorem pz_eqF {a b : Nat} (h : a ≠ b) (ha : a < 2147483648) (hb : b < 2147483648) : (nI a = nI b) = False := eq_false (by rw [pz_eq ha hb]; exact h)
theorem pz_ng0 {n : Nat} (h : n < 2147483648) : (nI n < 0) = False := eq_false (nI_pos h)
theorem pz_g00 {n : Nat} (h : n < 2147483648) : (0 ≤ nI n) = True := eq_true (nI_pos' h)
theorem pz_neg {a : Nat} (ha : a < 2147483648) : (-nI a).toInt = -(a : Int) := by
  rw [Int32.toInt_neg, nI_toInt (by omega)]
  exact Int.bmod_eq_of_le (by omega) (by omega)
theorem pz_nlt {a b : Nat} (h0 : 0 < a) (ha : a < 2147483648) (hb : b < 2147483648) : (-nI a < nI b) = True := by
  apply eq_true; rw [Int32.lt_iff_toInt_lt, pz_neg ha, nI_toInt (by omega)]; omega
theorem pz_nle {a b : Nat} (h0 : 0 < a) (ha : a < 2147483648) (hb : b < 2147483648) : (-nI a ≤ nI b) = True := by
  apply eq_true; rw [Int32.le_iff_toInt_le, pz_neg ha, nI_toInt (by omega)]; omega
theorem pz_nlt1 {a b : Nat} (h0 : 0 < a) (ha : a < 2147483648) (hb : b < 2147483648) : (nI b < -nI a) = False := by
  apply eq_false; rw [Int32.lt_iff_toInt_lt, pz_neg ha, nI_toInt (by omega)]; omega
theorem pz_nle1 {a b : Nat} (h0 : 0 < a) (ha : a < 2147483648) (hb : b < 2147483648) : (nI b ≤ -nI a) = False := by
  apply eq_false; rw [Int32.le_iff_toInt_le, pz_neg ha, nI_toInt (by omega)]; omega
theorem pz_neq {a b : Nat} (h0 : 0 < a) (ha : a < 2147483648) (hb : b < 2147483648) : (-nI a = nI b) = False := by
  apply eq_false; intro e; have := congrArg Int32.toInt e; rw [pz_neg ha, nI_toInt (by omega)] at this; omega
theorem pz_neq1 {a b : Nat} (h0 : 0 < a) (ha : a < 2147483648) (hb : b < 2147483648) : (nI b = -nI a) = False := by
  apply eq_false; intro e; have := congrArg Int32.toInt e; rw [pz_neg ha, nI_toInt (by omega)] at this; omega
theorem pz_nnl {a b : Nat} (ha : a < 2147483648) (hb : b < 2147483648) : (-nI a < -nI b) = (b < a) := by
  apply propext; rw [Int32.lt_iff_toInt_lt, pz_neg ha, pz_neg hb]; omega
theorem pz_nne {a b : Nat} (ha : a < 2147483648) (hb : b < 2147483648) : (-nI a = -nI b) = (a = b) := by
  apply propext; constructor
  · intro e; have := congrArg Int32.toInt e; rw [pz_neg ha, pz_neg hb] at this; omega
  · intro e; rw [e]
theorem pz_nnlT {a b : Nat} (q : b < a) (ha : a < 2147483648) : (-nI a < -nI b) = True := by rw [pz_nnl ha (by omega)]; exact eq_true q
theorem pz_nnlF {a b : Nat} (q : a ≤ b) (ha : b < 2147483648) : (-nI a < -nI b) = False := by rw [pz_nnl (by omega) ha]; exact eq_false (by omega)
theorem pz_nneT {a b : Nat} (q : a = b) : (-nI a = -nI b) = True := by rw [q]; exact eq_true rfl
theorem pz_nneF {a b : Nat} (q : a ≠ b) (ha : a < 2147483648) (hb : b < 2147483648) : (-nI a = -nI b) = False := by rw [pz_nne ha hb]; exact eq_false q
/-- regions of places -/
def pz_reg (a b : Nat) : Nat :=
  if a = 0 then (if b = 10 then 1 else 6)
  else if a = 5 ∨ a = 134 then 1
  else if a = 111 then (if b = 36 then 1 else if b = 3 then 6 else if b = 19 then 7 else 2)
  else if (41 ≤ a ∧ a ≤ 43) ∨ a = 130 then 2
  else if (18 ≤ a ∧ a ≤ 25) ∨ (115 ≤ a ∧ a ≤ 117) then 3
  else if (26 ≤ a ∧ a ≤ 40) ∨ (118 ≤ a ∧ a ≤ 122) then 4
  else if (79 ≤ a ∧ a ≤ 94) ∨ a = 112 then (if a = 79 ∧ b = 6 then 9 else 5)
  else if (95 ≤ a ∧ a ≤ 110) ∨ a = 113 then 6
  else if 51 ≤ a ∧ a ≤ 78 then 8
  else 7
/-- unchanged but for the regions of a list and 7 -/
def pz_fr (S : List Nat) (h h' : kv_H) : Prop := ∀ a b, ¬ pz_reg a b ∈ S → ¬ pz_reg a b = 7 → h' a b = h a b
theorem pz_fr_refl (S : List Nat) (h : kv_H) : pz_fr S h h := fun _ _ _ _ => rfl
theorem pz_fr_trans {S : List Nat} {h h1 h2 : kv_H} (q1 : pz_fr S h h1) (q2 : pz_fr S h1 h2) : pz_fr S h h2 := fun a b m n => (q2 a b m n).trans (q1 a b m n)
theorem pz_fr_up {S : List Nat} {h h1 : kv_H} {k j : Nat} {v : Int32} (q : pz_fr S h h1) (m : pz_reg k j ∈ S ∨ pz_reg k j = 7) : pz_fr S h (kv_up h1 k j v) := by
  intro a b m1 m2
  rw [pz_up]
  by_cases e : a = k
  · by_cases f : b = j
    · subst e; subst f; rcases m with m | m
      · exact absurd m m1
      · exact absurd m m2
    · rw [if_pos e, if_neg f]; exact q a b m1 m2
  · rw [if_neg e]; exact q a b m1 m2
def pz_c1 (h : kv_H) : Prop := ∃ k : Nat, k ≤ 60 ∧ h 0 10 = nI k ∧ h 111 36 = nI k ∧ ∀ j, j < k → h 5 j = h 134 j
theorem pz_c1_fr {h h' : kv_H} (c : pz_c1 h) (f : ∀ a b, pz_reg a b = 1 → h' a b = h a b) : pz_c1 h' := by
  obtain ⟨k, hk, e1, e2, e3⟩ := c
  refine ⟨k, hk, ?_, ?_, ?_⟩
  · rw [f 0 10 rfl]; exact e1
  · rw [f 111 36 rfl]; exact e2
  · intro j hj; rw [f 5 j rfl, f 134 j rfl]; exact e3 j hj
/-- an op keeps to regions S, both sides answer the same, C holds afterwards -/
def pz_op (S : List Nat) (C : kv_H → Prop) (F F2 : kv_H → Option (Int32 × kv_H)) (h : kv_H) : Prop := ∃ r h1 h2, F h = some (r, h1) ∧ F2 h1 = some (r, h2) ∧ C h2 ∧ pz_fr S h h2
theorem pz_tell (x1 : Int32) (h : kv_H) (c : pz_c1 h) : pz_op [1] pz_c1 (f_X9_tell x1) (f_X10_tell x1) h := by
  obtain ⟨k, hk, e1, e2, e3⟩ := c
  by_cases hf : k = 60
  · subst hf
    refine ⟨-1000000003, h, h, ?_, ?_, ⟨60, hk, e1, e2, e3⟩, pz_fr_refl _ h⟩
    · rw [f_X9_tell, e1]; rfl
    · rw [f_X10_tell, e2]; rfl
  · refine ⟨nI (k + 1), kv_up (kv_up h 5 k x1) 0 10 (nI (k + 1)), kv_up (kv_up (kv_up (kv_up h 5 k x1) 0 10 (nI (k + 1))) 134 k x1) 111 36 (nI (k + 1)), ?_, ?_, ⟨k + 1, by omega, rfl, rfl, ?_⟩, ?_⟩
    · simp (disch := omega) [f_X9_tell, e1, pz_lit, pz_b, pz_hl, pz_vl, pz_vL, pz_jn, pz_le, pz_lt, pz_eq, pz_cl, pz_kN, pz_add, pz_mul, pz_sub, pz_up]
      omega
    · simp (disch := omega) [f_X10_tell, e2, pz_lit, pz_b, pz_hl, pz_vl, pz_vL, pz_jn, pz_le, pz_lt, pz_eq, pz_cl, pz_kN, pz_add, pz_mul, pz_sub, pz_up]
      omega
    · intro j hj
      simp [pz_up]
      by_cases ej : j = k
      · simp [ej]
      · simp [ej]; exact e3 j (by omega)
    · exact pz_fr_up (pz_fr_up (pz_fr_up (pz_fr_up (pz_fr_refl _ h) (by simp [pz_reg])) (by simp [pz_reg])) (by simp [pz_reg])) (by simp [pz_reg])

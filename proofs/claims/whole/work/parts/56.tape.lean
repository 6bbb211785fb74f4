/-! PURE PART: feed, trim, copy -/
def pz_c2 (h : kv_H) : Prop := ∃ (len : Nat) (B : Nat → Nat), len ≤ 96 ∧ h 41 1 = nI len ∧ h 111 21 = nI len ∧ ∀ k, k < len → B k < 256 ∧ h 42 k = nI (B k) ∧ h 130 k = nI (B k)
theorem pz_c2_fr {h h' : kv_H} (c : pz_c2 h) (f : ∀ a b, pz_reg a b = 2 → h' a b = h a b) : pz_c2 h' := by
  obtain ⟨len, B, hl, e1, e2, e3⟩ := c
  refine ⟨len, B, hl, ?_, ?_, ?_⟩
  · rw [f 41 1 rfl]; exact e1
  · rw [f 111 21 rfl]; exact e2
  · intro k hk; rw [f 42 k rfl, f 130 k rfl]; exact e3 k hk
def pz_by (x : Int32) (k : Nat) : Nat := x.toBitVec.toNat / 2 ^ k % 256
theorem pz_by_lt (x : Int32) (k : Nat) : pz_by x k < 256 := Nat.mod_lt _ (by decide)
theorem pz_byC (x : Int32) (k : Nat) (hs : (((nI k).toUInt32 &&& Int32.toUInt32 31).toBitVec % 32).toNat = k) : ((x.toUInt32 >>> (Int32.toUInt32 (nI k) &&& Int32.toUInt32 31)).toInt32 &&& 255) = nI (pz_by x k) := by
  rw [pk_and _ 8 rfl, pk_ushr x (nI k) k hs]; rfl
theorem pz_tn (x : Int32) : x.toInt = x.toBitVec.toNat ∨ x.toInt = (x.toBitVec.toNat : Int) - 4294967296 := by
  have := BitVec.toInt_eq_toNat_cond x.toBitVec
  rw [show x.toInt = x.toBitVec.toInt from rfl, this]
  split
  · exact Or.inl rfl
  · exact Or.inr rfl
theorem pz_byM (x : Int32) (k : Nat) (hs : ((nI k &&& 31).toBitVec.smod 32).toNat = k) (hk : k = 0 ∨ k = 8 ∨ k = 16 ∨ k = 24) : ((x >>> (nI k &&& 31)) &&& 255) = nI (pz_by x k) := by
  rw [pk_and _ 8 rfl]
  congr 1
  have e := pk_shr x (nI k &&& 31) k hs
  rw [Int.shiftRight_eq_div_pow] at e
  have y := pz_tn (x >>> (nI k &&& 31))
  have z := pz_tn x
  unfold pz_by
  generalize (x >>> (nI k &&& 31)).toBitVec.toNat = Y at *
  generalize (x >>> (nI k &&& 31)).toInt = YI at *
  generalize x.toBitVec.toNat = X at *
  generalize x.toInt = XI at *
  rcases hk with rfl | rfl | rfl | rfl
  · clear hs; omega
  · clear hs; omega
  · clear hs; omega
  · clear hs; omega
def pz_fd (h : kv_H) (a c d t k : Nat) (f : Nat → Nat) : kv_H := kv_up (pz_st h a t (t + k) (fun b => nI (f (b - t)))) c d (nI (t + k))
theorem pz_fd1 (h : kv_H) (a c d t k : Nat) (f : Nat → Nat) (q : a ≠ c) (v : Int32) (e : v = nI (f k)) : kv_up (kv_up (pz_fd h a c d t k f) a (t + k) v) c d (nI (t + k + 1)) = pz_fd h a c d t (k + 1) f := by
  unfold pz_fd
  rw [← Nat.add_assoc, ← pz_st1 h a t (t + k) _ (by omega) v (by rw [e]; congr 2; omega)]
  funext a' b
  simp only [pz_up]
  by_cases q1 : a' = c
  · have q2 : ¬ a' = a := fun z => q (z.symm.trans q1)
    simp only [q1, if_true, Ne.symm q, if_false]
    by_cases q3 : b = d
    · simp only [q3, if_true]
    · simp only [q3, if_false]
  · simp only [q1, if_false]
theorem pz_fd0 (h : kv_H) (a c d t : Nat) (f : Nat → Nat) (e : h c d = nI t) : pz_fd h a c d t 0 f = h := by
  unfold pz_fd
  rw [Nat.add_zero, pz_st0]
  funext a' b
  rw [pz_up]
  by_cases q1 : a' = c
  · by_cases q2 : b = d
    · rw [if_pos q1, if_pos q2, q1, q2, e]
    · rw [if_pos q1, if_neg q2]
  · rw [if_neg q1]
theorem pz_fdc (h : kv_H) (a c d t k : Nat) (f : Nat → Nat) : pz_fd h a c d t k f c d = nI (t + k) := by
  unfold pz_fd; rw [pz_upeq, pz_upd, if_pos rfl]
theorem pz_addB (x : Int32) (t : Nat) (h : kv_H) (ht : t + 4 ≤ 96) (e : h 41 1 = nI t) : f_X5_addBytes x h = some ((), pz_fd h 42 41 1 t 4 (fun i => pz_by x (24 - 8 * i))) := by
  have st : ∀ n i g C, i < 4 → g = pz_fd h 42 41 1 t i (fun i => pz_by x (24 - 8 * i)) → f_X5_addBytes_L3 x (n + 1) (nI (24 - 8 * i)) g C = f_X5_addBytes_L3 x n (nI (24 - 8 * i) + (-8)) (pz_fd h 42 41 1 t (i + 1) (fun i => pz_by x (24 - 8 * i))) C := by
    intro n i g C hi eg
    have e2 : g 41 1 = nI (t + i) := by rw [eg]; exact pz_fdc ..
    have e3 : ∀ v, kv_up g 42 (t + i) v 41 1 = nI (t + i) := fun v => by rw [pz_upne (by omega)]; exact e2
    rw [f_X5_addBytes_L3]
    rw [if_neg (pz_ng (by omega)), e2, if_neg (show ¬ (96 : Int32) ≤ nI (t + i) from nI_ge (b := 96) (by omega) (by omega)), pz_kN (by omega) (by omega), pz_cl (by omega), pz_hl, pz_hl, e3, nI_1]
    rw [pz_byC x (24 - 8 * i) (by have : i = 0 ∨ i = 1 ∨ i = 2 ∨ i = 3 := by omega
                                  rcases this with rfl | rfl | rfl | rfl <;> decide)]
    rw [eg, pz_fd1 h 42 41 1 t i _ (by omega) _ rfl]
  rw [f_X5_addBytes]
  rw [show kv_fu = 4995 + 1 + 1 + 1 + 1 + 1 from rfl]
  rw [show (24 : Int32) = nI (24 - 8 * 0) from rfl, st _ 0 h _ (by omega) (pz_fd0 h 42 41 1 t _ e).symm]
  rw [show nI (24 - 8 * 0) + (-8) = nI (24 - 8 * 1) from rfl, st _ 1 _ _ (by omega) rfl]
  rw [show nI (24 - 8 * 1) + (-8) = nI (24 - 8 * 2) from rfl, st _ 2 _ _ (by omega) rfl]
  rw [show nI (24 - 8 * 2) + (-8) = nI (24 - 8 * 3) from rfl, st _ 3 _ _ (by omega) rfl]
  rw [show nI (24 - 8 * 3) + (-8) = (-8) from rfl, f_X5_addBytes_L3, if_pos (by decide)]
def pz_by3 (a b c : Int32) (k : Nat) : Nat := if k < 4 then pz_by a (24 - 8 * (k % 4)) else if k < 8 then pz_by b (24 - 8 * (k % 4)) else pz_by c (24 - 8 * (k % 4))
theorem pz_feedM (a b c : Int32) (t : Nat) (h : kv_H) (ht : t + 12 ≤ 96) (e : h 111 21 = nI t) (C : kv_H → Option (Int32 × kv_H)) : f_X10_feed_L18 a b c kv_fu (nI 0) h C = C (pz_fd h 130 111 21 t 12 (pz_by3 a b c)) := by
  refine pz_for (fun n k g => f_X10_feed_L18 a b c n (nI k) g C) (fun k g => g = pz_fd h 130 111 21 t k (pz_by3 a b c)) (fun R => R = C (pz_fd h 130 111 21 t 12 (pz_by3 a b c))) 12 ?_ ?_ kv_fu 0 _ (by omega) (by rw [show kv_fu = 5000 from rfl]; omega) (pz_fd0 _ _ _ _ _ _ e).symm
  · intro n s e
    simp (disch := omega) only [f_X10_feed_L18, pz_lit, pz_leT, pz_leF, pz_ltT, pz_ltF, pz_eqT, pz_eqF, pz_nlt, pz_nle, pz_nlt1, pz_nle1, pz_neq, pz_neq1, pz_nnlT, pz_nnlF, pz_nneT, pz_nneF, pz_cl, pz_kN, pz_add, pz_mul, pz_sub, ↓pz_jn, ↓pz_hl, ↓pz_vl, ↓pz_vL, pz_b, ↓reduceIte, or_false, or_true, false_or, true_or, not_true, not_false_iff, and_true, true_and, and_false, false_and, or_self, e]
  · intro n k g hk eg
    right
    refine ⟨_, rfl, ?_⟩
    have e2 : g 111 21 = nI (t + k) := by rw [eg]; exact pz_fdc ..
    have e3 : ∀ v, kv_up g 130 (t + k) v 111 21 = nI (t + k) := fun v => by rw [pz_upne (by omega)]; exact e2
    have e4 : ∀ x : Int32, ((x >>> ((24 - (8 * (nI k - nI k / 4 * 4))) &&& 31)) &&& 255) = nI (pz_by x (24 - 8 * (k % 4))) := by
      intro x
      rw [show (4 : Int32) = nI 4 from rfl, pk_rem (by omega) (by omega) (by omega), show (8 : Int32) = nI 8 from rfl, pz_mul, show (24 : Int32) = nI 24 from rfl, pz_sub (by omega)]
      have : k % 4 = 0 ∨ k % 4 = 1 ∨ k % 4 = 2 ∨ k % 4 = 3 := by omega
      apply pz_byM
      · rcases this with z | z | z | z <;> rw [z] <;> decide
      · omega
    have e5 : ∀ y : Int32, y = nI (pz_by3 a b c k) → kv_up (kv_up g 130 (t + k) y) 111 21 (nI (t + k + 1)) = pz_fd h 130 111 21 t (k + 1) (pz_by3 a b c) := by
      intro y ey; rw [eg, pz_fd1 h 130 111 21 t k _ (by omega) _ ey]
    show f_X10_feed_L18 a b c (n + 1) (nI k) g C = _
    rw [f_X10_feed_L18, if_neg (show ¬ (12 : Int32) ≤ nI k from nI_ge (b := 12) (by omega) (by omega)), pz_jn]
    simp only [e4, e2, pz_hl, pz_cl (show t + k < 2147483648 by omega), e3, nI_1, pz_kN (show t + k < 96 by omega) (by omega)]
    by_cases q1 : k < 4
    · rw [if_neg (show ¬ (4 : Int32) ≤ nI k from nI_ge (b := 4) (by omega) (by omega)), e5 _ (by rw [pz_by3, if_pos q1])]
    · rw [if_pos (show (4 : Int32) ≤ nI k from nI_le (a := 4) (by omega) (by omega))]
      by_cases q2 : k < 8
      · rw [if_neg (show ¬ (8 : Int32) ≤ nI k from nI_ge (b := 8) (by omega) (by omega)), e5 _ (by rw [pz_by3, if_neg q1, if_pos q2])]
      · rw [if_pos (show (8 : Int32) ≤ nI k from nI_le (a := 8) (by omega) (by omega)), e5 _ (by rw [pz_by3, if_neg q1, if_neg q2])]
theorem pz_feed (x1 x2 x3 : Int32) (h : kv_H) (c : pz_c2 h) : pz_op [2] pz_c2 (f_X9_feed x1 x2 x3) (f_X10_feed x1 x2 x3) h := by
  obtain ⟨t, B, hl, e1, e2, e3⟩ := c
  by_cases q : t + 12 ≤ 96
  · have a1 := pz_addB x1 t h (by omega) e1
    have a2 := pz_addB x2 (t + 4) _ (by omega) (pz_fdc h 42 41 1 t 4 (fun i => pz_by x1 (24 - 8 * i)))
    have a3 := pz_addB x3 (t + 4 + 4) _ (by omega) (pz_fdc (pz_fd h 42 41 1 t 4 (fun i => pz_by x1 (24 - 8 * i))) 42 41 1 (t + 4) 4 (fun i => pz_by x2 (24 - 8 * i)))
    have a4 := pz_fdc (pz_fd (pz_fd h 42 41 1 t 4 (fun i => pz_by x1 (24 - 8 * i))) 42 41 1 (t + 4) 4 (fun i => pz_by x2 (24 - 8 * i))) 42 41 1 (t + 4 + 4) 4 (fun i => pz_by x3 (24 - 8 * i))
    have fA : ∀ (g : kv_H) (a c d t k : Nat) (f : Nat → Nat) (a' : Nat), a' ≠ a → a' ≠ c → pz_fd g a c d t k f a' = g a' := by
      intro g a c d t k f a' z1 z2; unfold pz_fd; rw [pz_upne z2, pz_stne _ z1]
    have fB : ∀ (g : kv_H) (a c d t k : Nat) (f : Nat → Nat) (j : Nat), a ≠ c → pz_fd g a c d t k f a j = if t ≤ j ∧ j < t + k then nI (f (j - t)) else g a j := by
      intro g a c d t k f j z1; unfold pz_fd; rw [pz_upne z1]; unfold pz_st; simp only [true_and]
    have m1 : ∀ g : kv_H, g = pz_fd (pz_fd (pz_fd h 42 41 1 t 4 (fun i => pz_by x1 (24 - 8 * i))) 42 41 1 (t + 4) 4 (fun i => pz_by x2 (24 - 8 * i))) 42 41 1 (t + 4 + 4) 4 (fun i => pz_by x3 (24 - 8 * i)) → g 111 21 = nI t := by
      intro g eg; rw [eg, fA _ _ _ _ _ _ _ _ (by omega) (by omega), fA _ _ _ _ _ _ _ _ (by omega) (by omega), fA _ _ _ _ _ _ _ _ (by omega) (by omega)]; exact e2
    refine ⟨nI (t + 12), (pz_fd (pz_fd (pz_fd h 42 41 1 t 4 (fun i => pz_by x1 (24 - 8 * i))) 42 41 1 (t + 4) 4 (fun i => pz_by x2 (24 - 8 * i))) 42 41 1 (t + 4 + 4) 4 (fun i => pz_by x3 (24 - 8 * i))), pz_fd (pz_fd (pz_fd (pz_fd h 42 41 1 t 4 (fun i => pz_by x1 (24 - 8 * i))) 42 41 1 (t + 4) 4 (fun i => pz_by x2 (24 - 8 * i))) 42 41 1 (t + 4 + 4) 4 (fun i => pz_by x3 (24 - 8 * i))) 130 111 21 t 12 (pz_by3 x1 x2 x3), ?_, ?_, ?_, ?_⟩
    · rw [f_X9_feed, e1, if_pos (show nI t + 12 ≤ (96 : Int32) by rw [show (12 : Int32) = nI 12 from rfl, pz_add]; exact nI_le (b := 96) q (by omega)), a1, pz_b, a2, pz_b, a3, pz_b, a4]
    · rw [f_X10_feed, m1 _ rfl, if_pos (show nI t + 12 ≤ (96 : Int32) by rw [show (12 : Int32) = nI 12 from rfl, pz_add]; exact nI_le (b := 96) q (by omega))]
      rw [show (0 : Int32) = nI 0 from rfl, pz_feedM x1 x2 x3 t _ q (m1 _ rfl), pz_fdc]
    · refine ⟨t + 12, fun k => if k < t then B k else pz_by3 x1 x2 x3 (k - t), q, ?_, pz_fdc .., ?_⟩
      · rw [fA _ _ _ _ _ _ _ _ (by omega) (by omega)]; exact a4
      · intro k hk
        dsimp only
        refine ⟨?_, ?_, ?_⟩
        · show (if k < t then B k else pz_by3 x1 x2 x3 (k - t)) < 256
          by_cases z : k < t
          · rw [if_pos z]; exact (e3 k z).1
          · rw [if_neg z]; unfold pz_by3
            split
            · exact pz_by_lt ..
            · split
              · exact pz_by_lt ..
              · exact pz_by_lt ..
        · rw [fA _ _ _ _ _ _ _ _ (by omega) (by omega), fB _ _ _ _ _ _ _ _ (by omega), fB _ _ _ _ _ _ _ _ (by omega), fB _ _ _ _ _ _ _ _ (by omega)]
          by_cases z : k < t
          · rw [if_neg (by omega), if_neg (by omega), if_neg (by omega), if_pos z]; exact (e3 k z).2.1
          · rw [if_neg z]
            by_cases z1 : k < t + 4
            · rw [if_neg (by omega), if_neg (by omega), if_pos (by omega), pz_by3, if_pos (by omega), Nat.mod_eq_of_lt (by omega)]
            · by_cases z2 : k < t + 8
              · rw [if_neg (by omega), if_pos (by omega), pz_by3, if_neg (by omega), if_pos (by omega), show (k - t) % 4 = k - (t + 4) from by omega]
              · rw [if_pos (by omega), pz_by3, if_neg (by omega), if_neg (by omega), show (k - t) % 4 = k - (t + 4 + 4) from by omega]
        · rw [fB _ _ _ _ _ _ _ _ (by omega)]
          by_cases z : k < t
          · rw [if_neg (by omega), fA _ _ _ _ _ _ _ _ (by omega) (by omega), fA _ _ _ _ _ _ _ _ (by omega) (by omega), fA _ _ _ _ _ _ _ _ (by omega) (by omega), if_pos z]; exact (e3 k z).2.2
          · rw [if_pos (by omega), if_neg z]
    · have fr : ∀ (g : kv_H) (a c d t k : Nat) (f : Nat → Nat), (∀ b, pz_reg a b ∈ [2] ∨ pz_reg a b = 7) → (pz_reg c d ∈ [2] ∨ pz_reg c d = 7) → pz_fr [2] h g → pz_fr [2] h (pz_fd g a c d t k f) := by
        intro g a c d t k f z1 z2 z3; exact pz_fr_up (pz_fr_st z3 z1) z2
      exact fr _ _ _ _ _ _ _ (fun b => Or.inl (by simp [pz_reg])) (by decide) (fr _ _ _ _ _ _ _ (fun b => Or.inl (by simp [pz_reg])) (by decide) (fr _ _ _ _ _ _ _ (fun b => Or.inl (by simp [pz_reg])) (by decide) (fr _ _ _ _ _ _ _ (fun b => Or.inl (by simp [pz_reg])) (by decide) (pz_fr_refl _ h))))
  · refine pz_op_same (-1000000003) ⟨t, B, hl, e1, e2, e3⟩ ?_ ?_
    · rw [f_X9_feed, e1, if_neg (show ¬ nI t + 12 ≤ (96 : Int32) by rw [show (12 : Int32) = nI 12 from rfl, pz_add]; exact nI_ge (a := 96) (by omega) (by omega))]
    · rw [f_X10_feed, e2, if_neg (show ¬ nI t + 12 ≤ (96 : Int32) by rw [show (12 : Int32) = nI 12 from rfl, pz_add]; exact nI_ge (a := 96) (by omega) (by omega))]
theorem pz_trim (x1 : Int32) (h : kv_H) (c : pz_c2 h) : pz_op [2] pz_c2 (f_X9_trim x1) (f_X10_trim x1) h := by
  obtain ⟨t, B, hl, e1, e2, e3⟩ := c
  rcases pz_cases x1 (t + 1) (by omega) with q | ⟨k, hk, rfl⟩
  · have q1 := eq_true (pz_badI q (by omega))
    refine pz_op_same (-1000000001) ⟨t, B, hl, e1, e2, e3⟩ ?_ ?_
    · rcases pz_badI q (by omega) with z | z
      · rw [f_X9_trim, if_pos z]
      · rw [f_X9_trim, e1, if_neg (show ¬ x1 ≤ nI t from (pz_lt_asym z).2.1)]; exact ite_self _
    · rw [f_X10_trim, e2, pz_in0, pz_b, if_pos (pz_badI q (by omega))]; rfl
  · refine ⟨nI k, kv_up h 41 1 (nI k), kv_up (kv_up h 41 1 (nI k)) 111 21 (nI k), ?_, ?_, ⟨k, B, by omega, ?_, ?_, ?_⟩, ?_⟩
    · rw [f_X9_trim, e1, if_neg (pz_ng (by omega)), if_pos (nI_le (by omega) (by omega))]; rfl
    · rw [f_X10_trim, pz_upne (by omega), e2, pz_in0, if_neg (pz_goodI (by omega) (by omega)), pz_b, if_neg (by decide)]; rfl
    · rw [pz_upne (by omega), pz_upeq, pz_upd, if_pos rfl]
    · rw [pz_upeq, pz_upd, if_pos rfl]
    · intro j hj
      rw [pz_upne (by omega), pz_upne (by omega), pz_upne (by omega), pz_upne (by omega)]; exact e3 j (by omega)
    · exact pz_fr_up (pz_fr_up (pz_fr_refl _ h) (by decide)) (by decide)

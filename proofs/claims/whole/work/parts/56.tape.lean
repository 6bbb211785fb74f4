/-! PURE PART: feed, trim, copy -/
def pz_c2 (h : kv_H) : Prop := ∃ (len : Nat) (B : Nat → Nat), len ≤ 96 ∧ h 41 1 = nI len ∧ h 111 21 = nI len ∧ ∀ k, k < len → B k < 256 ∧ h 42 k = nI (B k) ∧ h 130 k = nI (B k)
theorem pz_c2_fr {h h' : kv_H} (c : pz_c2 h) (f : ∀ a b, pz_reg a b = 2 → h' a b = h a b) : pz_c2 h' := by
  obtain ⟨len, B, hl, e1, e2, e3⟩ := c
  refine ⟨len, B, hl, ?_, ?_, ?_⟩
  · rw [f 41 1 rfl]; exact e1
  · rw [f 111 21 rfl]; exact e2
  · intro k hk; rw [f 42 k rfl, f 130 k rfl]; exact e3 k hk
def pz_by (x : Int32) (k : Nat) : Nat := x.toBitVec.toNat / 2 ^ k % 256
theorem pz_by_lt (x : Int32) (k : Nat) : pz_by x k < 256 := Nat.mod_lt _ (by decide)
theorem pz_byC (x : Int32) (k : Nat) (hs : (((nI k).toUInt32 &&& Int32.toUInt32 31).toBitVec % 32).toNat = k) : ((x.toUInt32 >>> (Int32.toUInt32 (nI k) &&& Int32.toUInt32 31)).toInt32 &&& 255) = nI (pz_by x k) := by
  rw [pk_and _ 8 rfl, pk_ushr x (nI k) k hs]; rfl
theorem pz_tn (x : Int32) : x.toInt = x.toBitVec.toNat ∨ x.toInt = (x.toBitVec.toNat : Int) - 4294967296 := by
  have := BitVec.toInt_eq_toNat_cond x.toBitVec
  rw [show x.toInt = x.toBitVec.toInt from rfl, this]
  split
  · exact Or.inl rfl
  · exact Or.inr rfl
theorem pz_byM (x : Int32) (k : Nat) (hs : ((nI k &&& 31).toBitVec.smod 32).toNat = k) (hk : k = 0 ∨ k = 8 ∨ k = 16 ∨ k = 24) : ((x >>> (nI k &&& 31)) &&& 255) = nI (pz_by x k) := by
  rw [pk_and _ 8 rfl]
  congr 1
  have e := pk_shr x (nI k &&& 31) k hs
  rw [Int.shiftRight_eq_div_pow] at e
  have y := pz_tn (x >>> (nI k &&& 31))
  have z := pz_tn x
  unfold pz_by
  generalize (x >>> (nI k &&& 31)).toBitVec.toNat = Y at *
  generalize (x >>> (nI k &&& 31)).toInt = YI at *
  generalize x.toBitVec.toNat = X at *
  generalize x.toInt = XI at *
  rcases hk with rfl | rfl | rfl | rfl
  · norm_num at *
    omega
  · norm_num at *
    omega
  · norm_num at *
    omega
  · norm_num at *
    omega

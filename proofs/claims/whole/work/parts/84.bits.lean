/-! PURE PART: bits -/
theorem pz_xor (a b : Nat) : nI a ^^^ nI b = nI (a ^^^ b) := by
  apply Int32.toBitVec_inj.mp
  rw [Int32.toBitVec_xor]
  apply BitVec.eq_of_toNat_eq
  show ((BitVec.ofNat 32 a) ^^^ (BitVec.ofNat 32 b)).toNat = (BitVec.ofNat 32 (a ^^^ b)).toNat
  rw [BitVec.toNat_xor, BitVec.toNat_ofNat, BitVec.toNat_ofNat, BitVec.toNat_ofNat, Nat.xor_mod_two_pow]
theorem pz_shk : ∀ u, u < 8 → ((nI u &&& 31).toBitVec.smod 32).toNat = u
  | 0, _ | 1, _ | 2, _ | 3, _ | 4, _ | 5, _ | 6, _ | 7, _ => by decide
  | n + 8, q => by omega
theorem pz_tb {m u : Nat} (hm : m < 2147483648) (hu : u < 8) : ((nI m >>> (nI u &&& 31)) &&& 1) = nI (if m.testBit u then 1 else 0) := by
  rw [show (1 : Int32) = nI (2 ^ 1 - 1) from rfl]
  have e := pk_shr (nI m) (nI u &&& 31) u (pz_shk u hu)
  rw [nI_toInt (by omega)] at e
  have e2 : (nI m >>> (nI u &&& 31)) = nI (m / 2 ^ u) := by
    apply Int32.toInt_inj.mp
    rw [e, nI_toInt (Nat.lt_of_le_of_lt (Nat.div_le_self _ _) (by omega)), Int.shiftRight_eq_div_pow]
    norm_cast
  rw [e2, pz_and, Nat.and_two_pow_sub_one_eq_mod, Nat.testBit_eq_decide_div_mod_eq]
  congr 1
  have := Nat.mod_lt (m / 2 ^ u) (show 0 < 2 from by omega)
  by_cases q : m / 2 ^ u % 2 = 1
  · rw [decide_eq_true q]; exact q
  · rw [decide_eq_false q]; simp only [Bool.false_eq_true, if_false]; omega
theorem pz_tbT {m u : Nat} (hm : m < 2147483648) (hu : u < 8) : (((nI m >>> (nI u &&& 31)) &&& 1) = (1 : Int32)) = (m.testBit u = true) := by
  rw [pz_tb hm hu]
  by_cases q : m.testBit u = true
  · rw [if_pos q]; exact propext ⟨fun _ => q, fun _ => rfl⟩
  · rw [if_neg q]; exact propext ⟨fun z => absurd z (by decide), fun z => absurd z q⟩
theorem pz_tbF {m u : Nat} (hm : m < 2147483648) (hu : u < 8) : (((nI m >>> (nI u &&& 31)) &&& 1) = (0 : Int32)) = (m.testBit u = false) := by
  rw [pz_tb hm hu]
  by_cases q : m.testBit u = true
  · rw [if_pos q, q]; exact propext ⟨fun z => absurd z (by decide), fun z => by cases z⟩
  · rw [if_neg q]; exact propext ⟨fun _ => by simpa using q, fun _ => rfl⟩
theorem pz_bitsT (V : List Nat) (u : Nat) : (pz_bits V).testBit u = decide (u ∈ V) := by
  induction V with
  | nil => simp [pz_bits]
  | cons v r ih =>
    rw [pz_bits, Nat.testBit_or, ih, Nat.testBit_two_pow]
    by_cases q : v = u
    · subst q; simp
    · have : ¬ u = v := fun z => q z.symm
      simp [q, this]
theorem pz_bitsL (V : List Nat) (h : ∀ v, v ∈ V → v < 8) : pz_bits V < 256 := by
  induction V with
  | nil => decide
  | cons v r ih =>
    rw [pz_bits]
    exact Nat.or_lt_two_pow (n := 8) (pz_p2 (h v (List.mem_cons_self ..))) (ih (fun w hw => h w (List.mem_cons_of_mem _ hw)))
theorem pz_bits_ext {V W : List Nat} (h : ∀ u, u ∈ V ↔ u ∈ W) : pz_bits V = pz_bits W := by
  apply Nat.eq_of_testBit_eq
  intro i
  rw [pz_bitsT, pz_bitsT]
  exact decide_eq_decide.mpr (h i)
theorem pz_bits_add (V : List Nat) (u : Nat) : pz_bits (V ++ [u]) = pz_bits V ||| 2 ^ u := by
  apply Nat.eq_of_testBit_eq
  intro i
  rw [pz_bitsT, Nat.testBit_or, pz_bitsT, Nat.testBit_two_pow]
  by_cases q : u = i
  · subst q; simp
  · have : ¬ i = u := fun z => q z.symm
    simp [q, this]
/-- a without the bits of b -/
theorem pz_nand {a b : Nat} (ha : a < 256) : ∃ c, nI a &&& (nI b ^^^ (-1)) = nI c ∧ c < 256 ∧ ∀ u, u < 8 → c.testBit u = (a.testBit u && !b.testBit u) := by
  refine ⟨a &&& (b ^^^ (2 ^ 32 - 1)), ?_, Nat.lt_of_le_of_lt Nat.and_le_left ha, ?_⟩
  · rw [show (-1 : Int32) = nI (2 ^ 32 - 1) from by decide, pz_xor, pz_and]
  · intro u hu
    rw [Nat.testBit_and, Nat.testBit_xor, Nat.testBit_two_pow_sub_one, decide_eq_true (show u < 32 from by omega)]
    cases a.testBit u <;> cases b.testBit u <;> rfl
theorem pz_ext8 {a b : Nat} (ha : a < 256) (hb : b < 256) (h : ∀ u, u < 8 → a.testBit u = b.testBit u) : a = b := by
  apply Nat.eq_of_testBit_eq
  intro i
  by_cases q : i < 8
  · exact h i q
  · rw [Nat.testBit_lt_two_pow (Nat.lt_of_lt_of_le ha (Nat.pow_le_pow_right (n := 2) (i := 8) (by omega) (by omega))), Nat.testBit_lt_two_pow (Nat.lt_of_lt_of_le hb (Nat.pow_le_pow_right (n := 2) (i := 8) (by omega) (by omega)))]
def pz_pc (c : Nat) : Nat := ((List.range 8).filter (fun u => c.testBit u)).length
theorem pz_bc (c : Nat) (hc : c < 256) (h : kv_H) : f_J6_bitCount_0f7a4 (nI c) h = some (nI (pz_pc c), h) := by
  have : ∀ c : Fin 256, (f_J6_bitCount_0f7a4 (nI c.val) h) = some (nI (pz_pc c.val), h) := by
    have e : ∀ x : Int32, f_J6_bitCount_0f7a4 x h = some ((fun x1 : Int32 => (fun e1 : Int32 => (fun e2 : Int32 => (fun e3 : Int32 => (fun e4 : Int32 => (fun e5 : Int32 => (e5 &&& 63)) (e4 + (e4.toUInt32 >>> (Int32.toUInt32 16 &&& Int32.toUInt32 31)).toInt32)) (e3 + (e3.toUInt32 >>> (Int32.toUInt32 8 &&& Int32.toUInt32 31)).toInt32)) ((e2 + (e2.toUInt32 >>> (Int32.toUInt32 4 &&& Int32.toUInt32 31)).toInt32) &&& 252645135)) ((e1 &&& 858993459) + ((e1.toUInt32 >>> (Int32.toUInt32 2 &&& Int32.toUInt32 31)).toInt32 &&& 858993459))) (x1 - ((x1.toUInt32 >>> (Int32.toUInt32 1 &&& Int32.toUInt32 31)).toInt32 &&& 1431655765))) x, h) := fun _ => rfl
    intro c
    rw [e]
    congr 2
    revert c
    decide +kernel
  exact this ⟨c, hc⟩
theorem pz_pcV {V : List Nat} {p : Nat → Bool} {c : Nat} (nd : V.Nodup) (hV : ∀ v, v ∈ V → v < 8) (e : ∀ u, u < 8 → c.testBit u = (decide (u ∈ V) && p u)) : pz_pc c = (V.filter p).length := by
  unfold pz_pc
  apply List.Perm.length_eq
  apply (List.perm_ext_iff_of_nodup (List.Nodup.sublist List.filter_sublist List.nodup_range) (List.Nodup.sublist List.filter_sublist nd)).mpr
  intro u
  rw [List.mem_filter, List.mem_filter, List.mem_range]
  constructor
  · rintro ⟨q1, q2⟩
    rw [e u q1] at q2
    simpa using q2
  · rintro ⟨q1, q2⟩
    refine ⟨hV u q1, ?_⟩
    rw [e u (hV u q1), q2]; simpa using q1

/-! PURE PART: ranges -/
theorem pz_l64 (x y : Int32) : (x.toInt64 < y.toInt64) = (x < y) := by
  apply propext; rw [Int64.lt_iff_toInt_lt, Int32.lt_iff_toInt_lt, Int32.toInt_toInt64, Int32.toInt_toInt64]
theorem pz_in (x a b : Int32) (h : kv_H) : f_X10_isIn x.toInt64 a.toInt64 b.toInt64 h = some ((if x < a ∨ b < x then 0 else 1), h) := by
  unfold f_X10_isIn
  by_cases q : x < a
  · rw [if_pos ((lg_cmp_lt _ _).mpr (by rw [pz_l64]; exact q)), if_pos (Or.inl q)]
  · rw [if_neg (fun z => q (by have := (lg_cmp_lt _ _).mp z; rwa [pz_l64] at this))]
    by_cases q2 : b < x
    · rw [if_pos ((lg_cmp_gt _ _).mpr (by rw [pz_l64]; exact q2)), if_pos (Or.inr q2)]
    · rw [if_neg (fun z => q2 (by have := (lg_cmp_gt _ _).mp z; rwa [pz_l64] at this)), if_neg (fun z => z.elim q q2)]
theorem pz_in0 (x b : Int32) (h : kv_H) : f_X10_isIn x.toInt64 0 b.toInt64 h = some ((if x < 0 ∨ b < x then 0 else 1), h) := pz_in x 0 b h
theorem pz_in_m1_1 (x : Int32) (h : kv_H) : f_X10_isIn x.toInt64 (-1) 1 h = some ((if x < -1 ∨ 1 < x then 0 else 1), h) := pz_in x (-1) 1 h
theorem pz_in_m9_9 (x : Int32) (h : kv_H) : f_X10_isIn x.toInt64 (-99999) 99999 h = some ((if x < -99999 ∨ 99999 < x then 0 else 1), h) := pz_in x (-99999) 99999 h
theorem pz_in_0_1 (x : Int32) (h : kv_H) : f_X10_isIn x.toInt64 0 1 h = some ((if x < 0 ∨ 1 < x then 0 else 1), h) := pz_in x 0 1 h
theorem pz_in_0_2 (x : Int32) (h : kv_H) : f_X10_isIn x.toInt64 0 2 h = some ((if x < 0 ∨ 2 < x then 0 else 1), h) := pz_in x 0 2 h
theorem pz_in_0_3 (x : Int32) (h : kv_H) : f_X10_isIn x.toInt64 0 3 h = some ((if x < 0 ∨ 3 < x then 0 else 1), h) := pz_in x 0 3 h
theorem pz_in_0_4 (x : Int32) (h : kv_H) : f_X10_isIn x.toInt64 0 4 h = some ((if x < 0 ∨ 4 < x then 0 else 1), h) := pz_in x 0 4 h
theorem pz_in_0_5 (x : Int32) (h : kv_H) : f_X10_isIn x.toInt64 0 5 h = some ((if x < 0 ∨ 5 < x then 0 else 1), h) := pz_in x 0 5 h
theorem pz_in_0_60 (x : Int32) (h : kv_H) : f_X10_isIn x.toInt64 0 60 h = some ((if x < 0 ∨ 60 < x then 0 else 1), h) := pz_in x 0 60 h
theorem pz_in_1_2 (x : Int32) (h : kv_H) : f_X10_isIn x.toInt64 1 2 h = some ((if x < 1 ∨ 2 < x then 0 else 1), h) := pz_in x 1 2 h
theorem pz_in_1_20 (x : Int32) (h : kv_H) : f_X10_isIn x.toInt64 1 20 h = some ((if x < 1 ∨ 20 < x then 0 else 1), h) := pz_in x 1 20 h
theorem pz_in_1_24 (x : Int32) (h : kv_H) : f_X10_isIn x.toInt64 1 24 h = some ((if x < 1 ∨ 24 < x then 0 else 1), h) := pz_in x 1 24 h
theorem pz_in_1_3 (x : Int32) (h : kv_H) : f_X10_isIn x.toInt64 1 3 h = some ((if x < 1 ∨ 3 < x then 0 else 1), h) := pz_in x 1 3 h
theorem pz_in_1_30 (x : Int32) (h : kv_H) : f_X10_isIn x.toInt64 1 30 h = some ((if x < 1 ∨ 30 < x then 0 else 1), h) := pz_in x 1 30 h
theorem pz_in_1_8 (x : Int32) (h : kv_H) : f_X10_isIn x.toInt64 1 8 h = some ((if x < 1 ∨ 8 < x then 0 else 1), h) := pz_in x 1 8 h
theorem pz_in_1_9 (x : Int32) (h : kv_H) : f_X10_isIn x.toInt64 1 9 h = some ((if x < 1 ∨ 9 < x then 0 else 1), h) := pz_in x 1 9 h
theorem pz_in_0_99 (x : Int32) (h : kv_H) : f_X10_isIn x.toInt64 0 99 h = some ((if x < 0 ∨ 99 < x then 0 else 1), h) := pz_in x 0 99 h
theorem pz_in_0_9 (x : Int32) (h : kv_H) : f_X10_isIn x.toInt64 0 9 h = some ((if x < 0 ∨ 9 < x then 0 else 1), h) := pz_in x 0 9 h
theorem pz_in_48_57 (x : Int32) (h : kv_H) : f_X10_isIn x.toInt64 48 57 h = some ((if x < 48 ∨ 57 < x then 0 else 1), h) := pz_in x 48 57 h
theorem pz_in_97_122 (x : Int32) (h : kv_H) : f_X10_isIn x.toInt64 97 122 h = some ((if x < 97 ∨ 122 < x then 0 else 1), h) := pz_in x 97 122 h
theorem pz_tb0 {β : Type} (R : Option β) : kv_t .boolean 0 R = R := by unfold kv_t; exact if_pos rfl
theorem pz_tb1 {β : Type} (R : Option β) : kv_t .boolean 1 R = R := by unfold kv_t; exact if_pos rfl
theorem pz_tbi {β : Type} (c : Prop) [Decidable c] (R : Option β) : kv_t .boolean (if c then 0 else 1) R = R := by
  by_cases q : c
  · rw [if_pos q]; exact pz_tb0 R
  · rw [if_neg q]; exact pz_tb1 R
theorem pz_lt_le {x : Int32} {n : Nat} (hn : n + 1 < 2147483648) : (nI n < x) = (nI (n + 1) ≤ x) := by
  apply propext; rw [Int32.lt_iff_toInt_lt, Int32.le_iff_toInt_le, nI_toInt (by omega), nI_toInt (by omega)]; omega
theorem pz_le_not {x y : Int32} : (¬ x ≤ y) = (y < x) := by
  apply propext; rw [Int32.le_iff_toInt_le, Int32.lt_iff_toInt_lt]; omega
theorem pz_lt_not {x y : Int32} : (¬ x < y) = (y ≤ x) := by
  apply propext; rw [Int32.le_iff_toInt_le, Int32.lt_iff_toInt_lt]; omega
theorem pz_lt_asym {x y : Int32} (q : x < y) : ¬ y < x ∧ ¬ y ≤ x ∧ x ≤ y ∧ ¬ x = y ∧ ¬ y = x := by
  rw [Int32.lt_iff_toInt_lt] at q
  refine ⟨?_, ?_, ?_, ?_, ?_⟩
  · rw [Int32.lt_iff_toInt_lt]; omega
  · rw [Int32.le_iff_toInt_le]; omega
  · rw [Int32.le_iff_toInt_le]; omega
  · intro e; rw [e] at q; omega
  · intro e; rw [e] at q; omega
theorem pz_lt_tr {x y z : Int32} (q : x < y) (q2 : y ≤ z) : x < z := by
  rw [Int32.lt_iff_toInt_lt] at *; rw [Int32.le_iff_toInt_le] at q2; omega
theorem pz_le_tr {x y z : Int32} (q : x ≤ y) (q2 : y ≤ z) : x ≤ z := by
  rw [Int32.le_iff_toInt_le] at *; omega
/-- outside of 0..n-1 -/
def pz_bad (x : Int32) (n : Nat) : Prop := x < 0 ∨ nI n ≤ x
theorem pz_cases (x : Int32) (n : Nat) (hn : n < 2147483648) : pz_bad x n ∨ ∃ j : Nat, j < n ∧ x = nI j := by
  rcases pz_ix x n hn with q | q | q
  · exact Or.inl (Or.inl q)
  · exact Or.inl (Or.inr q)
  · exact Or.inr q
/-- the usual three tests of a range, at a bad x and at a good one -/
theorem pz_badI {x : Int32} {n : Nat} (q : pz_bad x (n + 1)) (hn : n + 1 < 2147483648) : (x < 0 ∨ nI n < x) := by
  rcases q with q | q
  · exact Or.inl q
  · right; rw [pz_lt_le hn]; exact q
theorem pz_goodI {j n : Nat} (q : j < n + 1) (hn : n + 1 < 2147483648) : ¬ (nI j < 0 ∨ nI n < nI j) := by
  rintro (q2 | q2)
  · exact pz_ng (by omega) q2
  · rw [pz_lt (by omega) (by omega)] at q2; omega
theorem pz_in_0_1B {x : Int32} (q : pz_bad x 2) (h : kv_H) : f_X10_isIn x.toInt64 0 1 h = some (0, h) := by
  rw [pz_in_0_1]; exact congrArg some (congrArg (·, h) (if_pos (pz_badI (n := 1) q (by omega))))
theorem pz_in_0_1G {j : Nat} (q : j < 2) (h : kv_H) : f_X10_isIn (nI j).toInt64 0 1 h = some (1, h) := by
  rw [pz_in_0_1]; exact congrArg some (congrArg (·, h) (if_neg (pz_goodI (n := 1) q (by omega))))
theorem pz_in_0_2B {x : Int32} (q : pz_bad x 3) (h : kv_H) : f_X10_isIn x.toInt64 0 2 h = some (0, h) := by
  rw [pz_in_0_2]; exact congrArg some (congrArg (·, h) (if_pos (pz_badI (n := 2) q (by omega))))
theorem pz_in_0_2G {j : Nat} (q : j < 3) (h : kv_H) : f_X10_isIn (nI j).toInt64 0 2 h = some (1, h) := by
  rw [pz_in_0_2]; exact congrArg some (congrArg (·, h) (if_neg (pz_goodI (n := 2) q (by omega))))
theorem pz_in_0_3B {x : Int32} (q : pz_bad x 4) (h : kv_H) : f_X10_isIn x.toInt64 0 3 h = some (0, h) := by
  rw [pz_in_0_3]; exact congrArg some (congrArg (·, h) (if_pos (pz_badI (n := 3) q (by omega))))
theorem pz_in_0_3G {j : Nat} (q : j < 4) (h : kv_H) : f_X10_isIn (nI j).toInt64 0 3 h = some (1, h) := by
  rw [pz_in_0_3]; exact congrArg some (congrArg (·, h) (if_neg (pz_goodI (n := 3) q (by omega))))
theorem pz_in_0_4B {x : Int32} (q : pz_bad x 5) (h : kv_H) : f_X10_isIn x.toInt64 0 4 h = some (0, h) := by
  rw [pz_in_0_4]; exact congrArg some (congrArg (·, h) (if_pos (pz_badI (n := 4) q (by omega))))
theorem pz_in_0_4G {j : Nat} (q : j < 5) (h : kv_H) : f_X10_isIn (nI j).toInt64 0 4 h = some (1, h) := by
  rw [pz_in_0_4]; exact congrArg some (congrArg (·, h) (if_neg (pz_goodI (n := 4) q (by omega))))
theorem pz_in_0_5B {x : Int32} (q : pz_bad x 6) (h : kv_H) : f_X10_isIn x.toInt64 0 5 h = some (0, h) := by
  rw [pz_in_0_5]; exact congrArg some (congrArg (·, h) (if_pos (pz_badI (n := 5) q (by omega))))
theorem pz_in_0_5G {j : Nat} (q : j < 6) (h : kv_H) : f_X10_isIn (nI j).toInt64 0 5 h = some (1, h) := by
  rw [pz_in_0_5]; exact congrArg some (congrArg (·, h) (if_neg (pz_goodI (n := 5) q (by omega))))
theorem pz_in_0_60B {x : Int32} (q : pz_bad x 61) (h : kv_H) : f_X10_isIn x.toInt64 0 60 h = some (0, h) := by
  rw [pz_in_0_60]; exact congrArg some (congrArg (·, h) (if_pos (pz_badI (n := 60) q (by omega))))
theorem pz_in_0_60G {j : Nat} (q : j < 61) (h : kv_H) : f_X10_isIn (nI j).toInt64 0 60 h = some (1, h) := by
  rw [pz_in_0_60]; exact congrArg some (congrArg (·, h) (if_neg (pz_goodI (n := 60) q (by omega))))
theorem pz_in_0_99B {x : Int32} (q : pz_bad x 100) (h : kv_H) : f_X10_isIn x.toInt64 0 99 h = some (0, h) := by
  rw [pz_in_0_99]; exact congrArg some (congrArg (·, h) (if_pos (pz_badI (n := 99) q (by omega))))
theorem pz_in_0_99G {j : Nat} (q : j < 100) (h : kv_H) : f_X10_isIn (nI j).toInt64 0 99 h = some (1, h) := by
  rw [pz_in_0_99]; exact congrArg some (congrArg (·, h) (if_neg (pz_goodI (n := 99) q (by omega))))
theorem pz_in_0_9B {x : Int32} (q : pz_bad x 10) (h : kv_H) : f_X10_isIn x.toInt64 0 9 h = some (0, h) := by
  rw [pz_in_0_9]; exact congrArg some (congrArg (·, h) (if_pos (pz_badI (n := 9) q (by omega))))
theorem pz_in_0_9G {j : Nat} (q : j < 10) (h : kv_H) : f_X10_isIn (nI j).toInt64 0 9 h = some (1, h) := by
  rw [pz_in_0_9]; exact congrArg some (congrArg (·, h) (if_neg (pz_goodI (n := 9) q (by omega))))
theorem pz_in_1_2B {x : Int32} (q : pz_bad x 3) (h : kv_H) : f_X10_isIn x.toInt64 1 2 h = some (0, h) := by
  rw [pz_in_1_2]; exact congrArg some (congrArg (·, h) (if_pos ((pz_badI (n := 2) q (by omega)).imp (fun z => pz_lt_tr z (by decide)) (fun z => z))))
theorem pz_in_1_2Z (h : kv_H) : f_X10_isIn (nI 0).toInt64 1 2 h = some (0, h) := rfl
theorem pz_in_1_2G {j : Nat} (q0 : 1 ≤ j) (q : j < 3) (h : kv_H) : f_X10_isIn (nI j).toInt64 1 2 h = some (1, h) := by
  rw [pz_in_1_2]; exact congrArg some (congrArg (·, h) (if_neg (fun z => z.elim (fun y => by
    have y2 : nI j < nI 1 := y
    rw [pz_lt (by omega) (by omega)] at y2; omega) (fun y => pz_goodI (n := 2) q (by omega) (Or.inr y)))))
theorem pz_in_1_20B {x : Int32} (q : pz_bad x 21) (h : kv_H) : f_X10_isIn x.toInt64 1 20 h = some (0, h) := by
  rw [pz_in_1_20]; exact congrArg some (congrArg (·, h) (if_pos ((pz_badI (n := 20) q (by omega)).imp (fun z => pz_lt_tr z (by decide)) (fun z => z))))
theorem pz_in_1_20Z (h : kv_H) : f_X10_isIn (nI 0).toInt64 1 20 h = some (0, h) := rfl
theorem pz_in_1_20G {j : Nat} (q0 : 1 ≤ j) (q : j < 21) (h : kv_H) : f_X10_isIn (nI j).toInt64 1 20 h = some (1, h) := by
  rw [pz_in_1_20]; exact congrArg some (congrArg (·, h) (if_neg (fun z => z.elim (fun y => by
    have y2 : nI j < nI 1 := y
    rw [pz_lt (by omega) (by omega)] at y2; omega) (fun y => pz_goodI (n := 20) q (by omega) (Or.inr y)))))
theorem pz_in_1_24B {x : Int32} (q : pz_bad x 25) (h : kv_H) : f_X10_isIn x.toInt64 1 24 h = some (0, h) := by
  rw [pz_in_1_24]; exact congrArg some (congrArg (·, h) (if_pos ((pz_badI (n := 24) q (by omega)).imp (fun z => pz_lt_tr z (by decide)) (fun z => z))))
theorem pz_in_1_24Z (h : kv_H) : f_X10_isIn (nI 0).toInt64 1 24 h = some (0, h) := rfl
theorem pz_in_1_24G {j : Nat} (q0 : 1 ≤ j) (q : j < 25) (h : kv_H) : f_X10_isIn (nI j).toInt64 1 24 h = some (1, h) := by
  rw [pz_in_1_24]; exact congrArg some (congrArg (·, h) (if_neg (fun z => z.elim (fun y => by
    have y2 : nI j < nI 1 := y
    rw [pz_lt (by omega) (by omega)] at y2; omega) (fun y => pz_goodI (n := 24) q (by omega) (Or.inr y)))))
theorem pz_in_1_3B {x : Int32} (q : pz_bad x 4) (h : kv_H) : f_X10_isIn x.toInt64 1 3 h = some (0, h) := by
  rw [pz_in_1_3]; exact congrArg some (congrArg (·, h) (if_pos ((pz_badI (n := 3) q (by omega)).imp (fun z => pz_lt_tr z (by decide)) (fun z => z))))
theorem pz_in_1_3Z (h : kv_H) : f_X10_isIn (nI 0).toInt64 1 3 h = some (0, h) := rfl
theorem pz_in_1_3G {j : Nat} (q0 : 1 ≤ j) (q : j < 4) (h : kv_H) : f_X10_isIn (nI j).toInt64 1 3 h = some (1, h) := by
  rw [pz_in_1_3]; exact congrArg some (congrArg (·, h) (if_neg (fun z => z.elim (fun y => by
    have y2 : nI j < nI 1 := y
    rw [pz_lt (by omega) (by omega)] at y2; omega) (fun y => pz_goodI (n := 3) q (by omega) (Or.inr y)))))
theorem pz_in_1_30B {x : Int32} (q : pz_bad x 31) (h : kv_H) : f_X10_isIn x.toInt64 1 30 h = some (0, h) := by
  rw [pz_in_1_30]; exact congrArg some (congrArg (·, h) (if_pos ((pz_badI (n := 30) q (by omega)).imp (fun z => pz_lt_tr z (by decide)) (fun z => z))))
theorem pz_in_1_30Z (h : kv_H) : f_X10_isIn (nI 0).toInt64 1 30 h = some (0, h) := rfl
theorem pz_in_1_30G {j : Nat} (q0 : 1 ≤ j) (q : j < 31) (h : kv_H) : f_X10_isIn (nI j).toInt64 1 30 h = some (1, h) := by
  rw [pz_in_1_30]; exact congrArg some (congrArg (·, h) (if_neg (fun z => z.elim (fun y => by
    have y2 : nI j < nI 1 := y
    rw [pz_lt (by omega) (by omega)] at y2; omega) (fun y => pz_goodI (n := 30) q (by omega) (Or.inr y)))))
theorem pz_in_1_8B {x : Int32} (q : pz_bad x 9) (h : kv_H) : f_X10_isIn x.toInt64 1 8 h = some (0, h) := by
  rw [pz_in_1_8]; exact congrArg some (congrArg (·, h) (if_pos ((pz_badI (n := 8) q (by omega)).imp (fun z => pz_lt_tr z (by decide)) (fun z => z))))
theorem pz_in_1_8Z (h : kv_H) : f_X10_isIn (nI 0).toInt64 1 8 h = some (0, h) := rfl
theorem pz_in_1_8G {j : Nat} (q0 : 1 ≤ j) (q : j < 9) (h : kv_H) : f_X10_isIn (nI j).toInt64 1 8 h = some (1, h) := by
  rw [pz_in_1_8]; exact congrArg some (congrArg (·, h) (if_neg (fun z => z.elim (fun y => by
    have y2 : nI j < nI 1 := y
    rw [pz_lt (by omega) (by omega)] at y2; omega) (fun y => pz_goodI (n := 8) q (by omega) (Or.inr y)))))
theorem pz_in_1_9B {x : Int32} (q : pz_bad x 10) (h : kv_H) : f_X10_isIn x.toInt64 1 9 h = some (0, h) := by
  rw [pz_in_1_9]; exact congrArg some (congrArg (·, h) (if_pos ((pz_badI (n := 9) q (by omega)).imp (fun z => pz_lt_tr z (by decide)) (fun z => z))))
theorem pz_in_1_9Z (h : kv_H) : f_X10_isIn (nI 0).toInt64 1 9 h = some (0, h) := rfl
theorem pz_in_1_9G {j : Nat} (q0 : 1 ≤ j) (q : j < 10) (h : kv_H) : f_X10_isIn (nI j).toInt64 1 9 h = some (1, h) := by
  rw [pz_in_1_9]; exact congrArg some (congrArg (·, h) (if_neg (fun z => z.elim (fun y => by
    have y2 : nI j < nI 1 := y
    rw [pz_lt (by omega) (by omega)] at y2; omega) (fun y => pz_goodI (n := 9) q (by omega) (Or.inr y)))))
theorem pz_isSheetB {x : Int32} (q : pz_bad x 4) (h : kv_H) : f_X9_isSheet x h = some (0, h) := by
  unfold f_X9_isSheet
  rcases q with q | q
  · rw [if_pos q]
  · by_cases q2 : x < 0
    · rw [if_pos q2]
    · rw [if_neg q2]
      exact if_pos q
theorem pz_isSheetG {j : Nat} (q : j < 4) (h : kv_H) : f_X9_isSheet (nI j) h = some (1, h) := by
  unfold f_X9_isSheet
  rw [if_neg (pz_ng (by omega))]
  exact if_neg (by show ¬ nI 4 ≤ nI j; rw [pz_le (by omega) (by omega)]; omega)
theorem pz_isSheetMB {x : Int32} (q : pz_bad x 4) (h : kv_H) : f_X10_isSheet x h = some (0, h) := by
  unfold f_X10_isSheet
  rw [pz_in_0_3B q, pz_b]; exact pz_tb0 _
theorem pz_isSheetMG {j : Nat} (q : j < 4) (h : kv_H) : f_X10_isSheet (nI j) h = some (1, h) := by
  unfold f_X10_isSheet
  rw [pz_in_0_3G q, pz_b]; exact pz_tb1 _
theorem pz_isSlotB {x : Int32} (q : pz_bad x 5) (h : kv_H) : f_X9_isSlot x h = some (0, h) := by
  unfold f_X9_isSlot
  rcases q with q | q
  · rw [if_pos q]
  · by_cases q2 : x < 0
    · rw [if_pos q2]
    · rw [if_neg q2]
      exact if_pos q
theorem pz_isSlotG {j : Nat} (q : j < 5) (h : kv_H) : f_X9_isSlot (nI j) h = some (1, h) := by
  unfold f_X9_isSlot
  rw [if_neg (pz_ng (by omega))]
  exact if_neg (by show ¬ nI 5 ≤ nI j; rw [pz_le (by omega) (by omega)]; omega)
theorem pz_isSlotMB {x : Int32} (q : pz_bad x 5) (h : kv_H) : f_X10_isSlot x h = some (0, h) := by
  unfold f_X10_isSlot
  rw [pz_in_0_4B q, pz_b]; exact pz_tb0 _
theorem pz_isSlotMG {j : Nat} (q : j < 5) (h : kv_H) : f_X10_isSlot (nI j) h = some (1, h) := by
  unfold f_X10_isSlot
  rw [pz_in_0_4G q, pz_b]; exact pz_tb1 _
theorem pz_isKindB {x : Int32} (q : pz_bad x 6) (h : kv_H) : f_X9_isKind x h = some (0, h) := by
  unfold f_X9_isKind
  rcases q with q | q
  · rw [if_pos q]
  · by_cases q2 : x < 0
    · rw [if_pos q2]
    · rw [if_neg q2]
      exact if_pos (by show nI 5 < x; rw [pz_lt_le (by omega)]; exact q)
theorem pz_isKindG {j : Nat} (q : j < 6) (h : kv_H) : f_X9_isKind (nI j) h = some (1, h) := by
  unfold f_X9_isKind
  rw [if_neg (pz_ng (by omega))]
  exact if_neg (by show ¬ nI 5 < nI j; rw [pz_lt (by omega) (by omega)]; omega)
theorem pz_ifif (c : Prop) [Decidable c] : ((if c then (0 : Int32) else 1) = 0) = c := by
  by_cases q : c
  · rw [if_pos q]; exact propext ⟨fun _ => q, fun _ => rfl⟩
  · rw [if_neg q]; exact propext ⟨fun z => absurd z (by decide), fun z => absurd z q⟩
theorem pz_if2 {β : Type} (c d : Prop) [Decidable c] [Decidable d] (a b : β) : (if c then a else if d then a else b) = (if c ∨ d then a else b) := by
  by_cases q : c
  · rw [if_pos q, if_pos (Or.inl q)]
  · rw [if_neg q]
    by_cases q2 : d
    · rw [if_pos q2, if_pos (Or.inr q2)]
    · rw [if_neg q2, if_neg (fun z => z.elim q q2)]
theorem pz_ifs {α β : Type} (c : Prop) [Decidable c] (a b : α) (h : β) : (if c then some (a, h) else some (b, h)) = some (if c then a else b, h) := by
  by_cases q : c
  · rw [if_pos q, if_pos q]
  · rw [if_neg q, if_neg q]
theorem pz_isSheetU (x : Int32) (h : kv_H) : f_X9_isSheet x h = some (if x < 0 ∨ 4 ≤ x then 0 else 1, h) := by
  rw [f_X9_isSheet, pz_if2, pz_ifs]
theorem pz_isSlotU (x : Int32) (h : kv_H) : f_X9_isSlot x h = some (if x < 0 ∨ 5 ≤ x then 0 else 1, h) := by
  rw [f_X9_isSlot, pz_if2, pz_ifs]
theorem pz_isKindU (x : Int32) (h : kv_H) : f_X9_isKind x h = some (if x < 0 ∨ 5 < x then 0 else 1, h) := by
  rw [f_X9_isKind, pz_if2, pz_ifs]
theorem pz_hasU (q : Nat) (x : Int32) (h : kv_H) : f_X3_has q x h = some (if x < 0 ∨ h q 2 ≤ x then 0 else 1, h) := by
  rw [f_X3_has, pz_if2, pz_ifs]
theorem pz_isSheetMU (x : Int32) (h : kv_H) : f_X10_isSheet x h = some (if x < 0 ∨ 3 < x then 0 else 1, h) := by
  rw [f_X10_isSheet, pz_in_0_3, pz_b, pz_tbi]
theorem pz_isSlotMU (x : Int32) (h : kv_H) : f_X10_isSlot x h = some (if x < 0 ∨ 4 < x then 0 else 1, h) := by
  rw [f_X10_isSlot, pz_in_0_4, pz_b, pz_tbi]
theorem pz_leafAtU (x : Int32) (h : kv_H) : f_X10_leafAt x h = some (10 + 7 * x, h) := rfl
theorem pz_textAtU (x : Int32) (h : kv_H) : f_X10_textAt x h = some (98 + 200 * x, h) := rfl
theorem pz_orNoneU (x : Int32) (h : kv_H) : f_X10_orNone x h = some (if 0 ≤ x then x else -1000000005, h) := by
  rw [f_X10_orNone, pz_ifs]

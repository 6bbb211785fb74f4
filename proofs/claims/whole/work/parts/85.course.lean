/-! PURE PART: the course: one number changed, a place looked up, a leaf out, a leaf in -/
def pz_Xu (X : Nat → Int32) (j : Nat) (v : Int32) : Nat → Int32 := fun i => if i = j then v else X i
theorem pz_Xua (X : Nat → Int32) (j : Nat) (v : Int32) (i : Nat) : pz_Xu X j v i = if i = j then v else X i := rfl
theorem pz_XuE (X : Nat → Int32) (j : Nat) (v : Int32) : pz_Xu X j v j = v := if_pos rfl
theorem pz_XuN {X : Nat → Int32} {j i : Nat} {v : Int32} (q : i ≠ j) : pz_Xu X j v i = X i := if_neg q
theorem pz_vlen {n : Nat} {V : List Nat} {X : Nat → Int32} (cb : pz_CB n V X) (hn : n ≤ 8) : V.length ≤ 8 := Nat.le_trans (pz_nodup_le n V cb.1 cb.2.1) hn
theorem pz_iLt {V : List Nat} {i v : Nat} (hv : V[i]? = some v) : i < V.length := by
  obtain ⟨q, _⟩ := List.getElem?_eq_some_iff.mp hv; exact q
theorem pz_Xu_CC0 {h : kv_H} {c : Nat} {V : List Nat} {X : Nat → Int32} (cc : pz_CC h c V X) (j : Nat) (hj : j < 3) (v : Int32) : pz_CC (kv_up h c (5 + j) v) c V (pz_Xu X j v) := by
  obtain ⟨a1, a2, a3, a4, a5, a6, a7⟩ := cc
  refine ⟨?_, ?_, ?_, ?_, ?_, ?_, ?_⟩
  · simp (disch := omega) only [pz_upne, pz_upeq, pz_upd, if_neg, if_pos, if_true, if_false, pz_Xua]; exact a1
  · simp (disch := omega) only [pz_upne, pz_upeq, pz_upd, if_neg, if_pos, if_true, if_false, pz_Xua]; exact a2
  · rw [pz_upeq, pz_upd, pz_Xua]; by_cases q : j = 0
    · rw [if_pos (by omega), if_pos (by omega)]
    · rw [if_neg (by omega), if_neg (by omega)]; exact a3
  · rw [pz_upeq, pz_upd, pz_Xua]; by_cases q : j = 1
    · rw [if_pos (by omega), if_pos (by omega)]
    · rw [if_neg (by omega), if_neg (by omega)]; exact a4
  · rw [pz_upeq, pz_upd, pz_Xua]; by_cases q : j = 2
    · rw [if_pos (by omega), if_pos (by omega)]
    · rw [if_neg (by omega), if_neg (by omega)]; exact a5
  · intro i w hw; simp (disch := omega) only [pz_upne, pz_upeq, pz_upd, if_neg, if_pos, if_true, if_false, pz_Xua]; exact a6 i w hw
  · intro i hi; simp (disch := omega) only [pz_upne, pz_upeq, pz_upd, if_neg, if_pos, if_true, if_false, pz_Xua]; exact a7 i hi
theorem pz_Xu_CCl {h : kv_H} {c : Nat} {V : List Nat} {X : Nat → Int32} (cc : pz_CC h c V X) {u : Nat} (hu : u < 8) (v : Int32) : pz_CC (kv_up h (c + 2) u v) c V (pz_Xu X (10 + u) v) := by
  obtain ⟨a1, a2, a3, a4, a5, a6, a7⟩ := cc
  refine ⟨?_, ?_, ?_, ?_, ?_, ?_, ?_⟩
  · simp (disch := omega) only [pz_upne, pz_upeq, pz_upd, if_neg, if_pos, if_true, if_false, pz_Xua]; exact a1
  · simp (disch := omega) only [pz_upne, pz_upeq, pz_upd, if_neg, if_pos, if_true, if_false, pz_Xua]; exact a2
  · simp (disch := omega) only [pz_upne, pz_upeq, pz_upd, if_neg, if_pos, if_true, if_false, pz_Xua]; exact a3
  · simp (disch := omega) only [pz_upne, pz_upeq, pz_upd, if_neg, if_pos, if_true, if_false, pz_Xua]; exact a4
  · simp (disch := omega) only [pz_upne, pz_upeq, pz_upd, if_neg, if_pos, if_true, if_false, pz_Xua]; exact a5
  · intro i w hw; simp (disch := omega) only [pz_upne, pz_upeq, pz_upd, if_neg, if_pos, if_true, if_false, pz_Xua]; exact a6 i w hw
  · intro i hi
    refine ⟨?_, ?_⟩
    · rw [pz_upeq, pz_upd, pz_Xua]; by_cases q : i = u
      · rw [if_pos q, if_pos (by omega)]
      · rw [if_neg q, if_neg (by omega)]; exact (a7 i hi).1
    · simp (disch := omega) only [pz_upne, pz_upeq, pz_upd, if_neg, if_pos, if_true, if_false, pz_Xua]; exact (a7 i hi).2
theorem pz_Xu_CCt {h : kv_H} {c : Nat} {V : List Nat} {X : Nat → Int32} (cc : pz_CC h c V X) {u : Nat} (hu : u < 8) (v : Int32) : pz_CC (kv_up h (c + 3) u v) c V (pz_Xu X (20 + u) v) := by
  obtain ⟨a1, a2, a3, a4, a5, a6, a7⟩ := cc
  refine ⟨?_, ?_, ?_, ?_, ?_, ?_, ?_⟩
  · simp (disch := omega) only [pz_upne, pz_upeq, pz_upd, if_neg, if_pos, if_true, if_false, pz_Xua]; exact a1
  · simp (disch := omega) only [pz_upne, pz_upeq, pz_upd, if_neg, if_pos, if_true, if_false, pz_Xua]; exact a2
  · simp (disch := omega) only [pz_upne, pz_upeq, pz_upd, if_neg, if_pos, if_true, if_false, pz_Xua]; exact a3
  · simp (disch := omega) only [pz_upne, pz_upeq, pz_upd, if_neg, if_pos, if_true, if_false, pz_Xua]; exact a4
  · simp (disch := omega) only [pz_upne, pz_upeq, pz_upd, if_neg, if_pos, if_true, if_false, pz_Xua]; exact a5
  · intro i w hw; simp (disch := omega) only [pz_upne, pz_upeq, pz_upd, if_neg, if_pos, if_true, if_false, pz_Xua]; exact a6 i w hw
  · intro i hi
    refine ⟨?_, ?_⟩
    · simp (disch := omega) only [pz_upne, pz_upeq, pz_upd, if_neg, if_pos, if_true, if_false, pz_Xua]; exact (a7 i hi).1
    · rw [pz_upeq, pz_upd, pz_Xua]; by_cases q : i = u
      · rw [if_pos q, if_pos (by omega)]
      · rw [if_neg q, if_neg (by omega)]; exact (a7 i hi).2
/-- the reference's numbers: place b of its state holds X j -/
theorem pz_Xu_CM {s s' : Nat → Int32} {n : Nat} {V : List Nat} {X : Nat → Int32} (hn : n ≤ 8) (vl : V.length ≤ 8) (cm : pz_CM s n V X) (b j u : Nat) (v : Int32) (hu : u < 8) (q : (b = 6 ∧ j = 0) ∨ (b = 7 ∧ j = 1) ∨ (b = 9 ∧ j = 2) ∨ (b = 16 + 7 * u ∧ j = 10 + u) ∨ (b = 15 + 7 * u ∧ j = 20 + u)) (e : s' = upd s b v) : pz_CM s' n V (pz_Xu X j v) := by
  obtain ⟨b1, b2, b3, b4, b5, b6⟩ := cm
  subst e
  refine ⟨?_, ?_, ?_, ?_, ?_, ?_⟩
  · rw [pz_upd, if_neg (by omega)]; exact b1
  · rw [pz_upd, pz_Xua]; by_cases z : b = 6
    · rw [if_pos z.symm, if_pos (by omega)]
    · rw [if_neg (by omega), if_neg (by omega)]; exact b2
  · rw [pz_upd, pz_Xua]; by_cases z : b = 7
    · rw [if_pos z.symm, if_pos (by omega)]
    · rw [if_neg (by omega), if_neg (by omega)]; exact b3
  · rw [pz_upd, pz_Xua]; by_cases z : b = 9
    · rw [if_pos z.symm, if_pos (by omega)]
    · rw [if_neg (by omega), if_neg (by omega)]; exact b4
  · intro i w hw
    have := pz_iLt hw
    rw [pz_upd, if_neg (by omega)]; exact b5 i w hw
  · intro i hi
    refine ⟨?_, ?_⟩
    · rw [pz_upd, pz_Xua]; by_cases z : 16 + 7 * i = b
      · rw [if_pos z, if_pos (by omega)]
      · rw [if_neg z, if_neg (by omega)]; exact (b6 i hi).1
    · rw [pz_upd, pz_Xua]; by_cases z : 15 + 7 * i = b
      · rw [if_pos z, if_pos (by omega)]
      · rw [if_neg z, if_neg (by omega)]; exact (b6 i hi).2
theorem pz_Xu_CB {n : Nat} {V : List Nat} {X : Nat → Int32} (cb : pz_CB n V X) {j : Nat} (v : Int32) (u : Nat) (q : j < 10 ∨ (u < n ∧ (j = 10 + u ∨ j = 20 + u))) (hn : n ≤ 8) : pz_CB n V (pz_Xu X j v) := by
  refine ⟨cb.1, cb.2.1, fun i h1 h2 => ?_⟩
  have := cb.2.2 i h1 h2
  rw [pz_XuN (by omega), pz_XuN (by omega)]; exact this
theorem pz_CC_fr {h h' : kv_H} {c : Nat} {V : List Nat} {X : Nat → Int32} (cc : pz_CC h c V X) (f : ∀ a, c ≤ a → a ≤ c + 3 → h' a = h a) : pz_CC h' c V X := by
  unfold pz_CC at *
  rw [f c (by omega) (by omega), f (c + 1) (by omega) (by omega), f (c + 2) (by omega) (by omega), f (c + 3) (by omega) (by omega)]; exact cc
/-- the place of a leaf, by the class -/
theorem pz_place9 {h : kv_H} {c : Nat} {V : List Nat} {X : Nat → Int32} (cc : pz_CC h c V X) (vl : V.length ≤ 8) (hV : ∀ v, v ∈ V → v < 8) (u : Nat) (hu : u < 2147483648) : (∀ j, V[j]? = some u → V.Nodup → f_X0_placeOf c (nI u) h = some (nI j, h)) ∧ (u ∉ V → f_X0_placeOf c (nI u) h = some (-1000000005, h)) := by
  refine ⟨fun j hj nd => ?_, fun hu' => ?_⟩
  · have jl := pz_iLt hj
    unfold f_X0_placeOf
    refine pz_for (fun m k (_ : Unit) => f_X0_placeOf_L2 c (nI u) m (nI k) h (fun h1 => some (-1000000005, h1))) (fun k _ => k ≤ j) (fun R => R = some (nI j, h)) j ?_ ?_ kv_fu 0 () (by omega) (by rw [show kv_fu = 5000 from rfl]; omega) (by omega)
    · intro m _ _
      show f_X0_placeOf_L2 c (nI u) (m + 1) (nI j) h _ = _
      rw [f_X0_placeOf_L2, cc.1, if_neg (nI_ge jl (by omega)), pz_kN (by omega) (by omega), pz_cl (by omega), cc.2.2.2.2.2.1 j u hj, if_pos rfl]
    · intro m k _ hk _
      right
      refine ⟨(), by omega, ?_⟩
      show f_X0_placeOf_L2 c (nI u) (m + 1) (nI k) h _ = _
      obtain ⟨v, hv⟩ : ∃ v, V[k]? = some v := ⟨V[k]'(by omega), List.getElem?_eq_getElem _⟩
      have vu : v ≠ u := by
        intro z; subst z
        exact absurd ((List.getElem?_inj (by omega) nd).mp (hv.trans hj.symm)) (by omega)
      have := hV v (pz_mem_of_get hv)
      rw [f_X0_placeOf_L2, cc.1, if_neg (nI_ge (by omega) (by omega)), pz_kN (by omega) (by omega), pz_cl (by omega), cc.2.2.2.2.2.1 k v hv, if_neg (fun z => vu ((nI_eq (by omega) (by omega)).mp z)), nI_1]
  · unfold f_X0_placeOf
    refine pz_for (fun m k (_ : Unit) => f_X0_placeOf_L2 c (nI u) m (nI k) h (fun h1 => some (-1000000005, h1))) (fun _ _ => True) (fun R => R = some (-1000000005, h)) V.length ?_ ?_ kv_fu 0 () (by omega) (by rw [show kv_fu = 5000 from rfl]; omega) trivial
    · intro m _ _
      show f_X0_placeOf_L2 c (nI u) (m + 1) (nI V.length) h _ = _
      rw [f_X0_placeOf_L2, cc.1, if_pos (nI_le (Nat.le_refl _) (by omega))]
    · intro m k _ hk _
      right
      refine ⟨(), trivial, ?_⟩
      show f_X0_placeOf_L2 c (nI u) (m + 1) (nI k) h _ = _
      obtain ⟨v, hv⟩ : ∃ v, V[k]? = some v := ⟨V[k]'(by omega), List.getElem?_eq_getElem _⟩
      have vu : v ≠ u := by
        intro z; subst z
        exact hu' (pz_mem_of_get hv)
      have := hV v (pz_mem_of_get hv)
      rw [f_X0_placeOf_L2, cc.1, if_neg (nI_ge (by omega) (by omega)), pz_kN (by omega) (by omega), pz_cl (by omega), cc.2.2.2.2.2.1 k v hv, if_neg (fun z => vu ((nI_eq (by omega) (by omega)).mp z)), nI_1]
/-- the same by the reference -/
theorem pz_place10 {h : kv_H} {n : Nat} {V : List Nat} {X : Nat → Int32} (cm : pz_CM (h 112) n V X) (vl : V.length ≤ 8) (hV : ∀ v, v ∈ V → v < 8) (u : Nat) (hu : u < 2147483648) : (∀ j, V[j]? = some u → V.Nodup → f_X10_placeOf (nI u) h = some (nI j, h)) ∧ (u ∉ V → f_X10_placeOf (nI u) h = some (-1, h)) := by
  have e66 : ∀ k : Nat, (66 : Int32) + nI k = nI (66 + k) := fun k => pz_add 66 k
  refine ⟨fun j hj nd => ?_, fun hu' => ?_⟩
  · have jl := pz_iLt hj
    unfold f_X10_placeOf
    refine pz_for (fun m k (v : Int32) => f_X10_placeOf_L4 (nI u) m v (nI k) h (fun z1 h2 => some (z1, h2))) (fun k v => j < k → v = nI j) (fun R => R = some (nI j, h)) V.length ?_ ?_ kv_fu 0 _ (by omega) (by rw [show kv_fu = 5000 from rfl]; omega) (by omega)
    · intro m v hv
      show f_X10_placeOf_L4 (nI u) (m + 1) v (nI V.length) h _ = _
      rw [f_X10_placeOf_L4, cm.1, if_pos (nI_le (Nat.le_refl _) (by omega)), hv jl]
    · intro m k v hk hv
      right
      obtain ⟨w, hw⟩ : ∃ w, V[k]? = some w := ⟨V[k]'(by omega), List.getElem?_eq_getElem _⟩
      have := hV w (pz_mem_of_get hw)
      by_cases z : k = j
      · subst z
        refine ⟨nI k, fun _ => rfl, ?_⟩
        show f_X10_placeOf_L4 (nI u) (m + 1) v (nI k) h _ = _
        rw [f_X10_placeOf_L4, cm.1, if_neg (nI_ge (by omega) (by omega)), e66, pz_kN (by omega) (by omega), pz_cl (by omega), cm.2.2.2.2.1 k u hj, if_pos rfl, nI_1]
      · have vu : w ≠ u := by
          intro y; subst y
          exact absurd ((List.getElem?_inj (by omega) nd).mp (hw.trans hj.symm)) (by omega)
        refine ⟨v, fun y => hv (by omega), ?_⟩
        show f_X10_placeOf_L4 (nI u) (m + 1) v (nI k) h _ = _
        rw [f_X10_placeOf_L4, cm.1, if_neg (nI_ge (by omega) (by omega)), e66, pz_kN (by omega) (by omega), pz_cl (by omega), cm.2.2.2.2.1 k w hw, if_neg (fun z => vu ((nI_eq (by omega) (by omega)).mp z)), nI_1]
  · unfold f_X10_placeOf
    refine pz_for (fun m k (v : Int32) => f_X10_placeOf_L4 (nI u) m v (nI k) h (fun z1 h2 => some (z1, h2))) (fun k v => v = -1) (fun R => R = some (-1, h)) V.length ?_ ?_ kv_fu 0 _ (by omega) (by rw [show kv_fu = 5000 from rfl]; omega) rfl
    · intro m v hv
      show f_X10_placeOf_L4 (nI u) (m + 1) v (nI V.length) h _ = _
      rw [f_X10_placeOf_L4, cm.1, if_pos (nI_le (Nat.le_refl _) (by omega)), hv]
    · intro m k v hk hv
      right
      obtain ⟨w, hw⟩ : ∃ w, V[k]? = some w := ⟨V[k]'(by omega), List.getElem?_eq_getElem _⟩
      have := hV w (pz_mem_of_get hw)
      have vu : w ≠ u := by
        intro y; subst y
        exact hu' (pz_mem_of_get hw)
      refine ⟨v, hv, ?_⟩
      show f_X10_placeOf_L4 (nI u) (m + 1) v (nI k) h _ = _
      rw [f_X10_placeOf_L4, cm.1, if_neg (nI_ge (by omega) (by omega)), e66, pz_kN (by omega) (by omega), pz_cl (by omega), cm.2.2.2.2.1 k w hw, if_neg (fun z => vu ((nI_eq (by omega) (by omega)).mp z)), nI_1]
theorem pz_memErase {V : List Nat} {j u : Nat} (nd : V.Nodup) (hj : V[j]? = some u) (w : Nat) : w ∈ V.eraseIdx j ↔ w ∈ V ∧ w ≠ u := by
  rw [List.mem_eraseIdx_iff_getElem?]
  constructor
  · rintro ⟨i, h1, h2⟩
    refine ⟨pz_mem_of_get h2, fun z => ?_⟩
    subst z
    exact h1 ((List.getElem?_inj (pz_iLt h2) nd).mp (h2.trans hj.symm))
  · rintro ⟨h1, h2⟩
    obtain ⟨i, hi⟩ := pz_get_of_mem h1
    refine ⟨i, fun z => ?_, hi⟩
    subst z
    rw [hj] at hi; exact h2 (Option.some.inj hi).symm
theorem pz_bits_era {V : List Nat} {j u : Nat} (nd : V.Nodup) (hV : ∀ v, v ∈ V → v < 8) (hj : V[j]? = some u) : nI (pz_bits V) &&& (((1 : Int32) <<< (nI u &&& 31)) ^^^ (-1)) = nI (pz_bits (V.eraseIdx j)) := by
  have u8 := hV u (pz_mem_of_get hj)
  rw [pz_bit u u8]
  obtain ⟨c, e1, e2, e3⟩ := pz_nand (a := pz_bits V) (b := 2 ^ u) (pz_bitsL V hV)
  rw [e1]
  congr 1
  refine pz_ext8 e2 (pz_bitsL _ (fun v hv => hV v ((pz_memErase nd hj v).mp hv).1)) (fun w hw => ?_)
  rw [e3 w hw, pz_bitsT, pz_bitsT, Nat.testBit_two_pow]
  by_cases q : w ∈ V.eraseIdx j
  · have := (pz_memErase nd hj w).mp q
    have z : ¬ u = w := fun y => this.2 y.symm
    simp [q, this.1, z]
  · by_cases q2 : w ∈ V
    · have z : u = w := by
        by_cases y : w = u
        · exact y.symm
        · exact absurd ((pz_memErase nd hj w).mpr ⟨q2, y⟩) q
      simp [q, q2, z]
    · simp [q, q2]
theorem pz_CB_era {n : Nat} {V : List Nat} {X : Nat → Int32} {j u : Nat} (cb : pz_CB n V X) (hj : V[j]? = some u) : pz_CB n (V.eraseIdx j) X := ⟨cb.1.sublist (List.eraseIdx_sublist ..), fun v hv => cb.2.1 v ((pz_memErase cb.1 hj v).mp hv).1, cb.2.2⟩
/-- a leaf goes out, by the class -/
theorem pz_leave9 {h : kv_H} {c : Nat} {V : List Nat} {X : Nat → Int32} (cc : pz_CC h c V X) (vl : V.length ≤ 8) (hV : ∀ v, v ∈ V → v < 8) (nd : V.Nodup) (u : Nat) (hu : u < 2147483648) : (∀ j, V[j]? = some u → ∃ h', f_X0_leave c (nI u) h = some (1, h') ∧ pz_CC h' c (V.eraseIdx j) X ∧ (∀ a, a ≠ c → a ≠ c + 1 → h' a = h a)) ∧ (u ∉ V → f_X0_leave c (nI u) h = some (0, h)) := by
  refine ⟨fun j hj => ?_, fun hu' => ?_⟩
  · have jl := pz_iLt hj
    have pl := (pz_place9 cc vl hV u hu).1 j hj nd
    have le : (V.eraseIdx j).length = V.length - 1 := List.length_eraseIdx_of_lt jl
    have main : ∃ h', f_X0_leave_L16 c (nI u) kv_fu (nI (j + 1)) h (fun h5 => kv_hl (kv_up h5 c 3 ((h5 c 3) - 1)) (fun h6 => kv_hl (kv_up h6 c 4 ((h6 c 4) &&& ((1 <<< (nI u &&& 31)) ^^^ (-1)))) (fun h7 => some ((1 : Int32), h7)))) = some (1, h') ∧ pz_CC h' c (V.eraseIdx j) X ∧ (∀ a, a ≠ c → a ≠ c + 1 → h' a = h a) := by
      refine pz_for (fun m k (g : kv_H) => f_X0_leave_L16 c (nI u) m (nI k) g (fun h5 => kv_hl (kv_up h5 c 3 ((h5 c 3) - 1)) (fun h6 => kv_hl (kv_up h6 c 4 ((h6 c 4) &&& ((1 <<< (nI u &&& 31)) ^^^ (-1)))) (fun h7 => some ((1 : Int32), h7))))) (fun k g => j + 1 ≤ k ∧ (∀ a, a ≠ c + 1 → g a = h a) ∧ ∀ b, g (c + 1) b = if j ≤ b ∧ b + 1 < k then h (c + 1) (b + 1) else h (c + 1) b) (fun R => ∃ h', R = some (1, h') ∧ pz_CC h' c (V.eraseIdx j) X ∧ (∀ a, a ≠ c → a ≠ c + 1 → h' a = h a)) V.length ?_ ?_ kv_fu (j + 1) _ (by omega) (by rw [show kv_fu = 5000 from rfl]; omega) ⟨by omega, fun _ _ => rfl, fun b => by rw [if_neg (by omega)]⟩
      · intro m g ⟨_, g1, g2⟩
        have gc : g c = h c := g1 c (by omega)
        refine ⟨kv_up (kv_up g c 3 (nI (V.length - 1))) c 4 (nI (pz_bits (V.eraseIdx j))), ?_, ⟨?_, ?_, ?_, ?_, ?_, ?_, ?_⟩, ?_⟩
        · show f_X0_leave_L16 c (nI u) (m + 1) (nI V.length) g _ = _
          rw [f_X0_leave_L16, gc, cc.1, if_pos (nI_le (Nat.le_refl _) (by omega)), pz_hl, pz_hl, show nI V.length - (1 : Int32) = nI (V.length - 1) from pz_sub (b := 1) (by omega)]
          congr 3
          rw [pz_upeq, pz_upd, if_neg (by omega), gc, cc.2.1]
          exact pz_bits_era nd hV hj
        · rw [le]; simp (disch := omega) only [pz_upne, pz_upeq, pz_upd, if_neg, if_pos, if_true, if_false]
        · simp (disch := omega) only [pz_upne, pz_upeq, pz_upd, if_neg, if_pos, if_true, if_false]
        · simp (disch := omega) only [pz_upne, pz_upeq, pz_upd, if_neg, if_pos, if_true, if_false]; rw [gc]; exact cc.2.2.1
        · simp (disch := omega) only [pz_upne, pz_upeq, pz_upd, if_neg, if_pos, if_true, if_false]; rw [gc]; exact cc.2.2.2.1
        · simp (disch := omega) only [pz_upne, pz_upeq, pz_upd, if_neg, if_pos, if_true, if_false]; rw [gc]; exact cc.2.2.2.2.1
        · intro i v hv
          simp (disch := omega) only [pz_upne, pz_upeq, pz_upd, if_neg, if_pos, if_true, if_false]
          rw [g2 i]
          rw [List.getElem?_eraseIdx] at hv
          by_cases z : i < j
          · rw [if_pos z] at hv
            rw [if_neg (by omega)]; exact cc.2.2.2.2.2.1 i v hv
          · rw [if_neg z] at hv
            have := pz_iLt hv
            rw [if_pos (by omega)]; exact cc.2.2.2.2.2.1 (i + 1) v hv
        · intro i hi
          simp (disch := omega) only [pz_upne, pz_upeq, pz_upd, if_neg, if_pos, if_true, if_false]
          rw [g1 _ (by omega), g1 _ (by omega)]; exact cc.2.2.2.2.2.2 i hi
        · intro a q1 q2
          simp (disch := omega) only [pz_upne, pz_upeq, pz_upd, if_neg, if_pos, if_true, if_false]
          exact g1 a q2
      · intro m k g hk ⟨g0, g1, g2⟩
        right
        refine ⟨kv_up g (c + 1) (k - 1) (g (c + 1) k), ⟨by omega, ?_, ?_⟩, ?_⟩
        · intro a q; simp (disch := omega) only [pz_upne, pz_upeq, pz_upd, if_neg, if_pos, if_true, if_false]; exact g1 a q
        · intro b
          rw [pz_upeq, pz_upd]
          by_cases z : b = k - 1
          · rw [if_pos z, if_pos (by omega), g2 k, if_neg (by omega), show b + 1 = k from by omega]
          · rw [if_neg z, g2 b]
            by_cases y : j ≤ b ∧ b + 1 < k
            · rw [if_pos y, if_pos (by omega)]
            · rw [if_neg y, if_neg (by omega)]
        · show f_X0_leave_L16 c (nI u) (m + 1) (nI k) g _ = _
          rw [f_X0_leave_L16, g1 c (by omega), cc.1, if_neg (nI_ge hk (by omega)), pz_kN (by omega) (by omega), show (1 : Int32) = nI 1 from rfl, pz_sub (by omega), pz_kN (by omega) (by omega), pz_hl, pz_cl (by omega), pz_cl (by omega), pz_add]
    obtain ⟨h', m1, m2, m3⟩ := main
    refine ⟨h', ?_, m2, m3⟩
    rw [f_X0_leave, pl, pz_b, if_pos (pz_g0 (by omega)), pz_vl, nI_1]; exact m1
  · have pl := (pz_place9 cc vl hV u hu).2 hu'
    rw [f_X0_leave, pl, pz_b, if_neg (by decide)]

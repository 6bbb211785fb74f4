/-! PURE PART: the course: a leaf out by the reference, in by both -/
def pz_sb (b : Nat) : Prop := b = 0 ∨ b = 1 ∨ b = 3 ∨ b = 4 ∨ b = 5 ∨ b = 8 ∨ 74 ≤ b ∨ (10 ≤ b ∧ b < 66 ∧ (b - 10) % 7 < 5)
theorem pz_leave10 {h : kv_H} {n : Nat} {V : List Nat} {X : Nat → Int32} (cm : pz_CM (h 112) n V X) (hn : n ≤ 8) (vl : V.length ≤ 8) {j : Nat} (jl : j < V.length) : ∃ h', f_X10_leaves (nI j) h = some ((), h') ∧ pz_CM (h' 112) n (V.eraseIdx j) X ∧ (∀ a, a ≠ 112 → h' a = h a) ∧ (∀ b, b ≠ 2 → (b < 66 ∨ 74 ≤ b) → h' 112 b = h 112 b) := by
  have le : (V.eraseIdx j).length = V.length - 1 := List.length_eraseIdx_of_lt jl
  have e66 : ∀ k : Nat, (66 : Int32) + nI k = nI (66 + k) := fun k => pz_add 66 k
  rw [f_X10_leaves, cm.1, show (1 : Int32) = nI 1 from rfl, pz_sub (by omega), pz_hl]
  refine pz_for (fun m k (g : kv_H) => f_X10_leaves_L12 m (nI k) g (fun h3 => some ((), h3))) (fun k g => j ≤ k ∧ (∀ a, a ≠ 112 → g a = h a) ∧ g 112 2 = nI (V.length - 1) ∧ (∀ b, b ≠ 2 → (b < 66 ∨ 74 ≤ b) → g 112 b = h 112 b) ∧ ∀ b, b < 8 → g 112 (66 + b) = if j ≤ b ∧ b < k then h 112 (66 + (b + 1)) else h 112 (66 + b)) (fun R => ∃ h', R = some ((), h') ∧ pz_CM (h' 112) n (V.eraseIdx j) X ∧ (∀ a, a ≠ 112 → h' a = h a) ∧ (∀ b, b ≠ 2 → (b < 66 ∨ 74 ≤ b) → h' 112 b = h 112 b)) (V.length - 1) ?_ ?_ kv_fu j _ (by omega) (by rw [show kv_fu = 5000 from rfl]; omega) ⟨by omega, ?_, ?_, ?_, ?_⟩
  · intro m g ⟨_, g1, g2, g3, g4⟩
    refine ⟨g, ?_, ⟨?_, ?_, ?_, ?_, ?_, ?_⟩, g1, g3⟩
    · show f_X10_leaves_L12 (m + 1) (nI (V.length - 1)) g _ = _
      rw [f_X10_leaves_L12, g2, if_pos (nI_le (Nat.le_refl _) (by omega))]
    · rw [le]; exact g2
    · rw [g3 _ (by omega) (by omega)]; exact cm.2.1
    · rw [g3 _ (by omega) (by omega)]; exact cm.2.2.1
    · rw [g3 _ (by omega) (by omega)]; exact cm.2.2.2.1
    · intro i v hv
      have il := pz_iLt hv
      rw [List.getElem?_eraseIdx] at hv
      rw [g4 i (by omega)]
      by_cases z : i < j
      · rw [if_pos z] at hv
        rw [if_neg (by omega)]; exact cm.2.2.2.2.1 i v hv
      · rw [if_neg z] at hv
        rw [if_pos (by omega)]; exact cm.2.2.2.2.1 (i + 1) v hv
    · intro i hi
      rw [g3 _ (by omega) (by omega), g3 _ (by omega) (by omega)]; exact cm.2.2.2.2.2 i hi
  · intro m k g hk ⟨g0, g1, g2, g3, g4⟩
    right
    refine ⟨kv_up g 112 (66 + k) (g 112 (66 + (k + 1))), ⟨by omega, ?_, ?_, ?_, ?_⟩, ?_⟩
    · intro a q; simp (disch := omega) only [pz_upne, pz_upeq, pz_upd, if_neg, if_pos, if_true, if_false]; exact g1 a q
    · simp (disch := omega) only [pz_upne, pz_upeq, pz_upd, if_neg, if_pos, if_true, if_false]; exact g2
    · intro b q1 q2; simp (disch := omega) only [pz_upne, pz_upeq, pz_upd, if_neg, if_pos, if_true, if_false]; exact g3 b q1 q2
    · intro b hb
      rw [pz_upeq, pz_upd]
      by_cases z : b = k
      · rw [if_pos (by omega), if_pos (by omega), g4 (k + 1) (by omega), if_neg (by omega), z]
      · rw [if_neg (by omega), g4 b hb]
        by_cases y : j ≤ b ∧ b < k
        · rw [if_pos y, if_pos (by omega)]
        · rw [if_neg y, if_neg (by omega)]
    · show f_X10_leaves_L12 (m + 1) (nI k) g _ = _
      rw [f_X10_leaves_L12, g2, if_neg (nI_ge hk (by omega)), e66, nI_1, pz_kN (by omega) (by omega), pz_kN (by omega) (by omega), pz_hl, pz_cl (by omega), pz_cl (by omega), nI_1, show 66 + k + 1 = 66 + (k + 1) from by omega]
  · intro a q; simp (disch := omega) only [pz_upne, pz_upeq, pz_upd, if_neg, if_pos, if_true, if_false]
  · simp (disch := omega) only [pz_upne, pz_upeq, pz_upd, if_neg, if_pos, if_true, if_false]
  · intro b q1 q2; simp (disch := omega) only [pz_upne, pz_upeq, pz_upd, if_neg, if_pos, if_true, if_false]
  · intro b hb; rw [if_neg (by omega)]; simp (disch := omega) only [pz_upne, pz_upeq, pz_upd, if_neg, if_pos, if_true, if_false]
theorem pz_CB_add {n : Nat} {V : List Nat} {X : Nat → Int32} {u : Nat} (cb : pz_CB n V X) (hu : u < n) (q : u ∉ V) : pz_CB n (V ++ [u]) X := by
  refine ⟨?_, ?_, cb.2.2⟩
  · rw [List.nodup_append]
    refine ⟨cb.1, by simp, ?_⟩
    intro a ha b hb
    rw [List.mem_singleton] at hb
    subst hb
    intro z; subst z; exact q ha
  · intro v hv
    rw [List.mem_append, List.mem_singleton] at hv
    rcases hv with z | z
    · exact cb.2.1 v z
    · rw [z]; exact hu
theorem pz_enter9 {h : kv_H} {c : Nat} {V : List Nat} {X : Nat → Int32} (cc : pz_CC h c V X) (vl : V.length < 8) {u : Nat} (hu : u < 8) : ∃ h', f_X0_enter c (nI u) h = some ((), h') ∧ pz_CC h' c (V ++ [u]) X ∧ (∀ a, a ≠ c → a ≠ c + 1 → h' a = h a) := by
  obtain ⟨a1, a2, a3, a4, a5, a6, a7⟩ := cc
  refine ⟨kv_up (kv_up (kv_up h (c + 1) V.length (nI u)) c 3 (nI (V.length + 1))) c 4 (nI (pz_bits (V ++ [u]))), ?_, ⟨?_, ?_, ?_, ?_, ?_, ?_, ?_⟩, ?_⟩
  · rw [f_X0_enter, a1, if_neg (show ¬ (8 : Int32) ≤ nI V.length from nI_ge (b := 8) vl (by omega)), pz_kN vl (by omega), pz_hl, pz_hl, pz_hl, pz_cl (by omega)]
    congr 3
    · rw [pz_upne (by omega), a1, nI_1]
    · rw [pz_upeq, pz_upd, if_neg (by omega), pz_upne (by omega), a2, pz_bit u hu, pz_or, pz_bits_add]
  · rw [List.length_append]; simp (disch := omega) only [pz_upne, pz_upeq, pz_upd, if_neg, if_pos, if_true, if_false]; rfl
  · simp (disch := omega) only [pz_upne, pz_upeq, pz_upd, if_neg, if_pos, if_true, if_false]
  · simp (disch := omega) only [pz_upne, pz_upeq, pz_upd, if_neg, if_pos, if_true, if_false]; exact a3
  · simp (disch := omega) only [pz_upne, pz_upeq, pz_upd, if_neg, if_pos, if_true, if_false]; exact a4
  · simp (disch := omega) only [pz_upne, pz_upeq, pz_upd, if_neg, if_pos, if_true, if_false]; exact a5
  · intro i v hv
    rcases pz_getEnd hv with ⟨q, e⟩ | ⟨q, e⟩
    · simp (disch := omega) only [pz_upne, pz_upeq, pz_upd, if_neg, if_pos, if_true, if_false]; exact a6 i v e
    · subst q; subst e; simp (disch := omega) only [pz_upne, pz_upeq, pz_upd, if_neg, if_pos, if_true, if_false]
  · intro i hi
    simp (disch := omega) only [pz_upne, pz_upeq, pz_upd, if_neg, if_pos, if_true, if_false]; exact a7 i hi
  · intro a q1 q2; simp (disch := omega) only [pz_upne, pz_upeq, pz_upd, if_neg, if_pos, if_true, if_false]
/-- the reference's entering: two writes -/
theorem pz_enter10 {s : Nat → Int32} {n : Nat} {V : List Nat} {X : Nat → Int32} (cm : pz_CM s n V X) (hn : n ≤ 8) (vl : V.length < 8) {u : Nat} : pz_CM (upd (upd s (66 + V.length) (nI u)) 2 (nI (V.length + 1))) n (V ++ [u]) X := by
  obtain ⟨b1, b2, b3, b4, b5, b6⟩ := cm
  refine ⟨?_, ?_, ?_, ?_, ?_, ?_⟩
  · rw [List.length_append]; simp (disch := omega) only [pz_upne, pz_upeq, pz_upd, if_neg, if_pos, if_true, if_false]; rfl
  · simp (disch := omega) only [pz_upne, pz_upeq, pz_upd, if_neg, if_pos, if_true, if_false]; exact b2
  · simp (disch := omega) only [pz_upne, pz_upeq, pz_upd, if_neg, if_pos, if_true, if_false]; exact b3
  · simp (disch := omega) only [pz_upne, pz_upeq, pz_upd, if_neg, if_pos, if_true, if_false]; exact b4
  · intro i v hv
    rcases pz_getEnd hv with ⟨q, e⟩ | ⟨q, e⟩
    · simp (disch := omega) only [pz_upne, pz_upeq, pz_upd, if_neg, if_pos, if_true, if_false]; exact b5 i v e
    · subst q; subst e; simp (disch := omega) only [pz_upne, pz_upeq, pz_upd, if_neg, if_pos, if_true, if_false]
  · intro i hi
    simp (disch := omega) only [pz_upne, pz_upeq, pz_upd, if_neg, if_pos, if_true, if_false]; exact b6 i hi
/-- what is in, as bits, by the reference -/
theorem pz_vb10 {h : kv_H} {n : Nat} {V : List Nat} {X : Nat → Int32} (cm : pz_CM (h 112) n V X) (vl : V.length ≤ 8) (hV : ∀ v, v ∈ V → v < 8) : f_X10_vaultBits h = some (nI (pz_bits V), h) := by
  have e66 : ∀ k : Nat, (66 : Int32) + nI k = nI (66 + k) := fun k => pz_add 66 k
  unfold f_X10_vaultBits
  refine pz_for (fun m k (v : Int32) => f_X10_vaultBits_L4 m v (nI k) h (fun z2 h3 => some (z2, h3))) (fun k v => v = nI (pz_bits (V.take k))) (fun R => R = some (nI (pz_bits V), h)) V.length ?_ ?_ kv_fu 0 _ (by omega) (by rw [show kv_fu = 5000 from rfl]; omega) rfl
  · intro m v hv
    show f_X10_vaultBits_L4 (m + 1) v (nI V.length) h _ = _
    rw [f_X10_vaultBits_L4, cm.1, if_pos (nI_le (Nat.le_refl _) (by omega)), hv, List.take_length]
  · intro m k v hk hv
    right
    obtain ⟨w, hw⟩ : ∃ w, V[k]? = some w := ⟨V[k]'(by omega), List.getElem?_eq_getElem _⟩
    refine ⟨nI (pz_bits (V.take (k + 1))), rfl, ?_⟩
    show f_X10_vaultBits_L4 (m + 1) v (nI k) h _ = _
    rw [f_X10_vaultBits_L4, cm.1, if_neg (nI_ge hk (by omega)), e66, pz_kN (by omega) (by omega), pz_cl (by omega), pz_vl, cm.2.2.2.2.1 k w hw, pz_bit w (hV w (pz_mem_of_get hw)), hv, pz_or, nI_1, List.take_add_one, hw, Option.toList_some, pz_bits_add]
def pz_rms (rm : Nat → Nat) : List Nat → Nat
  | [] => 0
  | v :: r => rm v + pz_rms rm r
theorem pz_rms_app (rm : Nat → Nat) (a b : List Nat) : pz_rms rm (a ++ b) = pz_rms rm a + pz_rms rm b := by
  induction a with
  | nil => rw [List.nil_append, pz_rms, Nat.zero_add]
  | cons v r ih => rw [List.cons_append, pz_rms, pz_rms, ih]; omega
theorem pz_rms_le (rm : Nat → Nat) (B : Nat) (V : List Nat) (h : ∀ v, v ∈ V → rm v ≤ B) : pz_rms rm V ≤ B * V.length := by
  induction V with
  | nil => exact Nat.le_refl _
  | cons v r ih =>
    have := h v (List.mem_cons_self ..)
    have := ih (fun w hw => h w (List.mem_cons_of_mem _ hw))
    rw [pz_rms, List.length_cons, Nat.mul_succ]; omega
theorem pz_rms_perm (rm : Nat → Nat) {a b : List Nat} (h : a.Perm b) : pz_rms rm a = pz_rms rm b := by
  induction h with
  | nil => rfl
  | cons x _ ih => rw [pz_rms, pz_rms, ih]
  | swap x y l => rw [pz_rms, pz_rms, pz_rms, pz_rms]; omega
  | trans _ _ i1 i2 => exact i1.trans i2
/-- rooms of what is in, by the reference -/
theorem pz_full10 {h : kv_H} {n : Nat} {V : List Nat} {X : Nat → Int32} {rm ms : Nat → Nat} (cm : pz_CM (h 112) n V X) (kk : pz_K h n rm ms) (hn : n ≤ 8) (vl : V.length ≤ 8) (hV : ∀ v, v ∈ V → v < n) : f_X10_fullness h = some (nI (pz_rms rm V), h) := by
  have e66 : ∀ k : Nat, (66 : Int32) + nI k = nI (66 + k) := fun k => pz_add 66 k
  unfold f_X10_fullness
  refine pz_for (fun m k (v : Int32) => f_X10_fullness_L4 m v (nI k) h (fun z2 h3 => some (z2, h3))) (fun k v => v = nI (pz_rms rm (V.take k))) (fun R => R = some (nI (pz_rms rm V), h)) V.length ?_ ?_ kv_fu 0 _ (by omega) (by rw [show kv_fu = 5000 from rfl]; omega) rfl
  · intro m v hv
    show f_X10_fullness_L4 (m + 1) v (nI V.length) h _ = _
    rw [f_X10_fullness_L4, cm.1, if_pos (nI_le (Nat.le_refl _) (by omega)), hv, List.take_length]
  · intro m k v hk hv
    right
    obtain ⟨w, hw⟩ : ∃ w, V[k]? = some w := ⟨V[k]'(by omega), List.getElem?_eq_getElem _⟩
    have wn := hV w (pz_mem_of_get hw)
    refine ⟨nI (pz_rms rm (V.take (k + 1))), rfl, ?_⟩
    show f_X10_fullness_L4 (m + 1) v (nI k) h _ = _
    rw [f_X10_fullness_L4, cm.1, if_neg (nI_ge hk (by omega)), e66, pz_kN (by omega) (by omega), pz_cl (by omega), cm.2.2.2.2.1 k w hw, pz_kN (by omega) (by omega), pz_cl (by omega), pz_vl, (kk w wn).1, hv, pz_add, nI_1, List.take_add_one, hw, Option.toList_some, pz_rms_app, pz_rms, pz_rms]; rfl
/-- rooms of a set, by the class: over the numbers below n whose bit is set -/
def pz_rmb (rm : Nat → Nat) (m : Nat) : Nat → Nat
  | 0 => 0
  | k + 1 => pz_rmb rm m k + (if m.testBit k then rm k else 0)
theorem pz_rooms9 {h : kv_H} {q n m : Nat} {rm ms ch : Nat → Nat} {D : Nat → Nat → Nat} (lc : pz_LC h q n D) (lx : pz_LX h q n rm ms ch) (hn : n ≤ 8) (hm : m < 2147483648) : f_X1_roomsOf q (nI m) h = some (nI (pz_rmb rm m n), h) := by
  unfold f_X1_roomsOf
  refine pz_for (fun f k (v : Int32) => f_X1_roomsOf_L4 q (nI m) f v (nI k) h (fun z2 h3 => some (z2, h3))) (fun k v => v = nI (pz_rmb rm m k)) (fun R => R = some (nI (pz_rmb rm m n), h)) n ?_ ?_ kv_fu 0 _ (by omega) (by rw [show kv_fu = 5000 from rfl]; omega) rfl
  · intro f v hv
    show f_X1_roomsOf_L4 q (nI m) (f + 1) v (nI n) h _ = _
    rw [f_X1_roomsOf_L4, lc.1, if_pos (nI_le (Nat.le_refl _) (by omega)), hv]
  · intro f k v hk hv
    right
    refine ⟨nI (pz_rmb rm m (k + 1)), rfl, ?_⟩
    show f_X1_roomsOf_L4 q (nI m) (f + 1) v (nI k) h _ = _
    rw [f_X1_roomsOf_L4, lc.1, if_neg (nI_ge hk (by omega)), hv, pz_rmb]
    by_cases z : m.testBit k = true
    · rw [if_pos ((pz_tbT hm (by omega)).mpr z), if_pos z, pz_kN (by omega) (by omega), pz_cl (by omega), pz_vl, (lx k hk).1, pz_add, nI_1]
    · rw [if_neg (fun y => z ((pz_tbT hm (by omega)).mp y)), if_neg z, nI_1]; rfl
theorem pz_rmb_range (rm : Nat → Nat) (m : Nat) : ∀ n, pz_rmb rm m n = pz_rms rm ((List.range n).filter (fun u => m.testBit u)) := by
  intro n
  induction n with
  | zero => rfl
  | succ n ih =>
    rw [pz_rmb, ih, List.range_succ, List.filter_append, pz_rms_app]
    by_cases z : m.testBit n = true
    · rw [if_pos z, List.filter_cons_of_pos (by exact z)]; rfl
    · rw [if_neg z, List.filter_cons_of_neg (by exact z)]; rfl
theorem pz_rmb_V {n : Nat} {V : List Nat} (rm : Nat → Nat) (nd : V.Nodup) (hV : ∀ v, v ∈ V → v < n) : pz_rmb rm (pz_bits V) n = pz_rms rm V := by
  rw [pz_rmb_range]
  apply pz_rms_perm
  apply (List.perm_ext_iff_of_nodup (List.Nodup.sublist List.filter_sublist List.nodup_range) nd).mpr
  intro u
  rw [List.mem_filter, List.mem_range, pz_bitsT]
  constructor
  · rintro ⟨_, q⟩; simpa using q
  · intro q; exact ⟨hV u q, by simpa using q⟩

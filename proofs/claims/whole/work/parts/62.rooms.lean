/-! PURE PART: leaves, rooms and misses -/
def pz_LC (h : kv_H) (q n : Nat) (D : Nat → Nat → Nat) : Prop := h q 8 = nI n ∧ ∀ i, i < n → h (q + 1) i = nI (D 0 i) ∧ h (q + 2) i = nI (D 1 i) ∧ h (q + 3) i = nI (D 2 i) ∧ h (q + 4) i = nI (D 3 i) ∧ h (q + 5) i = pz_on (D 4 i)
def pz_LM (s : Nat → Int32) (n : Nat) (D : Nat → Nat → Nat) : Prop := s 0 = nI n ∧ ∀ i, i < n → s (10 + 7 * i) = nI (D 0 i) ∧ s (11 + 7 * i) = nI (D 1 i) ∧ s (12 + 7 * i) = nI (D 2 i) ∧ s (13 + 7 * i) = nI (D 3 i) ∧ s (14 + 7 * i) = pz_on (D 4 i)
def pz_LB (n : Nat) (D : Nat → Nat → Nat) : Prop := n ≤ 8 ∧ ∀ i, i < n → D 0 i ≤ 5 ∧ 1 ≤ D 1 i ∧ D 1 i ≤ 9 ∧ D 2 i ≤ 99 ∧ D 3 i ≤ 9 ∧ D 4 i ≤ i
def pz_ro (kd p : Nat) : Nat := if kd = 5 then 1 else if kd = 1 then p + 1 else if kd = 3 then (p + 2) / 2 else if kd = 2 then (p + 1) / 2 else if kd = 4 then (p + 1) / 2 + 1 else p
def pz_mi (kd m z l : Nat) : Nat := if kd = 1 then m + 5 else if kd = 2 then m / 2 else if kd = 3 then m + 5 + z else if kd = 4 then m / 2 * 2 else if kd = 5 then m + l else m
def pz_pr (TX : Nat → pz_T) (t : Nat) (D : Nat → Nat → Nat) (i : Nat) : Nat := if pz_law TX t 0 = 0 then D 1 i else (pz_clp (nI 1) (nI 9) (pz_val (TX (pz_law TX t 0 - 1)) (pz_nm4 (nI (D 1 i)) (nI i) (nI 0) (nI 0)))).toNatClampNeg
def pz_pm (TX : Nat → pz_T) (t : Nat) (D : Nat → Nat → Nat) (i : Nat) : Nat := if pz_law TX t 1 = 0 then D 2 i else (pz_clp (nI 0) (nI 999) (pz_val (TX (pz_law TX t 1 - 1)) (pz_nm4 (nI (D 2 i)) (nI i) (nI (D 1 i)) (nI 0)))).toNatClampNeg
def pz_ln (D : Nat → Nat → Nat) (i : Nat) : Nat → Nat
  | 0 => 0
  | k + 1 => pz_ln D i k + (if D 4 k = i + 1 then 1 else 0)
def pz_rm (TX : Nat → pz_T) (t : Nat) (D : Nat → Nat → Nat) (i : Nat) : Nat := pz_ro (D 0 i) (pz_pr TX t D i)
def pz_ms (TX : Nat → pz_T) (t n : Nat) (D : Nat → Nat → Nat) (i : Nat) : Nat := pz_mi (D 0 i) (pz_pm TX t D i) (D 1 i) (pz_ln D i n)
theorem pz_ln_le (D : Nat → Nat → Nat) (i : Nat) : ∀ k, pz_ln D i k ≤ k := by
  intro k; induction k with
  | zero => exact Nat.le_refl 0
  | succ k ih => rw [pz_ln]; split <;> omega
theorem pz_prB {n : Nat} {D : Nat → Nat → Nat} (b : pz_LB n D) (TX : Nat → pz_T) (t i : Nat) (hi : i < n) : 1 ≤ pz_pr TX t D i ∧ pz_pr TX t D i ≤ 9 ∧ (¬ pz_law TX t 0 = 0 → pz_clp (nI 1) (nI 9) (pz_val (TX (pz_law TX t 0 - 1)) (pz_nm4 (nI (D 1 i)) (nI i) (nI 0) (nI 0))) = nI (pz_pr TX t D i)) := by
  have := b.2 i hi
  unfold pz_pr
  by_cases q : pz_law TX t 0 = 0
  · rw [if_pos q]; exact ⟨by omega, by omega, fun z => absurd q z⟩
  · rw [if_neg q]
    obtain ⟨m, m1, m2, e⟩ := pz_clpN 1 9 (pz_val (TX (pz_law TX t 0 - 1)) (pz_nm4 (nI (D 1 i)) (nI i) (nI 0) (nI 0))) (by omega) (by omega)
    rw [e, pz_cl (by omega)]; exact ⟨m1, m2, fun _ => rfl⟩
theorem pz_pmB {n : Nat} {D : Nat → Nat → Nat} (b : pz_LB n D) (TX : Nat → pz_T) (t i : Nat) (hi : i < n) : pz_pm TX t D i ≤ 999 ∧ (¬ pz_law TX t 1 = 0 → pz_clp (nI 0) (nI 999) (pz_val (TX (pz_law TX t 1 - 1)) (pz_nm4 (nI (D 2 i)) (nI i) (nI (D 1 i)) (nI 0))) = nI (pz_pm TX t D i)) := by
  have := b.2 i hi
  unfold pz_pm
  by_cases q : pz_law TX t 1 = 0
  · rw [if_pos q]; exact ⟨by omega, fun z => absurd q z⟩
  · rw [if_neg q]
    obtain ⟨m, m1, m2, e⟩ := pz_clpN 0 999 (pz_val (TX (pz_law TX t 1 - 1)) (pz_nm4 (nI (D 2 i)) (nI i) (nI (D 1 i)) (nI 0))) (by omega) (by omega)
    rw [e, pz_cl (by omega)]; exact ⟨m2, fun _ => rfl⟩
theorem pz_rmB {n : Nat} {D : Nat → Nat → Nat} (b : pz_LB n D) (TX : Nat → pz_T) (t i : Nat) (hi : i < n) : 1 ≤ pz_rm TX t D i ∧ pz_rm TX t D i ≤ 10 := by
  have := pz_prB b TX t i hi
  unfold pz_rm pz_ro
  (repeat' split) <;> omega
theorem pz_msB {n : Nat} {D : Nat → Nat → Nat} (b : pz_LB n D) (TX : Nat → pz_T) (t i : Nat) (hi : i < n) : pz_ms TX t n D i ≤ 1013 := by
  have := pz_pmB b TX t i hi
  have := b.2 i hi
  have := b.1
  have := pz_ln_le D i n
  unfold pz_ms pz_mi
  (repeat' split) <;> omega
theorem pz_onE {d i : Nat} (hd : d < 2147483648) (hi : i < 2147483647) : (pz_on d = nI i) = (d = i + 1) := by
  apply propext
  cases d with
  | zero => constructor
            · intro z; exfalso; have z2 : -nI 1 = nI i := z
              rw [pz_neq (by omega) (by omega) (by omega)] at z2; exact z2
            · intro z; omega
  | succ d => show nI d = nI i ↔ _; rw [pz_eq (by omega) (by omega)]; omega
theorem pz_onN {d : Nat} (hd : d < 2147483648) : (0 ≤ pz_on d) = (0 < d) ∧ (pz_on d < 0) = (d = 0) := by
  cases d with
  | zero => exact ⟨by decide, by decide⟩
  | succ d => refine ⟨?_, ?_⟩
              · show (0 ≤ nI d) = _; rw [pz_g00 (by omega)]; simp
              · show (nI d < 0) = _; rw [pz_ng0 (by omega)]; simp
theorem pz_leaners10 {n : Nat} {D : Nat → Nat → Nat} {h : kv_H} (l : pz_LM (h 112) n D) (b : pz_LB n D) (i : Nat) (hi : i < n) : f_X10_leaners (nI i) h = some (nI (pz_ln D i n), h) := by
  have hn := b.1
  unfold f_X10_leaners
  refine pz_for (fun m k (g : Int32) => f_X10_leaners_L4 (nI i) m g (nI k) h (fun z5 h6 => some (z5, h6))) (fun k g => g = nI (pz_ln D i k)) (fun R => R = some (nI (pz_ln D i n), h)) n ?_ ?_ kv_fu 0 _ (by omega) (by rw [show kv_fu = 5000 from rfl]; omega) rfl
  · intro m s e
    show f_X10_leaners_L4 (nI i) (m + 1) s (nI n) h _ = _
    rw [f_X10_leaners_L4, l.1, if_pos (nI_le (Nat.le_refl n) (by omega)), e]
  · intro m k s hk e
    right
    refine ⟨_, rfl, ?_⟩
    have z := l.2 k hk
    have bb := b.2 k hk
    have e2 : (10 : Int32) + 7 * nI k + 4 = nI (14 + 7 * k) := by
      rw [show (7 : Int32) = nI 7 from rfl, pz_mul, show (10 : Int32) = nI 10 from rfl, pz_add, show (4 : Int32) = nI 4 from rfl, pz_add]; congr 1; omega
    show f_X10_leaners_L4 (nI i) (m + 1) s (nI k) h _ = _
    rw [f_X10_leaners_L4, l.1, if_neg (nI_ge hk (by omega)), pz_leafAtU, pz_b, e2, pz_kN (by omega) (by omega), pz_cl (by omega), z.2.2.2.2, pz_vl, pz_vl, nI_1, e, pz_ln]
    by_cases q : D 4 k = i + 1
    · rw [if_pos (by rw [pz_onE (by omega) (by omega)]; exact q), if_pos q, nI_1]
    · rw [if_neg (by rw [pz_onE (by omega) (by omega)]; exact q), if_neg q, Int32.add_zero]; rfl
theorem pz_leaners9 {n q0 : Nat} {D : Nat → Nat → Nat} {h : kv_H} (l : pz_LC h q0 n D) (b : pz_LB n D) (i : Nat) (hi : i < n) : f_X1_leanersOn q0 (nI i) h = some (nI (pz_ln D i n), h) := by
  have hn := b.1
  unfold f_X1_leanersOn
  refine pz_for (fun m k (g : Int32) => f_X1_leanersOn_L4 q0 (nI i) m g (nI k) h (fun z5 h6 => some (z5, h6))) (fun k g => g = nI (pz_ln D i k)) (fun R => R = some (nI (pz_ln D i n), h)) n ?_ ?_ kv_fu 0 _ (by omega) (by rw [show kv_fu = 5000 from rfl]; omega) rfl
  · intro m s e
    show f_X1_leanersOn_L4 q0 (nI i) (m + 1) s (nI n) h _ = _
    rw [f_X1_leanersOn_L4, l.1, if_pos (nI_le (Nat.le_refl n) (by omega)), e]
  · intro m k s hk e
    right
    refine ⟨_, rfl, ?_⟩
    have z := l.2 k hk
    have bb := b.2 k hk
    show f_X1_leanersOn_L4 q0 (nI i) (m + 1) s (nI k) h _ = _
    rw [f_X1_leanersOn_L4, l.1, if_neg (nI_ge hk (by omega)), pz_kN (by omega) (by omega), pz_cl (by omega), z.2.2.2.2, nI_1, e, pz_ln]
    by_cases q : D 4 k = i + 1
    · rw [if_pos (by rw [pz_onE (by omega) (by omega)]; exact q), if_pos q, nI_1]
    · rw [if_neg (by rw [pz_onE (by omega) (by omega)]; exact q), if_neg q]; rfl
/-- what the texts and leaves of a world are, on the reference's side -/
def pz_M (s : Nat → Int32) (n : Nat) (D : Nat → Nat → Nat) (t : Nat) (TX : Nat → pz_T) : Prop := pz_LM s n D ∧ pz_LB n D ∧ pz_TM s t TX ∧ pz_TB t TX ∧ s 1 = nI t
theorem pz_plain10 {n t : Nat} {D : Nat → Nat → Nat} {TX : Nat → pz_T} {h : kv_H} (w : pz_M (h 112) n D t TX) (i : Nat) (hi : i < n) : ∃ h', f_X10_plainRoom (nI i) h = some (nI (pz_pr TX t D i), h') ∧ ∀ a, a ≠ 131 → a ≠ 132 → h' a = h a := by
  obtain ⟨l, b, tm, tb, e1⟩ := w
  have hn := b.1
  have ll := l.2 i hi
  have lw := pz_law_le TX 0 t
  have e2 : (10 : Int32) + 7 * nI i + 1 = nI (11 + 7 * i) := by
    rw [show (7 : Int32) = nI 7 from rfl, pz_mul, show (10 : Int32) = nI 10 from rfl, pz_add, show (1 : Int32) = nI 1 from rfl, pz_add]; congr 1; omega
  have ht := tb.1
  have cn := pz_counts tm tb e1 0 (by omega)
  by_cases q : pz_law TX t 0 = 0
  · refine ⟨h, ?_, fun _ _ _ => rfl⟩
    rw [f_X10_plainRoom, show (0 : Int32) = nI 0 from rfl, cn, pz_b, pz_leafAtU, pz_b, e2, pz_kN (by omega) (by omega), pz_cl (by omega), ll.2.1, pz_vl, q, if_neg (by decide), pz_pr, if_pos q]
  · obtain ⟨p, hp⟩ : ∃ p, pz_law TX t 0 = p + 1 := ⟨pz_law TX t 0 - 1, by omega⟩
    have pk := lw.2 (by omega)
    rw [hp] at pk
    have pk' : (TX p).1 = 0 := pk
    obtain ⟨h', x1, x2⟩ := pz_val10 (h := kv_up (kv_up h 131 115 (nI (D 1 i))) 131 110 (nI i)) (by rw [pz_upne (by omega), pz_upne (by omega)]; exact tm) tb p (by omega) (pz_nm4 (nI (D 1 i)) (nI i) (nI 0) (nI 0)) (by
      intro j hj
      rw [pk'] at hj ⊢
      have : j = 0 ∨ j = 1 := by have : j < 2 := hj
                                 omega
      rcases this with rfl | rfl <;> rfl)
    have pb := (pz_prB b TX t i hi).2.2 q
    rw [hp] at pb
    have pb' : pz_clp (nI 1) (nI 9) (pz_val (TX p) (pz_nm4 (nI (D 1 i)) (nI i) (nI 0) (nI 0))) = nI (pz_pr TX t D i) := pb
    refine ⟨h', ?_, ?_⟩
    · rw [f_X10_plainRoom, show (0 : Int32) = nI 0 from rfl, cn, pz_b, pz_leafAtU, pz_b, e2, pz_kN (by omega) (by omega), pz_cl (by omega), ll.2.1, pz_vl, hp, if_pos (show nI 0 ≤ pz_on (p + 1) from pz_g0 (by omega)), pz_hl, pz_hl, show pz_on (p + 1) = nI p from rfl, x1, pz_b, ← pb']
      unfold pz_clp
      by_cases z1 : nI 1 ≤ pz_val (TX p) (pz_nm4 (nI (D 1 i)) (nI i) (nI 0) (nI 0))
      · rw [if_pos z1, if_pos (show (1 : Int32) ≤ _ from z1)]
        by_cases z2 : pz_val (TX p) (pz_nm4 (nI (D 1 i)) (nI i) (nI 0) (nI 0)) ≤ nI 9
        · rw [if_pos z2, if_pos (show _ ≤ (9 : Int32) from z2)]
        · rw [if_neg z2, if_neg (show ¬ _ ≤ (9 : Int32) from z2)]; rfl
      · rw [if_neg z1, if_neg (show ¬ (1 : Int32) ≤ _ from z1)]; rfl
    · intro a a1 a2; rw [x2 a a2, pz_upne a1, pz_upne a1]

/-! PURE PART: texts of a world, laws, rooms and misses (the reference's side) -/
abbrev pz_T : Type := Nat × Nat × List (Nat × Nat)
def pz_nk (key : Nat) : Nat := if key = 0 then 2 else if key = 1 then 3 else 4
def pz_TC (h : kv_H) (t : Nat) (TX : Nat → pz_T) : Prop := ∀ i, i < t → h (51 + 2 * i) 1 = nI (TX i).2.2.length ∧ h (51 + 2 * i) 2 = nI (TX i).1 ∧ h (51 + 2 * i) 3 = nI (TX i).2.1 ∧ ∀ k st, (TX i).2.2[k]? = some st → h (52 + 2 * i) k = nI (pz_enc st)
def pz_TM (s : Nat → Int32) (t : Nat) (TX : Nat → pz_T) : Prop := ∀ i, i < t → s (98 + 200 * i) = nI (TX i).1 ∧ s (99 + 200 * i) = nI (TX i).2.1 ∧ s (100 + 200 * i) = nI (TX i).2.2.length ∧ ∀ k st, (TX i).2.2[k]? = some st → s (102 + 200 * i + 2 * k) = nI st.1 ∧ s (103 + 200 * i + 2 * k) = nI (pz_mv (TX i).1 st)
def pz_TB (t : Nat) (TX : Nat → pz_T) : Prop := t ≤ 14 ∧ ∀ i, i < t → (TX i).1 ≤ 2 ∧ (TX i).2.1 ≤ 96 ∧ (TX i).2.2.length ≤ 96 ∧ pz_va (pz_nk (TX i).1) (TX i).2.2 0
def pz_val (T : pz_T) (nm : Nat → Int32) : Int32 := (pz_ex nm T.2.2 (0, fun _ => 0)).2 0
theorem pz_va_mono {a b : Nat} (q : a ≤ b) : ∀ (r : List (Nat × Nat)) (d : Nat), pz_va a r d → pz_va b r d := by
  intro r
  induction r with
  | nil => intro d h; exact h
  | cons s r ih =>
    intro d h
    rcases h with ⟨z1, z2, z3⟩ | ⟨z1, z2, z3⟩ | ⟨z1, z2, z3, z4⟩ | ⟨z1, z2, z3, z4⟩
    · exact Or.inl ⟨z1, z2, ih _ z3⟩
    · exact Or.inr (Or.inl ⟨z1, by omega, ih _ z3⟩)
    · exact Or.inr (Or.inr (Or.inl ⟨z1, z2, z3, ih _ z4⟩))
    · exact Or.inr (Or.inr (Or.inr ⟨z1, z2, z3, ih _ z4⟩))
def pz_nm4 (a b c d : Int32) (j : Nat) : Int32 := if j = 0 then a else if j = 1 then b else if j = 2 then c else d
theorem pz_val9 {t : Nat} {TX : Nat → pz_T} {h : kv_H} (hc : pz_TC h t TX) (hb : pz_TB t TX) (i : Nat) (hi : i < t) (a b c d : Int32) : ∃ h', f_X7_valueOf (nI i) a b c d h = some (pz_val (TX i) (pz_nm4 a b c d), h') ∧ ∀ k, k ≠ 49 → k ≠ 50 → h' k = h k := by
  obtain ⟨c1, c2, c3, c4⟩ := hc i hi
  obtain ⟨b1, b2, b3, b4⟩ := hb.2 i hi
  have ht := hb.1
  obtain ⟨g, x1, x2, x3⟩ := pz_val9L (pz_nm4 a b c d) (51 + 2 * i) (by omega) (fun h17 => some (h17 49 0, h17)) (TX i).2.2 0 0 (fun _ => 0) kv_fu (kv_up (kv_up (kv_up (kv_up h 50 0 a) 50 1 b) 50 2 c) 50 3 d)
    (pz_va_mono (by unfold pz_nk; (repeat' split) <;> omega) _ _ b4) (by omega) (Nat.le_refl 0) (fun j hj => absurd hj (by omega)) (by rw [pz_upne (by omega), pz_upne (by omega), pz_upne (by omega), pz_upne (by omega), c1, Nat.zero_add])
    (by intro k st hk; rw [pz_upne (by omega), pz_upne (by omega), pz_upne (by omega), pz_upne (by omega), Nat.zero_add, show 51 + 2 * i + 1 = 52 + 2 * i from by omega]; exact c4 k st hk)
    (by
      intro j hj
      have : j = 0 ∨ j = 1 ∨ j = 2 ∨ j = 3 := by omega
      rcases this with rfl | rfl | rfl | rfl <;> rfl) (by rw [show kv_fu = 5000 from rfl]; omega)
  refine ⟨g, ?_, ?_⟩
  · rw [f_X7_valueOf, if_neg (pz_ng (by omega)), if_pos (show nI i < (14 : Int32) from nI_lt (b := 14) (by omega) (by omega)), pz_hl, pz_hl, pz_hl, pz_hl, pz_kN (by omega) (by omega), pz_cl (by omega)]
    exact x1.trans (by rw [x3]; rfl)
  · intro k z1 z2; rw [x2 k z1, pz_upne z2, pz_upne z2, pz_upne z2, pz_upne z2]
theorem pz_val10 {t : Nat} {TX : Nat → pz_T} {h : kv_H} (hc : pz_TM (h 112) t TX) (hb : pz_TB t TX) (i : Nat) (hi : i < t) (nm : Nat → Int32) (hn : ∀ j, j < pz_nk (TX i).1 → h 131 (pz_lt' (TX i).1 j) = nm j) : ∃ h', f_X10_worked (nI i) h = some (pz_val (TX i) nm, h') ∧ ∀ k, k ≠ 132 → h' k = h k := by
  obtain ⟨c1, c2, c3, c4⟩ := hc i hi
  obtain ⟨b1, b2, b3, b4⟩ := hb.2 i hi
  have ht := hb.1
  obtain ⟨g, x1, x2, x3⟩ := pz_val10L nm (TX i).1 (pz_nk (TX i).1) i (by omega) (fun h16 => some (h16 132 0, h16)) (TX i).2.2 0 0 (fun _ => 0) kv_fu h b4 (by omega) (Nat.le_refl 0) (fun j hj => absurd hj (by omega)) (by rw [c3, Nat.zero_add]) (by intro k st hk; rw [Nat.zero_add]; exact c4 k st hk) hn (by rw [show kv_fu = 5000 from rfl]; omega)
  exact ⟨g, x1.trans (by rw [x3]; rfl), x2⟩
/-- 0: none, j + 1: text j -/
def pz_law (TX : Nat → pz_T) : Nat → Nat → Nat
  | 0, _ => 0
  | t + 1, key => if (TX t).1 = key then t + 1 else pz_law TX t key
theorem pz_law_le (TX : Nat → pz_T) (key : Nat) : ∀ t, pz_law TX t key ≤ t ∧ (0 < pz_law TX t key → (TX (pz_law TX t key - 1)).1 = key) := by
  intro t
  induction t with
  | zero => exact ⟨Nat.le_refl 0, fun q => absurd q (Nat.lt_irrefl 0)⟩
  | succ t ih =>
    rw [pz_law]
    by_cases q : (TX t).1 = key
    · rw [if_pos q]; exact ⟨Nat.le_refl _, fun _ => q⟩
    · rw [if_neg q]; exact ⟨by omega, ih.2⟩
def pz_on : Nat → Int32
  | 0 => -1
  | j + 1 => nI j
def pz_none : Nat → Int32
  | 0 => -1000000005
  | j + 1 => nI j
theorem pz_counts {t : Nat} {TX : Nat → pz_T} {h : kv_H} (hc : pz_TM (h 112) t TX) (hb : pz_TB t TX) (e : h 112 1 = nI t) (key : Nat) (hk : key ≤ 2) : f_X10_counts (nI key) h = some (pz_on (pz_law TX t key), h) := by
  have ht := hb.1
  unfold f_X10_counts
  refine pz_for (fun n k (g : Int32) => f_X10_counts_L4 (nI key) n g (nI k) h (fun z3 h4 => some (z3, h4))) (fun k g => g = pz_on (pz_law TX k key)) (fun R => R = some (pz_on (pz_law TX t key), h)) t ?_ ?_ kv_fu 0 _ (by omega) (by rw [show kv_fu = 5000 from rfl]; omega) rfl
  · intro n s es
    show f_X10_counts_L4 (nI key) (n + 1) s (nI t) h _ = _
    rw [f_X10_counts_L4, e, if_pos (nI_le (Nat.le_refl t) (by omega)), es]
  · intro n k s hk' es
    right
    refine ⟨_, rfl, ?_⟩
    have z := (hc k hk').1
    have b := (hb.2 k hk').1
    have e2 : (98 : Int32) + 200 * nI k = nI (98 + 200 * k) := by rw [show (200 : Int32) = nI 200 from rfl, pz_mul, show (98 : Int32) = nI 98 from rfl, pz_add]
    show f_X10_counts_L4 (nI key) (n + 1) s (nI k) h _ = _
    rw [f_X10_counts_L4, e, if_neg (nI_ge hk' (by omega)), pz_textAtU, pz_b, e2, pz_kN (by omega) (by omega), pz_cl (by omega), z, nI_1, pz_law]
    by_cases q : (TX k).1 = key
    · rw [if_pos (by rw [q]), if_pos q]; rfl
    · rw [if_neg (by rw [pz_eq (by omega) (by omega)]; exact q), if_neg q, es]
def pz_clp (lo hi v : Int32) : Int32 := if lo ≤ v then (if v ≤ hi then v else hi) else lo
theorem pz_clpC (lo hi v : Int32) (q : lo ≤ hi) : (if lo < (if v < hi then v else hi) then (if v < hi then v else hi) else lo) = pz_clp lo hi v := by
  unfold pz_clp
  apply Int32.toInt_inj.mp
  simp only [Int32.lt_iff_toInt_lt, Int32.le_iff_toInt_le] at *
  split <;> split <;> (try split) <;> (try split) <;> simp_all <;> omega
theorem pz_clpN (a b : Nat) (v : Int32) (q : a ≤ b) (hb : b + 1 < 2147483648) : ∃ m, a ≤ m ∧ m ≤ b ∧ pz_clp (nI a) (nI b) v = nI m := by
  unfold pz_clp
  by_cases q1 : nI a ≤ v
  · rw [if_pos q1]
    by_cases q2 : v ≤ nI b
    · rw [if_pos q2]
      rcases pz_cases v (b + 1) (by omega) with z | ⟨j, hj, rfl⟩
      · exfalso
        rcases z with z | z
        · exact (pz_lt_asym z).2.1 (pz_le_tr (pz_g0 (by omega)) q1)
        · have : nI b < v := by rw [pz_lt_le (by omega)]; exact z
          exact (pz_lt_asym this).2.1 q2
      · refine ⟨j, ?_, by omega, rfl⟩
        rw [pz_le (by omega) (by omega)] at q1; exact q1
    · rw [if_neg q2]; exact ⟨b, q, Nat.le_refl b, rfl⟩
  · rw [if_neg q1]; exact ⟨a, Nat.le_refl a, q, rfl⟩

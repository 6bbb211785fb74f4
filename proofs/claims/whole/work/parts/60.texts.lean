/-! PURE PART: texts: what a text gives -/
def pz_sg (b : Nat) : Nat := [124, 38, 60, 61, 62, 43, 45, 42, 47, 33].getD b 0
def pz_lt' (key b : Nat) : Nat := if key = 0 then [115, 110].getD b 0 else if key = 1 then [108, 110, 115].getD b 0 else [97, 116, 114, 110].getD b 0
def pz_enc (s : Nat × Nat) : Nat := if s.1 = 0 then 16 * s.2 + 10 else if s.1 = 1 then 16 * s.2 + 11 else s.2
def pz_mv (key : Nat) (s : Nat × Nat) : Nat := if s.1 = 0 then s.2 else if s.1 = 1 then pz_lt' key s.2 else pz_sg s.2
def pz_jo (b : Nat) (x y : Int32) : Int32 :=
  if b = 0 then (if x = 0 then (if y = 0 then 0 else 1) else 1)
  else if b = 1 then (if x = 0 then 0 else if y = 0 then 0 else 1)
  else if b = 2 then (if y ≤ x then 0 else 1)
  else if b = 3 then (if x = y then 1 else 0)
  else if b = 4 then (if x ≤ y then 0 else 1)
  else if b = 5 then x + y
  else if b = 6 then x - y
  else if b = 7 then x * y
  else (if y = 0 then 0 else x / y)
theorem pz_dm1 (x : Int32) : x / (-1) = -x := by
  apply Int32.toInt_inj.mp
  rw [Int32.toInt_div, show ((-1 : Int32)).toInt = -1 from rfl, Int32.toInt_neg, Int.tdiv_neg, Int.tdiv_one]
theorem pz_join9 (x y : Int32) (h : kv_H) : ∀ b, b < 9 → f_X7_join (nI b) x y h = some (pz_jo b x y, h) := by
  intro b hb
  have : b = 0 ∨ b = 1 ∨ b = 2 ∨ b = 3 ∨ b = 4 ∨ b = 5 ∨ b = 6 ∨ b = 7 ∨ b = 8 := by omega
  rcases this with rfl | rfl | rfl | rfl | rfl | rfl | rfl | rfl | rfl
  · show (if x = 0 then (if y = 0 then some (0, h) else some (1, h)) else some (1, h)) = some ((if x = 0 then (if y = 0 then 0 else 1) else 1), h)
    rw [pz_ifs, pz_ifs]
  · show (if x = 0 then some (0, h) else (if y = 0 then some (0, h) else some (1, h))) = some ((if x = 0 then 0 else if y = 0 then 0 else 1), h)
    rw [pz_ifs, pz_ifs]
  · show (if y ≤ x then some (0, h) else some (1, h)) = some ((if y ≤ x then 0 else 1), h)
    rw [pz_ifs]
  · show (if x = y then some (1, h) else some (0, h)) = some ((if x = y then 1 else 0), h)
    rw [pz_ifs]
  · show (if x ≤ y then some (0, h) else some (1, h)) = some ((if x ≤ y then 0 else 1), h)
    rw [pz_ifs]
  · rfl
  · rfl
  · rfl
  · show (if y = 0 then some (0, h) else kv_z y (some (x / y, h))) = some ((if y = 0 then 0 else x / y), h)
    by_cases q : y = 0
    · rw [if_pos q, if_pos q]
    · rw [if_neg q, if_neg q, pz_z q]
theorem pz_join10 (x y : Int32) (h : kv_H) : ∀ b, b < 9 → f_X10_joined (nI (pz_sg b)) x y h = some (pz_jo b x y, h) := by
  intro b hb
  have : b = 0 ∨ b = 1 ∨ b = 2 ∨ b = 3 ∨ b = 4 ∨ b = 5 ∨ b = 6 ∨ b = 7 ∨ b = 8 := by omega
  rcases this with rfl | rfl | rfl | rfl | rfl | rfl | rfl | rfl | rfl
  · show (if x = 0 then (if y = 0 then some (0, h) else some (1, h)) else some (1, h)) = some ((if x = 0 then (if y = 0 then 0 else 1) else 1), h)
    rw [pz_ifs, pz_ifs]
  · show (if x = 0 then some (0, h) else (if y = 0 then some (0, h) else some (1, h))) = some ((if x = 0 then 0 else if y = 0 then 0 else 1), h)
    rw [pz_ifs, pz_ifs]
  · show (if y ≤ x then some (0, h) else some (1, h)) = some ((if y ≤ x then 0 else 1), h)
    rw [pz_ifs]
  · show (if x = y then some (1, h) else some (0, h)) = some ((if x = y then 1 else 0), h)
    rw [pz_ifs]
  · show (if x ≤ y then some (0, h) else some (1, h)) = some ((if x ≤ y then 0 else 1), h)
    rw [pz_ifs]
  · rfl
  · rfl
  · rfl
  · show (if y = 0 then some (0, h) else if y = -1 then some (-x, h) else kv_z y (some (x / y, h))) = some ((if y = 0 then 0 else x / y), h)
    by_cases q : y = 0
    · rw [if_pos q, if_pos q]
    · rw [if_neg q, if_neg q]
      by_cases q1 : y = -1
      · rw [if_pos q1, q1, pz_dm1]
      · rw [if_neg q1, pz_z q]
abbrev pz_St : Type := Nat × (Nat → Int32)
def pz_s1 (nm : Nat → Int32) (a b : Nat) (st : pz_St) : pz_St :=
  if a = 0 then (st.1 + 1, upd st.2 st.1 (nI b))
  else if a = 1 then (st.1 + 1, upd st.2 st.1 (nm b))
  else if b = 9 then (st.1, upd st.2 (st.1 - 1) (if st.2 (st.1 - 1) = 0 then 1 else 0))
  else (st.1 - 1, upd st.2 (st.1 - 2) (pz_jo b (st.2 (st.1 - 2)) (st.2 (st.1 - 1))))
def pz_ex (nm : Nat → Int32) : List (Nat × Nat) → pz_St → pz_St
  | [], st => st
  | s :: r, st => pz_ex nm r (pz_s1 nm s.1 s.2 st)
def pz_va (nk : Nat) : List (Nat × Nat) → Nat → Prop
  | [], d => d = 1
  | s :: r, d => (s.1 = 0 ∧ s.2 ≤ 9999 ∧ pz_va nk r (d + 1)) ∨ (s.1 = 1 ∧ s.2 < nk ∧ pz_va nk r (d + 1)) ∨ (s.1 = 2 ∧ s.2 = 9 ∧ 1 ≤ d ∧ pz_va nk r d) ∨ (s.1 = 2 ∧ s.2 < 9 ∧ 2 ≤ d ∧ pz_va nk r (d - 1))
def pz_tp (d : Nat) : Int32 := nI d - 1
theorem pz_tpS (d : Nat) : pz_tp (d + 1) = nI d := nI_pred d
theorem pz_tp1 (d : Nat) : pz_tp d + 1 = nI d := by
  unfold pz_tp
  apply Int32.toBitVec_inj.mp
  rw [Int32.toBitVec_add, Int32.toBitVec_sub, BitVec.sub_add_cancel]
theorem pz_m1 {d : Nat} (q : 1 ≤ d) : nI d + (-1) = nI (d - 1) := by
  obtain ⟨e, rfl⟩ : ∃ e, d = e + 1 := ⟨d - 1, by omega⟩
  exact pk_m1 e
theorem pz_enc15 (s : Nat × Nat) (q : s.2 < 10000) : nI (pz_enc s) &&& 15 = nI (pz_enc s % 16) ∧ nI (pz_enc s) >>> (4 &&& 31) = nI (pz_enc s / 16) := by
  have b : pz_enc s < 2147483648 := by unfold pz_enc; (repeat' split) <;> omega
  refine ⟨pk_andN (by omega) 4 rfl, pk_shrN b _ 4 rfl⟩
theorem pz_mod15 {s : Nat × Nat} : (s.1 = 0 → pz_enc s % 16 = 10 ∧ pz_enc s / 16 = s.2) ∧ (s.1 = 1 → pz_enc s % 16 = 11 ∧ pz_enc s / 16 = s.2) ∧ (s.1 = 2 → s.2 < 16 → pz_enc s % 16 = s.2) := by
  unfold pz_enc
  refine ⟨fun q => ?_, fun q => ?_, fun q q2 => ?_⟩
  · rw [if_pos q]; omega
  · rw [if_neg (by omega), if_pos q]; omega
  · rw [if_neg (by omega), if_neg (by omega)]; omega
theorem pz_val9L (nm : Nat → Int32) (q6 : Nat) (hq : 51 ≤ q6) (C : kv_H → Option (Int32 × kv_H)) : ∀ (rest : List (Nat × Nat)) (k d : Nat) (S : Nat → Int32) (n : Nat) (g : kv_H), pz_va 4 rest d → k + rest.length ≤ 96 → d ≤ k → (∀ j, j < d → g 49 j = S j) → g q6 1 = nI (k + rest.length) → (∀ i st, rest[i]? = some st → g (q6 + 1) (k + i) = nI (pz_enc st)) → (∀ j, j < 4 → g 50 j = nm j) → rest.length < n → ∃ g', f_X7_valueOf_L56 q6 n (pz_tp d) (nI k) g C = C g' ∧ (∀ a, a ≠ 49 → g' a = g a) ∧ g' 49 0 = (pz_ex nm rest (d, S)).2 0 := by
  intro rest
  induction rest with
  | nil =>
    intro k d S n g hv hk hd hs he hc hn hf
    obtain ⟨n, rfl⟩ : ∃ m, n = m + 1 := ⟨n - 1, by omega⟩
    refine ⟨g, ?_, fun _ _ => rfl, ?_⟩
    · rw [f_X7_valueOf_L56, he, if_pos (nI_le (by exact Nat.le_refl _) (by omega))]
    · have : d = 1 := hv
      exact hs 0 (by omega)
  | cons s r ih =>
    intro k d S n g hv hk hd hs he hc hn hf
    obtain ⟨n, rfl⟩ : ∃ m, n = m + 1 := ⟨n - 1, by simp at hf; omega⟩
    have hk' : k + r.length + 1 ≤ 96 := by simpa [Nat.add_assoc] using hk
    have hf' : r.length < n := by simpa using hf
    have c0 : g (q6 + 1) k = nI (pz_enc s) := hc 0 s rfl
    have n1 : q6 ≠ 49 := by omega
    have n2 : q6 + 1 ≠ 49 := by omega
    have b2 : s.2 < 10000 := by
      rcases hv with z | z | z | z
      · omega
      · omega
      · omega
      · omega
    have eL := (pz_enc15 s b2).1
    have eH := (pz_enc15 s b2).2
    have cN : ¬ nI (k + (s :: r).length) ≤ nI k := nI_ge (by simp) (by omega)
    have fin : ∀ (d' : Nat) (j : Nat) (v : Int32), pz_va 4 r d' → d' ≤ k + 1 → j < d' → pz_s1 nm s.1 s.2 (d, S) = (d', upd S j v) → (d' ≤ d ∨ j = d) → d' ≤ d + 1 → ∃ g', f_X7_valueOf_L56 q6 n (pz_tp d') (nI k + 1) (kv_up g 49 j v) C = C g' ∧ (∀ a, a ≠ 49 → g' a = g a) ∧ g' 49 0 = (pz_ex nm (s :: r) (d, S)).2 0 := by
      intro d' j v hv' hd' hj e1 hor hle
      have a1 : ∀ i, i < d' → kv_up g 49 j v 49 i = upd S j v i := by
        intro i hi
        rw [pz_upeq, pz_upd, pz_upd]
        by_cases z : i = j
        · rw [if_pos z, if_pos z]
        · rw [if_neg z, if_neg z]
          exact hs i (by omega)
      have a2 : kv_up g 49 j v q6 1 = nI (k + 1 + r.length) := by
        rw [pz_upne n1, he, show k + (s :: r).length = k + 1 + r.length from by simp; omega]
      have a3 : ∀ i st, r[i]? = some st → kv_up g 49 j v (q6 + 1) (k + 1 + i) = nI (pz_enc st) := by
        intro i st hi
        rw [pz_upne n2, show k + 1 + i = k + (i + 1) from by omega]
        exact hc (i + 1) st (by simpa using hi)
      have a4 : ∀ j', j' < 4 → kv_up g 49 j v 50 j' = nm j' := by
        intro j' hj'; rw [pz_upne (by omega)]; exact hn j' hj'
      obtain ⟨g', x1, x2, x3⟩ := ih (k + 1) d' (upd S j v) n (kv_up g 49 j v) hv' (by omega) hd' a1 a2 a3 a4 hf'
      refine ⟨g', ?_, ?_, ?_⟩
      · rw [nI_1]; exact x1
      · intro a ha; rw [x2 a ha, pz_upne ha]
      · rw [x3, pz_ex, e1]
    rw [f_X7_valueOf_L56, he, if_neg cN, pz_kN (by omega) (by omega), pz_cl (by omega), c0, eL, eH, pz_vl, pz_kN (by omega) (by omega), pz_vl, pz_tp1]
    rcases hv with ⟨z1, z2, z3⟩ | ⟨z1, z2, z3⟩ | ⟨z1, z2, z3, z4⟩ | ⟨z1, z2, z3, z4⟩
    · have m := (pz_mod15 (s := s)).1 z1
      rw [m.1, m.2, if_pos (show nI 10 = (10 : Int32) from rfl), pz_kN (by omega) (by omega), pz_hl, pz_cl (by omega)]
      rw [← pz_tpS d]
      exact fin (d + 1) d _ z3 (by omega) (by omega) (by rw [pz_s1, if_pos z1]) (Or.inr rfl) (by omega)
    · have m := (pz_mod15 (s := s)).2.1 z1
      rw [m.1, m.2, if_neg (show ¬ nI 11 = (10 : Int32) by decide), pz_jn, if_pos (show nI 11 = (11 : Int32) from rfl), if_neg (show ¬ (4 : Int32) ≤ nI s.2 from nI_ge (b := 4) (by omega) (by omega)), pz_kN (by omega) (by omega), pz_kN (by omega) (by omega), pz_hl, pz_cl (by omega), pz_cl (by omega), hn _ z2]
      rw [← pz_tpS d]
      exact fin (d + 1) d _ z3 (by omega) (by omega) (by rw [pz_s1, if_neg (by omega), if_pos z1]) (Or.inr rfl) (by omega)
    · have m := (pz_mod15 (s := s)).2.2 z1 (by omega)
      obtain ⟨d, rfl⟩ : ∃ e, d = e + 1 := ⟨d - 1, by omega⟩
      rw [m, z2, if_neg (show ¬ nI 9 = (10 : Int32) by decide), pz_jn, if_neg (show ¬ nI 9 = (11 : Int32) by decide)]
      dsimp only
      rw [pz_jn, if_pos (show nI 9 = (9 : Int32) from rfl), pz_tpS, if_neg (pz_ng (by omega)), pz_kN (by omega) (by omega), pz_cl (by omega)]
      have e0 := hs d (by omega)
      by_cases y : g 49 d = 0
      · rw [if_pos y, pz_kN (by omega) (by omega), pz_hl, ← pz_tpS d]
        exact fin (d + 1) d _ z4 (by omega) (by omega) (by rw [pz_s1, if_neg (by omega), if_neg (by omega), if_pos z2]; show (d + 1, upd S d (if S d = 0 then 1 else 0)) = _; rw [← e0, if_pos y]) (Or.inl (Nat.le_refl _)) (by omega)
      · rw [if_neg y, pz_kN (by omega) (by omega), pz_hl, ← pz_tpS d]
        exact fin (d + 1) d _ z4 (by omega) (by omega) (by rw [pz_s1, if_neg (by omega), if_neg (by omega), if_pos z2]; show (d + 1, upd S d (if S d = 0 then 1 else 0)) = _; rw [← e0, if_neg y]) (Or.inl (Nat.le_refl _)) (by omega)
    · have m := (pz_mod15 (s := s)).2.2 z1 (by omega)
      obtain ⟨d, rfl⟩ : ∃ e, d = e + 2 := ⟨d - 2, by omega⟩
      have y9 : ∀ c : Nat, 9 ≤ c → c < 16 → ¬ nI s.2 = nI c := by
        intro c q1 q2; rw [pz_eq (by omega) (by omega)]; omega
      have w : pz_s1 nm s.1 s.2 (d + 2, S) = (d + 1, upd S d (pz_jo s.2 (S d) (S (d + 1)))) := by
        rw [pz_s1, if_neg (by omega), if_neg (by omega), if_neg (by omega)]; rfl
      rw [m, if_neg (show ¬ nI s.2 = (10 : Int32) from y9 10 (by omega) (by omega)), pz_jn, if_neg (show ¬ nI s.2 = (11 : Int32) from y9 11 (by omega) (by omega))]
      dsimp only
      rw [pz_jn, if_neg (show ¬ nI s.2 = (9 : Int32) from y9 9 (by omega) (by omega)), pz_tpS]
      dsimp only
      rw [if_neg (show ¬ nI (d + 1) < (1 : Int32) from nI_nlt (b := 1) (by omega) (by omega)), pk_m1, nI_1, pz_kN (by omega) (by omega), pz_kN (by omega) (by omega), pz_cl (by omega), pz_cl (by omega), pz_join9 _ _ _ _ z2, pz_b, pz_kN (by omega) (by omega), pz_hl]
      rw [hs d (by omega), hs (d + 1) (by omega), ← pz_tpS d]
      exact fin (d + 1) d _ z4 (by omega) (by omega) w (Or.inl (by omega)) (by omega)
theorem pz_lt_b (key b : Nat) : pz_lt' key b < 128 := by
  unfold pz_lt'
  have h1 : ∀ b, [115, 110].getD b 0 < 128 := by intro b; match b with | 0 | 1 => decide | n + 2 => simp
  have h2 : ∀ b, [108, 110, 115].getD b 0 < 128 := by intro b; match b with | 0 | 1 | 2 => decide | n + 3 => simp
  have h3 : ∀ b, [97, 116, 114, 110].getD b 0 < 128 := by intro b; match b with | 0 | 1 | 2 | 3 => decide | n + 4 => simp
  split
  · exact h1 b
  · split
    · exact h2 b
    · exact h3 b
theorem pz_sg33 : ∀ b, b < 9 → ¬ pz_sg b = 33 ∧ pz_sg b < 128
  | 0, _ | 1, _ | 2, _ | 3, _ | 4, _ | 5, _ | 6, _ | 7, _ | 8, _ => by decide
  | n + 9, q => by omega
/-- where text t begins -/
theorem pz_val10L (nm : Nat → Int32) (key nk t : Nat) (ht : t < 15) (C : kv_H → Option (Int32 × kv_H)) : ∀ (rest : List (Nat × Nat)) (k d : Nat) (S : Nat → Int32) (n : Nat) (g : kv_H), pz_va nk rest d → k + rest.length ≤ 96 → d ≤ k → (∀ j, j < d → g 132 j = S j) → g 112 (100 + 200 * t) = nI (k + rest.length) → (∀ i st, rest[i]? = some st → g 112 (102 + 200 * t + 2 * (k + i)) = nI st.1 ∧ g 112 (103 + 200 * t + 2 * (k + i)) = nI (pz_mv key st)) → (∀ j, j < nk → g 131 (pz_lt' key j) = nm j) → rest.length < n → ∃ g', f_X10_worked_L4 (nI t) n (nI d) (nI k) g C = C g' ∧ (∀ a, a ≠ 132 → g' a = g a) ∧ g' 132 0 = (pz_ex nm rest (d, S)).2 0 := by
  intro rest
  induction rest with
  | nil =>
    intro k d S n g hv hk hd hs he hc hn hf
    obtain ⟨n, rfl⟩ : ∃ m, n = m + 1 := ⟨n - 1, by omega⟩
    refine ⟨g, ?_, fun _ _ => rfl, ?_⟩
    · have e : (98 : Int32) + 200 * nI t + 2 = nI (100 + 200 * t) := by
        rw [show (200 : Int32) = nI 200 from rfl, pz_mul, show (98 : Int32) = nI 98 from rfl, pz_add, show (2 : Int32) = nI 2 from rfl, pz_add]; congr 1; omega
      rw [f_X10_worked_L4, pz_textAtU, pz_b, e, pz_kN (by omega) (by omega), pz_cl (by omega), he, if_pos (nI_le (by exact Nat.le_refl _) (by omega))]
    · have : d = 1 := hv
      exact hs 0 (by omega)
  | cons s r ih =>
    intro k d S n g hv hk hd hs he hc hn hf
    obtain ⟨n, rfl⟩ : ∃ m, n = m + 1 := ⟨n - 1, by simp at hf; omega⟩
    have hk' : k + r.length + 1 ≤ 96 := by simpa [Nat.add_assoc] using hk
    have hf' : r.length < n := by simpa using hf
    obtain ⟨c0, c1⟩ := hc 0 s rfl
    have n1 : (112 : Nat) ≠ 132 := by omega
    have cN : ¬ nI (k + (s :: r).length) ≤ nI k := nI_ge (by simp) (by omega)
    have fin : ∀ (d' : Nat) (j : Nat) (v : Int32), pz_va nk r d' → d' ≤ k + 1 → j < d' → pz_s1 nm s.1 s.2 (d, S) = (d', upd S j v) → (d' ≤ d ∨ j = d) → d' ≤ d + 1 → ∃ g', f_X10_worked_L4 (nI t) n (nI d') (nI (k + 1)) (kv_up g 132 j v) C = C g' ∧ (∀ a, a ≠ 132 → g' a = g a) ∧ g' 132 0 = (pz_ex nm (s :: r) (d, S)).2 0 := by
      intro d' j v hv' hd' hj e1 hor hle
      have a1 : ∀ i, i < d' → kv_up g 132 j v 132 i = upd S j v i := by
        intro i hi
        rw [pz_upeq, pz_upd, pz_upd]
        by_cases z : i = j
        · rw [if_pos z, if_pos z]
        · rw [if_neg z, if_neg z]
          exact hs i (by omega)
      have a2 : kv_up g 132 j v 112 (100 + 200 * t) = nI (k + 1 + r.length) := by
        rw [pz_upne n1, he, show k + (s :: r).length = k + 1 + r.length from by simp; omega]
      have a3 : ∀ i st, r[i]? = some st → kv_up g 132 j v 112 (102 + 200 * t + 2 * (k + 1 + i)) = nI st.1 ∧ kv_up g 132 j v 112 (103 + 200 * t + 2 * (k + 1 + i)) = nI (pz_mv key st) := by
        intro i st hi
        rw [pz_upne n1, show k + 1 + i = k + (i + 1) from by omega]
        exact hc (i + 1) st (by simpa using hi)
      have a4 : ∀ j', j' < nk → kv_up g 132 j v 131 (pz_lt' key j') = nm j' := by
        intro j' hj'; rw [pz_upne (by omega)]; exact hn j' hj'
      obtain ⟨g', x1, x2, x3⟩ := ih (k + 1) d' (upd S j v) n (kv_up g 132 j v) hv' (by omega) hd' a1 a2 a3 a4 hf'
      refine ⟨g', ?_, ?_, ?_⟩
      · exact x1
      · intro a ha; rw [x2 a ha, pz_upne ha]
      · rw [x3, pz_ex, e1]
    have e : (98 : Int32) + 200 * nI t + 2 = nI (100 + 200 * t) := by
      rw [show (200 : Int32) = nI 200 from rfl, pz_mul, show (98 : Int32) = nI 98 from rfl, pz_add, show (2 : Int32) = nI 2 from rfl, pz_add]; congr 1; omega
    have e' : (98 : Int32) + 200 * nI t + 4 + 2 * nI k = nI (102 + 200 * t + 2 * (k + 0)) := by
      rw [show (200 : Int32) = nI 200 from rfl, pz_mul, show (98 : Int32) = nI 98 from rfl, pz_add, show (4 : Int32) = nI 4 from rfl, pz_add, show (2 : Int32) = nI 2 from rfl, pz_mul, pz_add]; congr 1; omega
    rw [f_X10_worked_L4, pz_textAtU, pz_b, e, pz_kN (by omega) (by omega), pz_cl (by omega), he, if_neg cN, pz_textAtU, pz_b, e', nI_1, pz_kN (by omega) (by omega), pz_cl (by omega), c0, pz_vl, pz_textAtU, pz_b, e', nI_1, pz_kN (by omega) (by omega), pz_cl (by omega), show 102 + 200 * t + 2 * (k + 0) + 1 = 103 + 200 * t + 2 * (k + 0) from by omega, c1, pz_vl]
    rcases hv with ⟨z1, z2, z3⟩ | ⟨z1, z2, z3⟩ | ⟨z1, z2, z3, z4⟩ | ⟨z1, z2, z3, z4⟩
    · rw [z1, if_neg (show ¬ nI 0 = (2 : Int32) by decide), if_pos (show nI 0 = (0 : Int32) from rfl), pz_kN (by omega) (by omega), pz_hl, pz_cl (by omega), nI_1]
      exact fin (d + 1) d (nI (pz_mv key s)) z3 (by omega) (by omega) (by rw [pz_s1, if_pos z1, pz_mv, if_pos z1]) (Or.inr rfl) (by omega)
    · have e2 : pz_mv key s = pz_lt' key s.2 := by rw [pz_mv, if_neg (by omega), if_pos z1]
      have lb := pz_lt_b key s.2
      rw [z1, if_neg (show ¬ nI 1 = (2 : Int32) by decide), if_neg (show ¬ nI 1 = (0 : Int32) by decide), e2, pz_kN (by omega) (by omega), pz_kN (by omega) (by omega), pz_hl, pz_cl (by omega), pz_cl (by omega), hn _ z2, nI_1]
      exact fin (d + 1) d _ z3 (by omega) (by omega) (by rw [pz_s1, if_neg (by omega), if_pos z1]) (Or.inr rfl) (by omega)
    · obtain ⟨d, rfl⟩ : ∃ e, d = e + 1 := ⟨d - 1, by omega⟩
      have e2 : pz_mv key s = 33 := by rw [pz_mv, if_neg (by omega), if_neg (by omega), z2]; rfl
      rw [z1, if_pos (show nI 2 = (2 : Int32) from rfl), e2, if_pos (show nI 33 = (33 : Int32) from rfl), nI_pred, pz_kN (by omega) (by omega), pz_cl (by omega)]
      have e0 := hs d (by omega)
      by_cases y : g 132 d = 0
      · rw [if_pos y, pz_kN (by omega) (by omega), pz_hl]
        exact fin (d + 1) d _ z4 (by omega) (by omega) (by rw [pz_s1, if_neg (by omega), if_neg (by omega), if_pos z2]; show (d + 1, upd S d (if S d = 0 then 1 else 0)) = _; rw [← e0, if_pos y]) (Or.inl (Nat.le_refl _)) (by omega)
      · rw [if_neg y, pz_kN (by omega) (by omega), pz_hl]
        exact fin (d + 1) d _ z4 (by omega) (by omega) (by rw [pz_s1, if_neg (by omega), if_neg (by omega), if_pos z2]; show (d + 1, upd S d (if S d = 0 then 1 else 0)) = _; rw [← e0, if_neg y]) (Or.inl (Nat.le_refl _)) (by omega)
    · obtain ⟨d, rfl⟩ : ∃ e, d = e + 2 := ⟨d - 2, by omega⟩
      have e2 : pz_mv key s = pz_sg s.2 := by rw [pz_mv, if_neg (by omega), if_neg (by omega)]
      have sg := pz_sg33 s.2 z2
      have w : pz_s1 nm s.1 s.2 (d + 2, S) = (d + 1, upd S d (pz_jo s.2 (S d) (S (d + 1)))) := by
        rw [pz_s1, if_neg (by omega), if_neg (by omega), if_neg (by omega)]; rfl
      rw [z1, if_pos (show nI 2 = (2 : Int32) from rfl), e2, if_neg (show ¬ nI (pz_sg s.2) = (33 : Int32) from fun y => sg.1 ((nI_eq (by omega) (b := 33) (by omega)).mp y)), pk_m1, nI_pred, pz_kN (by omega) (by omega), pz_kN (by omega) (by omega), pz_cl (by omega), pz_cl (by omega), pz_join10 _ _ _ _ z2, pz_b, pz_kN (by omega) (by omega), pz_hl]
      rw [hs d (by omega), hs (d + 1) (by omega)]
      exact fin (d + 1) d _ z4 (by omega) (by omega) w (Or.inl (by omega)) (by omega)

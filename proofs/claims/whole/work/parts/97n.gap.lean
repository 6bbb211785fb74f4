/-! PURE PART: rows by their number; the gap -/
theorem pz_rows10 {h : kv_H} {n c : Nat} (e : h 112 0 = nI n) (hn : n ≤ 8) (hc : c ≤ 3) : f_X10_rowsOf (nI c) h = some (nI (n ^ c), h) := by
  unfold f_X10_rowsOf
  refine pz_for (fun f k (v : Int32) => f_X10_rowsOf_L4 (nI c) f v (nI k) h (fun z2 h3 => some (z2, h3))) (fun k v => v = nI (n ^ k)) (fun R => R = some (nI (n ^ c), h)) c ?_ ?_ kv_fu 0 _ (by omega) (by rw [show kv_fu = 5000 from rfl]; omega) rfl
  · intro f v hv
    show f_X10_rowsOf_L4 (nI c) (f + 1) v (nI c) h _ = _
    rw [f_X10_rowsOf_L4, if_pos (nI_le (Nat.le_refl _) (by omega)), hv]
  · intro f k v hk hv
    right
    refine ⟨nI (n ^ (k + 1)), rfl, ?_⟩
    show f_X10_rowsOf_L4 (nI c) (f + 1) v (nI k) h _ = _
    rw [f_X10_rowsOf_L4, if_neg (nI_ge hk (by omega)), e, hv, pz_mul, pz_vl, nI_1, Nat.pow_succ]
theorem pz_onP (j : Nat) : pz_on (j + 1) + (-1) = pz_on j := by
  rw [show pz_on (j + 1) = nI j from rfl]
  match j with
  | 0 => rfl
  | i + 1 => exact (Int32.sub_eq_add_neg (nI (i + 1)) 1).symm.trans (pz_sub (a := i + 1) (b := 1) (by omega))
theorem pz_lays10L {n : Nat} (n0 : 0 < n) (hn : n ≤ 8) (C : kv_H → Option (Unit × kv_H)) : ∀ (j k : Nat) (h : kv_H) (fu : Nat), j ≤ 24 → j < fu → k < 2147483648 → h 112 0 = nI n → ∃ h', f_X10_laysRow_L7 fu (nI k) (pz_on j) h C = C h' ∧ (∀ i, i < j → h' 127 i = nI (k / n ^ (j - 1 - i) % n)) ∧ (∀ i, j ≤ i → h' 127 i = h 127 i) ∧ ∀ a, a ≠ 127 → h' a = h a := by
  have nz : ¬ nI n = (0 : Int32) := fun y => absurd ((nI_eq (b := 0) (by omega) (by omega)).mp y) (by omega)
  intro j
  induction j with
  | zero =>
    intro k h fu _ e2 _ e
    obtain ⟨fu, rfl⟩ : ∃ f, fu = f + 1 := ⟨fu - 1, by omega⟩
    refine ⟨h, ?_, fun i hi => absurd hi (by omega), fun _ _ => rfl, fun _ _ => rfl⟩
    rw [f_X10_laysRow_L7, if_pos (by decide)]
  | succ j ih =>
    intro k h fu e1 e2 e3 e
    obtain ⟨fu, rfl⟩ : ∃ f, fu = f + 1 := ⟨fu - 1, by omega⟩
    obtain ⟨h', x1, x2, x3, x4⟩ := ih (k / n) (kv_up h 127 j (nI (k % n))) fu (by omega) (by omega) (Nat.lt_of_le_of_lt (Nat.div_le_self _ _) e3) (by rw [pz_upne (by omega)]; exact e)
    refine ⟨h', ?_, fun i hi => ?_, fun i hi => ?_, fun a q => by rw [x4 a q, pz_upne q]⟩
    · rw [f_X10_laysRow_L7, show pz_on (j + 1) = nI j from rfl, if_neg (pz_ng (by omega)), e, pz_z nz, pz_kN (by omega) (by omega), pz_hl, pz_cl (by omega), pk_rem e3 n0 (by omega), pz_upne (by omega), e, pz_z nz, pk_div e3 n0 (by omega), pz_vl, show nI j + (-1) = pz_on j from pz_onP j]; exact x1
    · by_cases z : i < j
      · rw [x2 i z, Nat.div_div_eq_div_mul, show j + 1 - 1 - i = (j - 1 - i) + 1 from by omega, Nat.pow_succ, Nat.mul_comm n]
      · obtain rfl : i = j := by omega
        rw [x3 i (by omega), pz_upeq, pz_upd, if_pos rfl, show i + 1 - 1 - i = 0 from by omega, Nat.pow_zero, Nat.div_one]
    · rw [x3 i (by omega), pz_upeq, pz_upd, if_neg (by omega)]
theorem pz_lays10 {h : kv_H} {n c k : Nat} (n0 : 0 < n) (hn : n ≤ 8) (c0 : 0 < c) (hc : c ≤ 24) (hk : k < 2147483648) (e : h 112 0 = nI n) : ∃ h', f_X10_laysRow (nI k) (nI c) h = some ((), h') ∧ (∀ i, i < c → h' 127 i = nI (k / n ^ (c - 1 - i) % n)) ∧ ∀ a, a ≠ 127 → h' a = h a := by
  obtain ⟨h', x1, x2, x3, x4⟩ := pz_lays10L n0 hn (fun h4 => some ((), h4)) c k h kv_fu hc (by rw [show kv_fu = 5000 from rfl]; omega) hk e
  refine ⟨h', ?_, x2, x4⟩
  rw [f_X10_laysRow, show nI c - (1 : Int32) = nI (c - 1) from pz_sub (b := 1) (by omega), pz_vl, show nI (c - 1) = pz_on c from by
    obtain ⟨m, rfl⟩ : ∃ m, c = m + 1 := ⟨c - 1, by omega⟩
    rfl]
  exact x1
def pz_gRow (c n k : Nat) : List Nat := if c = 1 then [k] else [k / n, k % n]
def pz_gCode (c n k : Nat) : Nat := if c = 1 then k else 10 * (k / n) + k % n
/-- the least that must be missed of a row -/
def pz_lst (n : Nat) (D : Nat → Nat → Nat) (t : Nat) (TX : Nat → pz_T) (sp : Nat) (V : List Nat) : List Nat → Nat
  | [] => 0
  | x :: r => pz_ft (pz_fit TX t D n sp) D (pz_ms TX t n D) r ((pz_cf (pz_fit TX t D n sp) (pz_ft (pz_fit TX t D n sp) D (pz_ms TX t n D) r) (pz_bits V ||| 2 ^ x) (2 ^ n)).getD 0) + (if pz_rd D (pz_bits V) 8 (x + 1) then 0 else pz_ms TX t n D x)
noncomputable def pz_gDiff (n : Nat) (D : Nat → Nat → Nat) (t : Nat) (TX : Nat → pz_T) (sp ru ca : Nat) (V : List Nat) (X : Nat → Int32) (L : List Nat) : Int32 := ((pz_runS n D t TX sp ru ca L V X).2 1 - X 1) - nI (pz_lst n D t TX sp V L)
def pz_gs (code : Nat → Nat) (diff : Nat → Int32) : Nat → Option (Nat × Int32)
  | 0 => none
  | k + 1 => match pz_gs code diff k with
    | none => some (code k, diff k)
    | some q => if diff k ≤ q.2 then some q else some (code k, diff k)
theorem pz_gs0 {code : Nat → Nat} {diff : Nat → Int32} {k : Nat} (h : pz_gs code diff k = none) : pz_gs code diff (k + 1) = some (code k, diff k) := by
  rw [pz_gs, h]
theorem pz_gs1 {code : Nat → Nat} {diff : Nat → Int32} {k : Nat} {q : Nat × Int32} (h : pz_gs code diff k = some q) : pz_gs code diff (k + 1) = if diff k ≤ q.2 then some q else some (code k, diff k) := by
  rw [pz_gs, h]
theorem pz_gsB {code : Nat → Nat} {diff : Nat → Int32} {B : Nat} : ∀ k, (∀ i, i < k → code i < B) → ∀ q, pz_gs code diff k = some q → q.1 < B := by
  intro k
  induction k with
  | zero => intro _ q h; cases h
  | succ k ih =>
    intro hb q h
    cases hc : pz_gs code diff k with
    | none => rw [pz_gs0 hc] at h; cases h; exact hb k (by omega)
    | some p =>
      rw [pz_gs1 hc] at h
      by_cases z : diff k ≤ p.2
      · rw [if_pos z] at h; cases h; exact ih (fun i hi => hb i (by omega)) _ hc
      · rw [if_neg z] at h; cases h; exact hb k (by omega)
theorem pz_gsS {code : Nat → Nat} {diff : Nat → Int32} : ∀ k, 0 < k → ∃ q, pz_gs code diff k = some q := by
  intro k hk
  obtain ⟨m, rfl⟩ : ∃ m, k = m + 1 := ⟨k - 1, by omega⟩
  cases hc : pz_gs code diff m with
  | none => rw [pz_gs0 hc]; exact ⟨_, rfl⟩
  | some p => rw [pz_gs1 hc]; split <;> exact ⟨_, rfl⟩
theorem pz_gRowB {c n k : Nat} (n0 : 0 < n) (hc : c = 1 ∨ c = 2) (hk : k < n ^ c) : (∀ u, u ∈ pz_gRow c n k → u < n) ∧ (pz_gRow c n k).length = c ∧ pz_gCode c n k < 100 * n := by
  unfold pz_gRow pz_gCode
  rcases hc with rfl | rfl
  · rw [if_pos rfl, if_pos rfl]
    rw [Nat.pow_one] at hk
    refine ⟨fun u hu => ?_, rfl, by omega⟩
    rw [List.mem_singleton] at hu; omega
  · rw [if_neg (by decide), if_neg (by decide)]
    have d : k / n < n := by
      rw [Nat.div_lt_iff_lt_mul n0]
      rw [Nat.pow_two] at hk; exact hk
    have m := Nat.mod_lt k n0
    refine ⟨fun u hu => ?_, rfl, by omega⟩
    rcases List.mem_cons.mp hu with z | z
    · omega
    · rw [List.mem_singleton] at z; omega

/-! PURE PART: keys -/
def pz_wb (B : Nat → Nat) : List Nat → Nat → Bool
  | [], _ => true
  | t :: r, a => decide (B a = t) && pz_wb B r (a + 1)
def pz_wd (B : Nat → Nat) (T : List Nat) (τ : Nat × Nat × Nat) : Bool := decide (τ.1 = 1) && (decide (τ.2.2 - τ.2.1 = T.length) && pz_wb B T τ.2.1)
def pz_ky (B : Nat → Nat) (τ : Nat × Nat × Nat) : Option Nat := if pz_wd B [114, 111, 111, 109] τ then some 0 else if pz_wd B [109, 105, 115, 115] τ then some 1 else if pz_wd B [116, 104, 114, 111, 119] τ then some 2 else none
theorem pz_isWord9 {h : kv_H} {len q : Nat} {B : Nat → Nat} {T : List Nat} {τ : Nat × Nat × Nat} (l : pz_L9 h len B) (hl : len ≤ 96) (hB : ∀ k, k < len → B k < 256) (t : pz_t9 h τ) (hs : τ.1 ≤ 4) (hae : τ.2.1 ≤ τ.2.2 ∧ τ.2.2 ≤ len) (hT : ∀ t, t ∈ T → t < 128) (hT9 : T.length ≤ 9) (hln : ∀ g : kv_H, f_J0_length_8abf5 q g = some (nI T.length, g)) (hch : ∀ i t, T[i]? = some t → ∀ g : kv_H, f_J0_charAt_5068e q (nI i) g = some (nI t, g)) : f_X5_isWord q h = some (if pz_wd B T τ then 1 else 0, h) := by
  rw [f_X5_isWord, t.1, t.2.2, t.2.1, pz_sub hae.1, pz_wd]
  by_cases z1 : τ.1 = 1
  · rw [if_pos (show nI τ.1 = (1 : Int32) by rw [z1]; rfl), hln, pz_b, decide_eq_true z1, Bool.true_and]
    by_cases z2 : τ.2.2 - τ.2.1 = T.length
    · rw [if_pos (by rw [z2]), decide_eq_true z2, Bool.true_and]
      have main : ∀ (r : List Nat) (i fu : Nat), T.drop i = r → i ≤ T.length → r.length < fu → f_X5_isWord_L28 q fu (nI i) h (fun h7 => some (1, h7)) = some (if pz_wb B r (τ.2.1 + i) then 1 else 0, h) := by
        intro r
        induction r with
        | nil =>
          intro i fu e1 e2 e3
          obtain ⟨fu, rfl⟩ : ∃ f, fu = f + 1 := ⟨fu - 1, by omega⟩
          have := List.drop_eq_nil_iff.mp e1
          rw [f_X5_isWord_L28, hln, pz_b, if_pos (nI_le (by omega) (by omega))]; rfl
        | cons c r ih =>
          intro i fu e1 e2 e3
          obtain ⟨fu, rfl⟩ : ∃ f, fu = f + 1 := ⟨fu - 1, by omega⟩
          rw [List.length_cons] at e3
          obtain ⟨d1, d2, d3⟩ := pz_dropC e1
          have cb := hT c (pz_mem_of_get d1)
          have bb := hB (τ.2.1 + i) (by omega)
          rw [f_X5_isWord_L28, hln, pz_b, if_neg (nI_ge d3 (by omega)), t.2.1, pz_add, pz_kN (by omega) (by omega), hch i c d1, pz_b, pz_cl (by omega), l.2 _ (by omega), pz_wb]
          by_cases y : B (τ.2.1 + i) = c
          · rw [if_pos (by rw [y]), decide_eq_true y, Bool.true_and, nI_1]
            exact ih (i + 1) fu d2 (by omega) (by omega)
          · rw [if_neg (fun w => y ((nI_eq (by omega) (by omega)).mp w)), decide_eq_false y, Bool.false_and]; rfl
      have := main T 0 kv_fu rfl (by omega) (by rw [show kv_fu = 5000 from rfl]; omega)
      rw [Nat.add_zero] at this; exact this
    · rw [if_neg (fun w => z2 ((nI_eq (by omega) (by omega)).mp w)), decide_eq_false z2, Bool.false_and]; rfl
  · rw [if_neg (show ¬ nI τ.1 = (1 : Int32) from fun w => z1 ((nI_eq (b := 1) (by omega) (by omega)).mp w)), decide_eq_false z1, Bool.false_and]; rfl
theorem pz_lenJ {i0 m : Nat} (hl : kv_sl.getD i0 0 = m) (h1 : 1 ≤ m) (h2 : m ≤ 9) (h : kv_H) : f_J0_length_8abf5 i0 h = some (nI m, h) := by
  rw [f_J0_length_8abf5, show f_J0_coder_7d493 i0 h = some (0, h) from rfl, pz_b, hl]
  have : m = 1 ∨ m = 2 ∨ m = 3 ∨ m = 4 ∨ m = 5 ∨ m = 6 ∨ m = 7 ∨ m = 8 ∨ m = 9 := by omega
  rcases this with q | q | q | q | q | q | q | q | q <;> rw [q] <;> rfl
theorem pz_key9 {h : kv_H} {len : Nat} {B : Nat → Nat} {τ : Nat × Nat × Nat} (l : pz_L9 h len B) (hl : len ≤ 96) (hB : ∀ k, k < len → B k < 256) (t : pz_t9 h τ) (hs : τ.1 ≤ 4) (hae : τ.2.1 ≤ τ.2.2 ∧ τ.2.2 ≤ len) : f_X5_keyHere h = some (pz_pl10 (pz_ky B τ), h) := by
  have w0 := pz_isWord9 (q := 0) (T := [114, 111, 111, 109]) l hl hB t hs hae (by decide) (by decide) (fun g => pz_lenJ rfl (by decide) (by decide) g) (fun i t hi g => by
    match i, hi with
    | 0, hi => cases hi; rfl
    | 1, hi => cases hi; rfl
    | 2, hi => cases hi; rfl
    | 3, hi => cases hi; rfl
    | i + 4, hi => cases hi)
  have w1 := pz_isWord9 (q := 1) (T := [109, 105, 115, 115]) l hl hB t hs hae (by decide) (by decide) (fun g => pz_lenJ rfl (by decide) (by decide) g) (fun i t hi g => by
    match i, hi with
    | 0, hi => cases hi; rfl
    | 1, hi => cases hi; rfl
    | 2, hi => cases hi; rfl
    | 3, hi => cases hi; rfl
    | i + 4, hi => cases hi)
  have w2 := pz_isWord9 (q := 2) (T := [116, 104, 114, 111, 119]) l hl hB t hs hae (by decide) (by decide) (fun g => pz_lenJ rfl (by decide) (by decide) g) (fun i t hi g => by
    match i, hi with
    | 0, hi => cases hi; rfl
    | 1, hi => cases hi; rfl
    | 2, hi => cases hi; rfl
    | 3, hi => cases hi; rfl
    | 4, hi => cases hi; rfl
    | i + 5, hi => cases hi)
  rw [f_X5_keyHere, w0, pz_b, w1, pz_b, w2, pz_b, pz_ky]
  cases pz_wd B [114, 111, 111, 109] τ
  · cases pz_wd B [109, 105, 115, 115] τ
    · cases pz_wd B [116, 104, 114, 111, 119] τ
      · rfl
      · rfl
    · rfl
  · rfl
theorem pz_key10 {h : kv_H} {len : Nat} {B : Nat → Nat} {τ : Nat × Nat × Nat} (l : pz_L10 h len B) (hl : len ≤ 96) (hB : ∀ k, k < len → B k < 256) (t : pz_t10 h B τ) (hs : τ.1 ≤ 4) (hae : τ.2.1 ≤ τ.2.2 ∧ τ.2.2 ≤ len) : f_X10_key h = some (pz_pl10 (pz_ky B τ), h) := by
  have t24 : (h 111 24 = (1 : Int32)) ↔ τ.1 = 1 := by
    rw [t.2.2.1]
    have mb : pz_msr τ ≤ 4 := by unfold pz_msr; split <;> omega
    have : (nI (pz_msr τ) = (1 : Int32)) ↔ pz_msr τ = 1 := nI_eq (b := 1) (by omega) (by omega)
    rw [this]
    unfold pz_msr
    by_cases w : τ.1 = 2 ∧ 4 < τ.2.2 - τ.2.1
    · rw [if_pos w]; omega
    · rw [if_neg w]
  have eq : ∀ (i c : Nat), τ.2.1 + i < len → c < 128 → ((h 130 (nI (τ.2.1 + i)).toNatClampNeg = nI c) ↔ B (τ.2.1 + i) = c) := by
    intro i c hi hc
    have := hB _ hi
    rw [pz_cl (by omega), l.2 _ hi, nI_eq (by omega) (by omega)]
  have eq0 : ∀ c : Nat, τ.2.1 < len → c < 128 → ((h 130 (nI τ.2.1).toNatClampNeg = nI c) ↔ B τ.2.1 = c) := fun c h1 h2 => eq 0 c h1 h2
  have W4 : ∀ c0 c1 c2 c3 : Nat, c0 < 128 → c1 < 128 → c2 < 128 → c3 < 128 → 0 < c3 → ∀ h2, h2 = h → f_X10_isWordAt (nI c0) (nI c1) (nI c2) (nI c3) h2 = some (if pz_wd B [c0, c1, c2, c3] τ then 1 else 0, h2) := by
    intro c0 c1 c2 c3 b0 b1 b2 b3 p3 h2 e2
    subst e2
    have n3 : ¬ nI c3 = (0 : Int32) := fun w => by have := (nI_eq (b := 0) (by omega) (by omega)).mp w; omega
    rw [f_X10_isWordAt, pz_jn, if_neg n3, pz_wd]
    dsimp only
    by_cases z1 : τ.1 = 1
    · rw [if_pos (t24.mpr z1), t.1, t.2.1, pz_sub hae.1, decide_eq_true z1, Bool.true_and]
      by_cases z2 : τ.2.2 - τ.2.1 = 4
      · rw [if_pos (show nI (τ.2.2 - τ.2.1) = (4 : Int32) by rw [z2]; rfl), show decide (τ.2.2 - τ.2.1 = [c0, c1, c2, c3].length) = true from decide_eq_true z2, Bool.true_and, pz_wb, pz_wb, pz_wb, pz_wb, pz_wb, Bool.and_true, pz_kN (by omega) (by omega), show nI τ.2.1 + (1 : Int32) = nI (τ.2.1 + 1) from pz_add _ 1, show nI τ.2.1 + (2 : Int32) = nI (τ.2.1 + 2) from pz_add _ 2, show nI τ.2.1 + (3 : Int32) = nI (τ.2.1 + 3) from pz_add _ 3]
        by_cases y0 : B τ.2.1 = c0
        · rw [if_pos ((eq0 c0 (by omega) b0).mpr y0), pz_kN (by omega) (by omega), decide_eq_true y0, Bool.true_and]
          by_cases y1 : B (τ.2.1 + 1) = c1
          · rw [if_pos ((eq 1 c1 (by omega) b1).mpr y1), pz_kN (by omega) (by omega), decide_eq_true y1, Bool.true_and]
            by_cases y2 : B (τ.2.1 + 1 + 1) = c2
            · rw [if_pos ((eq 2 c2 (by omega) b2).mpr y2), decide_eq_true y2, Bool.true_and, if_neg n3, pz_kN (by omega) (by omega)]
              by_cases y3 : B (τ.2.1 + 1 + 1 + 1) = c3
              · rw [if_pos ((eq 3 c3 (by omega) b3).mpr y3), decide_eq_true y3]; rfl
              · rw [if_neg (fun w => y3 ((eq 3 c3 (by omega) b3).mp w)), decide_eq_false y3]; rfl
            · rw [if_neg (fun w => y2 ((eq 2 c2 (by omega) b2).mp w)), decide_eq_false y2, Bool.false_and]; rfl
          · rw [if_neg (fun w => y1 ((eq 1 c1 (by omega) b1).mp w)), decide_eq_false y1, Bool.false_and]; rfl
        · rw [if_neg (fun w => y0 ((eq0 c0 (by omega) b0).mp w)), decide_eq_false y0, Bool.false_and]; rfl
      · rw [if_neg (show ¬ nI (τ.2.2 - τ.2.1) = (4 : Int32) from fun w => z2 ((nI_eq (b := 4) (by omega) (by omega)).mp w)), show decide (τ.2.2 - τ.2.1 = [c0, c1, c2, c3].length) = false from decide_eq_false z2, Bool.false_and]; rfl
    · rw [if_neg (fun w => z1 (t24.mp w)), decide_eq_false z1, Bool.false_and]; rfl
  have W5 : ∀ c0 c1 c2 c3 c4 : Nat, c0 < 128 → c1 < 128 → c2 < 128 → c3 < 128 → c4 < 128 → f_X10_isLong (nI c0) (nI c1) (nI c2) (nI c3) (nI c4) 0 h = some (if pz_wd B [c0, c1, c2, c3, c4] τ then 1 else 0, h) := by
    intro c0 c1 c2 c3 c4 b0 b1 b2 b3 b4
    rw [f_X10_isLong, pz_jn, if_pos rfl, pz_wd]
    dsimp only
    by_cases z1 : τ.1 = 1
    · rw [if_pos (t24.mpr z1), t.1, t.2.1, pz_sub hae.1, decide_eq_true z1, Bool.true_and]
      by_cases z2 : τ.2.2 - τ.2.1 = 5
      · rw [if_pos (show nI (τ.2.2 - τ.2.1) = (5 : Int32) by rw [z2]; rfl), show decide (τ.2.2 - τ.2.1 = [c0, c1, c2, c3, c4].length) = true from decide_eq_true z2, Bool.true_and, pz_wb, pz_wb, pz_wb, pz_wb, pz_wb, pz_wb, Bool.and_true, pz_kN (by omega) (by omega), show nI τ.2.1 + (1 : Int32) = nI (τ.2.1 + 1) from pz_add _ 1, show nI τ.2.1 + (2 : Int32) = nI (τ.2.1 + 2) from pz_add _ 2, show nI τ.2.1 + (3 : Int32) = nI (τ.2.1 + 3) from pz_add _ 3, show nI τ.2.1 + (4 : Int32) = nI (τ.2.1 + 4) from pz_add _ 4]
        by_cases y0 : B τ.2.1 = c0
        · rw [if_pos ((eq0 c0 (by omega) b0).mpr y0), pz_kN (by omega) (by omega), decide_eq_true y0, Bool.true_and]
          by_cases y1 : B (τ.2.1 + 1) = c1
          · rw [if_pos ((eq 1 c1 (by omega) b1).mpr y1), pz_kN (by omega) (by omega), decide_eq_true y1, Bool.true_and]
            by_cases y2 : B (τ.2.1 + 1 + 1) = c2
            · rw [if_pos ((eq 2 c2 (by omega) b2).mpr y2), pz_kN (by omega) (by omega), decide_eq_true y2, Bool.true_and]
              by_cases y3 : B (τ.2.1 + 1 + 1 + 1) = c3
              · rw [if_pos ((eq 3 c3 (by omega) b3).mpr y3), pz_kN (by omega) (by omega), decide_eq_true y3, Bool.true_and]
                by_cases y4 : B (τ.2.1 + 1 + 1 + 1 + 1) = c4
                · rw [if_pos ((eq 4 c4 (by omega) b4).mpr y4), if_pos rfl, decide_eq_true y4]; rfl
                · rw [if_neg (fun w => y4 ((eq 4 c4 (by omega) b4).mp w)), decide_eq_false y4]; rfl
              · rw [if_neg (fun w => y3 ((eq 3 c3 (by omega) b3).mp w)), decide_eq_false y3, Bool.false_and]; rfl
            · rw [if_neg (fun w => y2 ((eq 2 c2 (by omega) b2).mp w)), decide_eq_false y2, Bool.false_and]; rfl
          · rw [if_neg (fun w => y1 ((eq 1 c1 (by omega) b1).mp w)), decide_eq_false y1, Bool.false_and]; rfl
        · rw [if_neg (fun w => y0 ((eq0 c0 (by omega) b0).mp w)), decide_eq_false y0, Bool.false_and]; rfl
      · rw [if_neg (show ¬ nI (τ.2.2 - τ.2.1) = (5 : Int32) from fun w => z2 ((nI_eq (b := 5) (by omega) (by omega)).mp w)), show decide (τ.2.2 - τ.2.1 = [c0, c1, c2, c3, c4].length) = false from decide_eq_false z2, Bool.false_and]; rfl
    · rw [if_neg (fun w => z1 (t24.mp w)), decide_eq_false z1, Bool.false_and]; rfl
  rw [f_X10_key, show f_X10_isWordAt 114 111 111 109 h = _ from W4 114 111 111 109 (by omega) (by omega) (by omega) (by omega) (by omega) h rfl, pz_b, show f_X10_isWordAt 109 105 115 115 h = _ from W4 109 105 115 115 (by omega) (by omega) (by omega) (by omega) (by omega) h rfl, pz_b, show f_X10_isLong 116 104 114 111 119 0 h = _ from W5 116 104 114 111 119 (by omega) (by omega) (by omega) (by omega) (by omega), pz_b, pz_ky]
  cases pz_wd B [114, 111, 111, 109] τ
  · cases pz_wd B [109, 105, 115, 115] τ
    · cases pz_wd B [116, 104, 114, 111, 119] τ
      · rfl
      · rfl
    · rfl
  · rfl

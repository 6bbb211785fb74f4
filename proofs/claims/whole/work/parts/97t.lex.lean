/-! PURE PART: the reference's lexer -/
def pz_msr (τ : Nat × Nat × Nat) : Nat := if τ.1 = 2 ∧ 4 < τ.2.2 - τ.2.1 then 4 else τ.1
def pz_t10 (h : kv_H) (B : Nat → Nat) (τ : Nat × Nat × Nat) : Prop := h 111 22 = nI τ.2.1 ∧ h 111 23 = nI τ.2.2 ∧ h 111 24 = nI (pz_msr τ) ∧ (τ.1 = 3 → h 111 26 = nI (B τ.2.1)) ∧ (τ.1 = 1 → h 111 26 = if τ.2.2 - τ.2.1 = 1 then nI (B τ.2.1) else 0) ∧ (pz_msr τ = 2 → h 111 25 = nI (pz_nv B (τ.2.2 - τ.2.1) τ.2.1 0))
theorem pz_dig10 {h : kv_H} {len i : Nat} {B : Nat → Nat} (l : pz_L10 h len B) (hl : len ≤ 96) (hB : ∀ k, k < len → B k < 256) (hi : i ≤ len) : f_X10_isDigit (nI i) h = some (if i < len ∧ pz_srt (B i) = 2 then 1 else 0, h) := by
  rw [f_X10_isDigit, l.1]
  by_cases z : len ≤ i
  · rw [if_pos (nI_le z (by omega)), if_neg (by omega)]
  · have b := hB i (by omega)
    rw [if_neg (nI_ge (by omega) (by omega)), pz_kN (by omega) (by omega), pz_cl (by omega), l.2 i (by omega), show f_X10_isIn (nI (B i)).toInt64 48 57 h = _ from pz_in (nI (B i)) 48 57 h, pz_b]
    have key : (nI (B i) < (48 : Int32) ∨ (57 : Int32) < nI (B i)) ↔ ¬ pz_srt (B i) = 2 := by
      have a1 : nI (B i) < (48 : Int32) ↔ B i < 48 := nI_ltI (b := 48) (by omega) (by omega)
      have a2 : (57 : Int32) < nI (B i) ↔ 57 < B i := nI_ltI (a := 57) (by omega) (by omega)
      rw [a1, a2]
      unfold pz_srt
      constructor
      · intro q
        by_cases w : B i < 97 ∨ 122 < B i
        · rw [if_pos w, if_pos q]; decide
        · rw [if_neg w]; decide
      · intro q
        apply Classical.byContradiction
        intro w
        exact q (by rw [if_pos (by omega), if_neg w])
    by_cases y : pz_srt (B i) = 2
    · rw [if_neg (fun w => key.mp w y), if_neg (by decide), if_pos ⟨by omega, y⟩]
    · rw [if_pos (key.mpr y), if_pos rfl, if_neg (fun w => y w.2)]
theorem pz_let10 {h : kv_H} {len i : Nat} {B : Nat → Nat} (l : pz_L10 h len B) (hl : len ≤ 96) (hB : ∀ k, k < len → B k < 256) (hi : i ≤ len) : f_X10_isLetter (nI i) h = some (if i < len ∧ pz_srt (B i) = 1 then 1 else 0, h) := by
  rw [f_X10_isLetter, l.1]
  by_cases z : len ≤ i
  · rw [if_pos (nI_le z (by omega)), if_neg (by omega)]
  · have b := hB i (by omega)
    rw [if_neg (nI_ge (by omega) (by omega)), pz_kN (by omega) (by omega), pz_cl (by omega), l.2 i (by omega), show f_X10_isIn (nI (B i)).toInt64 97 122 h = _ from pz_in (nI (B i)) 97 122 h, pz_b]
    have key : (nI (B i) < (97 : Int32) ∨ (122 : Int32) < nI (B i)) ↔ ¬ pz_srt (B i) = 1 := by
      have a1 : nI (B i) < (97 : Int32) ↔ B i < 97 := nI_ltI (b := 97) (by omega) (by omega)
      have a2 : (122 : Int32) < nI (B i) ↔ 122 < B i := nI_ltI (a := 122) (by omega) (by omega)
      rw [a1, a2]
      unfold pz_srt
      constructor
      · intro q
        rw [if_pos q]; split <;> decide
      · intro q
        apply Classical.byContradiction
        intro w
        exact q (by rw [if_neg w])
    by_cases y : pz_srt (B i) = 1
    · rw [if_neg (fun w => key.mp w y), if_neg (by decide), if_pos ⟨by omega, y⟩]
    · rw [if_pos (key.mpr y), if_pos rfl, if_neg (fun w => y w.2)]
theorem pz_dig10T {h : kv_H} {len i : Nat} {B : Nat → Nat} (l : pz_L10 h len B) (hl : len ≤ 96) (hB : ∀ k, k < len → B k < 256) (hi : i < len) (z : pz_srt (B i) = 2) : f_X10_isDigit (nI i) h = some (1, h) := by
  rw [pz_dig10 l hl hB (by omega), if_pos ⟨hi, z⟩]
theorem pz_dig10F {h : kv_H} {len i : Nat} {B : Nat → Nat} (l : pz_L10 h len B) (hl : len ≤ 96) (hB : ∀ k, k < len → B k < 256) (hi : i ≤ len) (z : ¬ (i < len ∧ pz_srt (B i) = 2)) : f_X10_isDigit (nI i) h = some (0, h) := by
  rw [pz_dig10 l hl hB hi, if_neg z]
theorem pz_let10T {h : kv_H} {len i : Nat} {B : Nat → Nat} (l : pz_L10 h len B) (hl : len ≤ 96) (hB : ∀ k, k < len → B k < 256) (hi : i < len) (z : pz_srt (B i) = 1) : f_X10_isLetter (nI i) h = some (1, h) := by
  rw [pz_let10 l hl hB (by omega), if_pos ⟨hi, z⟩]
theorem pz_let10F {h : kv_H} {len i : Nat} {B : Nat → Nat} (l : pz_L10 h len B) (hl : len ≤ 96) (hB : ∀ k, k < len → B k < 256) (hi : i ≤ len) (z : ¬ (i < len ∧ pz_srt (B i) = 1)) : f_X10_isLetter (nI i) h = some (0, h) := by
  rw [pz_let10 l hl hB hi, if_neg z]
theorem pz_nvS (B : Nat → Nat) : ∀ d i v, pz_nv B (d + 1) i v = 10 * pz_nv B d i v + B (i + d) - 48 := by
  intro d
  induction d with
  | zero => intro i v; rfl
  | succ d ih =>
    intro i v
    rw [pz_nv, ih (i + 1) (10 * v + B i - 48), show i + 1 + d = i + (d + 1) from by omega]; rfl
theorem pz_nvB {B : Nat → Nat} {i : Nat} : ∀ d, (∀ k, i ≤ k → k < i + d → pz_srt (B k) = 2) → pz_nv B d i 0 < 10 ^ d := by
  intro d
  induction d with
  | zero => intro _; exact Nat.one_pos
  | succ d ih =>
    intro h
    have a := ih (fun k h1 h2 => h k h1 (by omega))
    have b := h (i + d) (by omega) (by omega)
    have c : B (i + d) ≤ 57 := by
      unfold pz_srt at b
      by_cases w : B (i + d) < 97 ∨ 122 < B (i + d)
      · rw [if_pos w] at b
        by_cases y : B (i + d) < 48 ∨ 57 < B (i + d)
        · rw [if_pos y] at b; cases b
        · omega
      · rw [if_neg w] at b; cases b
    rw [pz_nvS, Nat.pow_succ]
    omega
theorem pz_up2 (h : kv_H) (c b : Nat) (v w : Int32) : kv_up (kv_up h c b v) c b w = kv_up h c b w := by
  funext a k; rw [pz_up, pz_up, pz_up]
  by_cases q1 : a = c
  · rw [if_pos q1, if_pos q1, if_pos q1]
    by_cases q2 : k = b
    · rw [if_pos q2, if_pos q2]
    · rw [if_neg q2, if_neg q2, if_neg q2]
  · rw [if_neg q1, if_neg q1, if_neg q1]
theorem pz_ups (h : kv_H) (c b : Nat) (v : Int32) (e : h c b = v) : kv_up h c b v = h := by
  funext a k; rw [pz_up]
  by_cases q1 : a = c
  · by_cases q2 : k = b
    · rw [if_pos q1, if_pos q2, q1, q2, e]
    · rw [if_pos q1, if_neg q2]
  · rw [if_neg q1]
theorem pz_L10u {h : kv_H} {len : Nat} {B : Nat → Nat} (l : pz_L10 h len B) (b : Nat) (v : Int32) (q : b ≠ 21) : pz_L10 (kv_up h 111 b v) len B := ⟨by rw [pz_upeq, pz_upd, if_neg (by omega)]; exact l.1, fun k hk => by rw [pz_upne (by omega)]; exact l.2 k hk⟩
theorem pz_skip10 {len : Nat} {B : Nat → Nat} (hl : len ≤ 96) (hB : ∀ k, k < len → B k < 256) (c1 c2 : Int32) (C : kv_H → Option (Unit × kv_H)) : ∀ d i fu (h : kv_H), i + d = len → d < fu → pz_L10 h len B → h 111 23 = nI i → f_X10_nextToken_L34 c1 c2 fu h C = C (kv_up h 111 23 (nI (pz_sk B d i))) := by
  intro d
  induction d with
  | zero =>
    intro i fu h e1 e2 l e
    obtain ⟨fu, rfl⟩ : ∃ f, fu = f + 1 := ⟨fu - 1, by omega⟩
    rw [f_X10_nextToken_L34, l.1, e, if_pos (nI_le (by omega) (by omega)), pz_sk, pz_ups h _ _ _ e]
  | succ d ih =>
    intro i fu h e1 e2 l e
    obtain ⟨fu, rfl⟩ : ∃ f, fu = f + 1 := ⟨fu - 1, by omega⟩
    have := hB i (by omega)
    rw [f_X10_nextToken_L34, l.1, e, if_neg (nI_ge (by omega) (by omega)), pz_kN (by omega) (by omega), pz_cl (by omega), l.2 i (by omega), pz_sk]
    by_cases z : B i = 32
    · rw [if_pos z, if_pos (show nI (B i) = (32 : Int32) from by rw [z]; rfl), pz_hl, nI_1, ih (i + 1) fu _ (by omega) (by omega) (pz_L10u l 23 _ (by omega)) (by rw [pz_upeq, pz_upd, if_pos rfl]), pz_up2]
    · rw [if_neg z, if_neg (show ¬ nI (B i) = (32 : Int32) from fun y => z ((nI_eq (b := 32) (by omega) (by omega)).mp y)), pz_ups h _ _ _ e]
theorem pz_let10L {len : Nat} {B : Nat → Nat} (hl : len ≤ 96) (hB : ∀ k, k < len → B k < 256) (c1 : Int32) (C : kv_H → Option (Unit × kv_H)) : ∀ d i fu (h : kv_H), i + d = len → d < fu → pz_L10 h len B → h 111 23 = nI i → f_X10_nextToken_L128 c1 fu h C = C (kv_up h 111 23 (nI (pz_rn B 1 d i))) := by
  intro d
  induction d with
  | zero =>
    intro i fu h e1 e2 l e
    obtain ⟨fu, rfl⟩ : ∃ f, fu = f + 1 := ⟨fu - 1, by omega⟩
    rw [f_X10_nextToken_L128, e, pz_let10F l hl hB (by omega) (by omega), pz_b, if_pos rfl, pz_rn, pz_ups h _ _ _ e]
  | succ d ih =>
    intro i fu h e1 e2 l e
    obtain ⟨fu, rfl⟩ : ∃ f, fu = f + 1 := ⟨fu - 1, by omega⟩
    rw [f_X10_nextToken_L128, e, pz_rn]
    by_cases z : pz_srt (B i) = 1
    · rw [pz_let10T l hl hB (by omega) z, pz_b, if_neg (by decide), if_pos z, pz_hl, e, nI_1, ih (i + 1) fu _ (by omega) (by omega) (pz_L10u l 23 _ (by omega)) (by rw [pz_upeq, pz_upd, if_pos rfl]), pz_up2]
    · rw [pz_let10F l hl hB (by omega) (fun w => z w.2), pz_b, if_pos rfl, if_neg z, pz_ups h _ _ _ e]
theorem pz_dig10L {len a : Nat} {B : Nat → Nat} (hl : len ≤ 96) (hB : ∀ k, k < len → B k < 256) (c1 : Int32) (C : kv_H → Option (Unit × kv_H)) : ∀ d i fu (h : kv_H), i + d = len → d < fu → a ≤ i → pz_L10 h len B → h 111 22 = nI a → h 111 23 = nI i → h 111 25 = nI (pz_nv B (min (i - a) 4) a 0) → (∀ k, a ≤ k → k < i → pz_srt (B k) = 2) → ∃ h', f_X10_nextToken_L214 c1 fu h C = C h' ∧ h' 111 23 = nI (pz_rn B 2 d i) ∧ h' 111 25 = nI (pz_nv B (min (pz_rn B 2 d i - a) 4) a 0) ∧ (∀ x, x ≠ 111 → h' x = h x) ∧ ∀ b, b ≠ 23 → b ≠ 25 → h' 111 b = h 111 b := by
  intro d
  induction d with
  | zero =>
    intro i fu h e1 e2 ai l e22 e e25 hd
    obtain ⟨fu, rfl⟩ : ∃ f, fu = f + 1 := ⟨fu - 1, by omega⟩
    refine ⟨h, ?_, e, e25, fun _ _ => rfl, fun _ _ _ => rfl⟩
    rw [f_X10_nextToken_L214, e, pz_dig10F l hl hB (by omega) (by omega), pz_b, if_pos rfl]
  | succ d ih =>
    intro i fu h e1 e2 ai l e22 e e25 hd
    obtain ⟨fu, rfl⟩ : ∃ f, fu = f + 1 := ⟨fu - 1, by omega⟩
    rw [f_X10_nextToken_L214, e, pz_rn]
    by_cases z : pz_srt (B i) = 2
    · rw [pz_dig10T l hl hB (by omega) z, pz_b, if_neg (by decide), if_pos z, pz_jn, e]
      have hd' : ∀ k, a ≤ k → k < i + 1 → pz_srt (B k) = 2 := fun k h1 h2 => by
        by_cases w : k = i
        · rw [w]; exact z
        · exact hd k h1 (by omega)
      have bi : 48 ≤ B i ∧ B i < 256 := by
        refine ⟨?_, hB i (by omega)⟩
        unfold pz_srt at z
        by_cases w : B i < 97 ∨ 122 < B i
        · rw [if_pos w] at z
          by_cases y : B i < 48 ∨ 57 < B i
          · rw [if_pos y] at z; cases z
          · omega
        · rw [if_neg w] at z; cases z
      have vb : pz_nv B (min (i - a) 4) a 0 < 10000 := Nat.lt_of_lt_of_le (pz_nvB _ (fun k h1 h2 => hd k h1 (by omega))) (Nat.pow_le_pow_right (n := 10) (i := min (i - a) 4) (j := 4) (by omega) (Nat.min_le_right _ _))
      have st : ∀ J : Int32 → kv_H → Option (Unit × kv_H), (if (4 : Int32) ≤ nI i - h 111 22 then J (h 111 25) h else kv_k (nI i) 96 (J (10 * h 111 25 + h 130 (nI i).toNatClampNeg - 48) h)) = J (nI (pz_nv B (min (i + 1 - a) 4) a 0)) h := by
        intro J
        rw [e22, e25, pz_sub ai]
        by_cases w : 4 ≤ i - a
        · rw [if_pos (show (4 : Int32) ≤ nI (i - a) from nI_le (a := 4) w (by omega)), show min (i - a) 4 = 4 from Nat.min_eq_right w, show min (i + 1 - a) 4 = 4 from Nat.min_eq_right (by omega)]
        · rw [if_neg (show ¬ (4 : Int32) ≤ nI (i - a) from nI_ge (b := 4) (by omega) (by omega)), pz_kN (by omega) (by omega), pz_cl (by omega), l.2 i (by omega), show (10 : Int32) = nI 10 from rfl, pz_mul, pz_add, show (48 : Int32) = nI 48 from rfl, pz_sub (by omega), show min (i - a) 4 = i - a from Nat.min_eq_left (by omega), show min (i + 1 - a) 4 = (i - a) + 1 from by rw [Nat.min_eq_left (by omega)]; omega, pz_nvS, show a + (i - a) = i from by omega]
      obtain ⟨g, eg⟩ : ∃ g, g = kv_up (kv_up h 111 25 (nI (pz_nv B (min (i + 1 - a) 4) a 0))) 111 23 (nI (i + 1)) := ⟨_, rfl⟩
      obtain ⟨h', x1, x2, x3, x4, x5⟩ := ih (i + 1) fu g (by omega) (by omega) (by omega) (by rw [eg]; exact pz_L10u (pz_L10u l 25 _ (by omega)) 23 _ (by omega)) (by rw [eg, pz_upeq, pz_upd, if_neg (by omega), pz_upeq, pz_upd, if_neg (by omega)]; exact e22) (by rw [eg, pz_upeq, pz_upd, if_pos rfl]) (by rw [eg, pz_upeq, pz_upd, if_neg (by omega), pz_upeq, pz_upd, if_pos rfl]) hd'
      refine ⟨h', ?_, x2, x3, fun x q => by rw [x4 x q, eg, pz_upne q, pz_upne q], fun b b1 b2 => by rw [x5 b b1 b2, eg, pz_upeq, pz_upd, if_neg b1, pz_upeq, pz_upd, if_neg b2]⟩
      refine (st (fun y19 h20 => kv_hl (kv_up h20 111 25 y19) (fun h21 => kv_hl (kv_up h21 111 23 ((h21 111 23) + 1)) (fun h22 => f_X10_nextToken_L214 c1 fu h22 C)))).trans ?_
      rw [pz_hl, show kv_up h 111 25 (nI (pz_nv B (min (i + 1 - a) 4) a 0)) 111 23 = nI i from by rw [pz_upeq, pz_upd, if_neg (by omega)]; exact e, nI_1, pz_hl, ← eg]; exact x1
    · rw [pz_dig10F l hl hB (by omega) (fun w => z w.2), pz_b, if_pos rfl, if_neg z]
      exact ⟨h, rfl, e, e25, fun _ _ => rfl, fun _ _ _ => rfl⟩

/-! PURE PART: the lexer -/
def pz_srt (c : Nat) : Nat := if c < 97 ∨ 122 < c then (if c < 48 ∨ 57 < c then 3 else 2) else 1
def pz_sk (B : Nat → Nat) : Nat → Nat → Nat
  | 0, i => i
  | d + 1, i => if B i = 32 then pz_sk B d (i + 1) else i
def pz_rn (B : Nat → Nat) (s : Nat) : Nat → Nat → Nat
  | 0, i => i
  | d + 1, i => if pz_srt (B i) = s then pz_rn B s d (i + 1) else i
def pz_nv (B : Nat → Nat) : Nat → Nat → Nat → Nat
  | 0, _, v => v
  | d + 1, i, v => pz_nv B d (i + 1) (10 * v + B i - 48)
theorem pz_skB (B : Nat → Nat) : ∀ d i, i ≤ pz_sk B d i ∧ pz_sk B d i ≤ i + d := by
  intro d
  induction d with
  | zero => intro i; exact ⟨Nat.le_refl _, Nat.le_refl _⟩
  | succ d ih => intro i; rw [pz_sk]; have := ih (i + 1); split <;> omega
theorem pz_rnB (B : Nat → Nat) (s : Nat) : ∀ d i, i ≤ pz_rn B s d i ∧ pz_rn B s d i ≤ i + d ∧ ∀ k, i ≤ k → k < pz_rn B s d i → pz_srt (B k) = s := by
  intro d
  induction d with
  | zero => intro i; exact ⟨Nat.le_refl _, Nat.le_refl _, fun k h1 h2 => by rw [pz_rn] at h2; omega⟩
  | succ d ih =>
    intro i
    rw [pz_rn]
    have := ih (i + 1)
    by_cases z : pz_srt (B i) = s
    · rw [if_pos z]
      refine ⟨by omega, by omega, fun k h1 h2 => ?_⟩
      by_cases y : k = i
      · rw [y]; exact z
      · exact this.2.2 k (by omega) h2
    · rw [if_neg z]
      exact ⟨Nat.le_refl _, by omega, fun k h1 h2 => by omega⟩
/-- a token: sort, start, end -/
def pz_nx (B : Nat → Nat) (len s e : Nat) : Nat × Nat × Nat :=
  if pz_sk B (len - e) e = len then (0, len, len)
  else if pz_srt (B (pz_sk B (len - e) e)) = 3 then (3, pz_sk B (len - e) e, pz_sk B (len - e) e + 1)
  else (if (s = 1 ∨ s = 2) ∧ pz_sk B (len - e) e = e then 4 else pz_srt (B (pz_sk B (len - e) e)), pz_sk B (len - e) e, pz_rn B (pz_srt (B (pz_sk B (len - e) e))) (len - (pz_sk B (len - e) e + 1)) (pz_sk B (len - e) e + 1))
def pz_L9 (h : kv_H) (len : Nat) (B : Nat → Nat) : Prop := h 41 1 = nI len ∧ ∀ k, k < len → h 42 k = nI (B k)
def pz_L10 (h : kv_H) (len : Nat) (B : Nat → Nat) : Prop := h 111 21 = nI len ∧ ∀ k, k < len → h 130 k = nI (B k)
def pz_t9 (h : kv_H) (τ : Nat × Nat × Nat) : Prop := h 41 6 = nI τ.1 ∧ h 41 7 = nI τ.2.1 ∧ h 41 8 = nI τ.2.2
theorem pz_srtB (c : Nat) : 1 ≤ pz_srt c ∧ pz_srt c ≤ 3 := by unfold pz_srt; (repeat' split) <;> omega
theorem pz_sort9 {c : Nat} (hc : c < 256) (h : kv_H) : f_X5_sortOf (nI c) h = some (nI (pz_srt c), h) := by
  unfold pz_srt
  rw [f_X5_sortOf, pz_jn]
  have J : (if nI c < (48 : Int32) then (some ((3 : Int32), h)) else (if (57 : Int32) < nI c then (some (3, h)) else (some (2, h)))) = some (nI (if c < 48 ∨ 57 < c then 3 else 2), h) := by
    by_cases z1 : c < 48
    · rw [if_pos (show nI c < (48 : Int32) from nI_lt (b := 48) z1 (by omega)), if_pos (Or.inl z1)]; rfl
    · rw [if_neg (show ¬ nI c < (48 : Int32) from nI_nlt (b := 48) (by omega) (by omega))]
      by_cases z2 : 57 < c
      · rw [if_pos (show (57 : Int32) < nI c from nI_lt (a := 57) z2 (by omega)), if_pos (Or.inr z2)]; rfl
      · rw [if_neg (show ¬ (57 : Int32) < nI c from nI_nlt (a := 57) (by omega) (by omega)), if_neg (by omega)]; rfl
  by_cases z1 : c < 97
  · rw [if_pos (show nI c < (97 : Int32) from nI_lt (b := 97) z1 (by omega)), if_pos (Or.inl z1)]; exact J
  · rw [if_neg (show ¬ nI c < (97 : Int32) from nI_nlt (b := 97) (by omega) (by omega))]
    by_cases z2 : 122 < c
    · rw [if_pos (show (122 : Int32) < nI c from nI_lt (a := 122) z2 (by omega)), if_pos (Or.inr z2)]; exact J
    · rw [if_neg (show ¬ (122 : Int32) < nI c from nI_nlt (a := 122) (by omega) (by omega)), if_neg (by omega)]; rfl
theorem pz_skip9 {h : kv_H} {len : Nat} {B : Nat → Nat} (l : pz_L9 h len B) (hl : len ≤ 96) (hB : ∀ k, k < len → B k < 256) (c1 : Int32) (C : Int32 → kv_H → Option (Unit × kv_H)) : ∀ d i fu, i + d = len → d < fu → f_X5_advance_L27 c1 fu (nI i) h C = C (nI (pz_sk B d i)) h := by
  intro d
  induction d with
  | zero =>
    intro i fu e1 e2
    obtain ⟨fu, rfl⟩ : ∃ f, fu = f + 1 := ⟨fu - 1, by omega⟩
    rw [f_X5_advance_L27, l.1, if_pos (nI_le (by omega) (by omega))]; rfl
  | succ d ih =>
    intro i fu e1 e2
    obtain ⟨fu, rfl⟩ : ∃ f, fu = f + 1 := ⟨fu - 1, by omega⟩
    have := hB i (by omega)
    rw [f_X5_advance_L27, l.1, if_neg (nI_ge (by omega) (by omega)), pz_kN (by omega) (by omega), pz_cl (by omega), l.2 i (by omega), pz_sk]
    by_cases z : B i = 32
    · rw [if_pos z, if_pos (show nI (B i) = (32 : Int32) from by rw [z]; rfl), nI_1]; exact ih (i + 1) fu (by omega) (by omega)
    · rw [if_neg z, if_neg (show ¬ nI (B i) = (32 : Int32) from fun y => z ((nI_eq (b := 32) (by omega) (by omega)).mp y))]
theorem pz_run9 {len s : Nat} {B : Nat → Nat} (hl : len ≤ 96) (hB : ∀ k, k < len → B k < 256) (hs : s ≤ 3) (c3 : Int32) (C : kv_H → Option (Unit × kv_H)) : ∀ d i fu (h : kv_H), i + d = len → d < fu → pz_L9 h len B → h 41 6 = nI s → h 41 8 = nI i → f_X5_advance_L126 c3 fu h C = C (kv_up h 41 8 (nI (pz_rn B s d i))) := by
  have same : ∀ (h : kv_H) (v : Int32), h 41 8 = v → kv_up h 41 8 v = h := by
    intro h v e; funext a b; rw [pz_up]
    by_cases q1 : a = 41
    · by_cases q2 : b = 8
      · rw [if_pos q1, if_pos q2, q1, q2, e]
      · rw [if_pos q1, if_neg q2]
    · rw [if_neg q1]
  intro d
  induction d with
  | zero =>
    intro i fu h e1 e2 l e6 e8
    obtain ⟨fu, rfl⟩ : ∃ f, fu = f + 1 := ⟨fu - 1, by omega⟩
    rw [f_X5_advance_L126, l.1, e8, if_pos (nI_le (by omega) (by omega)), pz_rn, same h _ e8]
  | succ d ih =>
    intro i fu h e1 e2 l e6 e8
    obtain ⟨fu, rfl⟩ : ∃ f, fu = f + 1 := ⟨fu - 1, by omega⟩
    have sb := pz_srtB (B i)
    rw [f_X5_advance_L126, l.1, e8, if_neg (nI_ge (by omega) (by omega)), pz_kN (by omega) (by omega), pz_cl (by omega), l.2 i (by omega), pz_sort9 (hB i (by omega)), pz_b, e6, pz_rn]
    by_cases z : pz_srt (B i) = s
    · rw [if_pos z, if_pos (by rw [z]), pz_hl, e8, nI_1]
      have := ih (i + 1) fu (kv_up h 41 8 (nI (i + 1))) (by omega) (by omega) ⟨by rw [pz_upeq, pz_upd, if_neg (by omega)]; exact l.1, fun k hk => by rw [pz_upne (by omega)]; exact l.2 k hk⟩ (by rw [pz_upeq, pz_upd, if_neg (by omega)]; exact e6) (by rw [pz_upeq, pz_upd, if_pos rfl])
      rw [this]
      congr 1
      funext a b
      rw [pz_up, pz_up, pz_up]
      by_cases q1 : a = 41
      · rw [if_pos q1, if_pos q1, if_pos q1]
        by_cases q2 : b = 8
        · rw [if_pos q2, if_pos q2]
        · rw [if_neg q2, if_neg q2, if_neg q2]
      · rw [if_neg q1, if_neg q1, if_neg q1]
    · rw [if_neg z, if_neg (fun y => z ((nI_eq (by omega) (by omega)).mp y)), same h _ e8]
theorem pz_adv9 {h : kv_H} {len : Nat} {B : Nat → Nat} {τ : Nat × Nat × Nat} (l : pz_L9 h len B) (hl : len ≤ 96) (hB : ∀ k, k < len → B k < 256) (t : pz_t9 h τ) (hs : τ.1 ≤ 4) (he : τ.2.2 ≤ len) : ∃ h', f_X5_advance h = some ((), h') ∧ pz_t9 h' (pz_nx B len τ.1 τ.2.2) ∧ (∀ a, a ≠ 41 → h' a = h a) ∧ ∀ b, b ≠ 6 → b ≠ 7 → b ≠ 8 → h' 41 b = h 41 b := by
  obtain ⟨s, a, e⟩ := τ
  obtain ⟨t6, t7, t8⟩ := t
  dsimp only at t6 t7 t8 hs he
  obtain ⟨z, ez⟩ : ∃ z, z = pz_sk B (len - e) e := ⟨_, rfl⟩
  have zb := pz_skB B (len - e) e
  rw [← ez] at zb
  have sk := fun c1 C => pz_skip9 l hl hB c1 C (len - e) e kv_fu (by omega) (by rw [show kv_fu = 5000 from rfl]; omega)
  rw [← ez] at sk
  -- the road with a given y6
  obtain ⟨y, ey⟩ : ∃ y : Nat, y = if (s = 1 ∨ s = 2) ∧ z = e then 1 else 0 := ⟨_, rfl⟩
  have y1 : y ≤ 1 := by rw [ey]; split <;> omega
  obtain ⟨g, eg⟩ : ∃ g, g = kv_up (kv_up h 41 7 (nI z)) 41 8 (nI z) := ⟨_, rfl⟩
  have body : f_X5_advance h = (if nI z < (g 41 1) then (kv_k (nI z) 96 (kv_b (f_X5_sortOf (g 42 (nI z).toNatClampNeg) g) (fun r11 h10 =>
          kv_hl (kv_up h10 41 6 r11) (fun h12 =>
          kv_hl (kv_up h12 41 8 ((h12 41 8) + 1)) (fun h13 =>
          if (h13 41 6) = (3 : Int32) then (some ((), h13))
          else (f_X5_advance_L126 (nI y) kv_fu  h13 (fun  h17 =>
            if nI y = 0 then (some ((), h17))
              else (kv_hl (kv_up h17 41 6 4) (fun h18 =>
                some ((), h18))))))))))
        else (kv_hl (kv_up g 41 6 0) (fun h19 =>
          some ((), h19)))) := by
    rw [f_X5_advance, pz_jn, pz_jn, t6]
    by_cases q1 : s = 1
    · rw [if_pos (show nI s = (1 : Int32) by rw [q1]; rfl)]
      dsimp only
      rw [t8, pz_vl, sk, pz_jn, pz_jn, if_neg (by decide), t8]
      by_cases q2 : z = e
      · rw [if_pos (by rw [q2]), show nI y = 1 from by rw [ey, if_pos ⟨Or.inl q1, q2⟩]; rfl, eg]; rfl
      · rw [if_neg (fun w => q2 ((nI_eq (by omega) (by omega)).mp w)), show nI y = 0 from by rw [ey, if_neg (fun w => q2 w.2)]; rfl, eg]; rfl
    · rw [if_neg (show ¬ nI s = (1 : Int32) from fun w => q1 ((nI_eq (b := 1) (by omega) (by omega)).mp w))]
      by_cases q3 : s = 2
      · rw [if_pos (show nI s = (2 : Int32) by rw [q3]; rfl)]
        dsimp only
        rw [t8, pz_vl, sk, pz_jn, pz_jn, if_neg (by decide), t8]
        by_cases q2 : z = e
        · rw [if_pos (by rw [q2]), show nI y = 1 from by rw [ey, if_pos ⟨Or.inr q3, q2⟩]; rfl, eg]; rfl
        · rw [if_neg (fun w => q2 ((nI_eq (by omega) (by omega)).mp w)), show nI y = 0 from by rw [ey, if_neg (fun w => q2 w.2)]; rfl, eg]; rfl
      · rw [if_neg (show ¬ nI s = (2 : Int32) from fun w => q3 ((nI_eq (b := 2) (by omega) (by omega)).mp w))]
        dsimp only
        rw [t8, pz_vl, sk, pz_jn, pz_jn, if_pos rfl, show nI y = 0 from by rw [ey, if_neg (by omega)]; rfl, eg]; rfl
  have g1 : g 41 1 = nI len := by rw [eg, pz_upeq, pz_upd, if_neg (by omega), pz_upeq, pz_upd, if_neg (by omega)]; exact l.1
  have fg : ∀ a, a ≠ 41 → g a = h a := fun a q => by rw [eg, pz_upne q, pz_upne q]
  have fg41 : ∀ b, b ≠ 7 → b ≠ 8 → g 41 b = h 41 b := fun b q1 q2 => by rw [eg, pz_upeq, pz_upd, if_neg q2, pz_upeq, pz_upd, if_neg q1]
  rw [body, g1]
  unfold pz_nx
  rw [← ez]
  by_cases q : z = len
  · rw [if_neg (nI_nlt (by omega) (by omega)), pz_hl, if_pos q]
    refine ⟨kv_up g 41 6 0, rfl, ⟨?_, ?_, ?_⟩, fun a q => by rw [pz_upne q]; exact fg a q, fun b b1 b2 b3 => by rw [pz_upeq, pz_upd, if_neg b1]; exact fg41 b b2 b3⟩
    · rw [pz_upeq, pz_upd, if_pos rfl]; rfl
    · rw [pz_upeq, pz_upd, if_neg (by omega), eg, pz_upeq, pz_upd, if_neg (by omega), pz_upeq, pz_upd, if_pos rfl, q]
    · rw [pz_upeq, pz_upd, if_neg (by omega), eg, pz_upeq, pz_upd, if_pos rfl, q]
  · have zl : z < len := by omega
    have sb := pz_srtB (B z)
    obtain ⟨k, ek⟩ : ∃ k, k = kv_up (kv_up g 41 6 (nI (pz_srt (B z)))) 41 8 (nI (z + 1)) := ⟨_, rfl⟩
    have k6 : k 41 6 = nI (pz_srt (B z)) := by rw [ek, pz_upeq, pz_upd, if_neg (by omega), pz_upeq, pz_upd, if_pos rfl]
    have k7 : k 41 7 = nI z := by rw [ek, pz_upeq, pz_upd, if_neg (by omega), pz_upeq, pz_upd, if_neg (by omega), eg, pz_upeq, pz_upd, if_neg (by omega), pz_upeq, pz_upd, if_pos rfl]
    have k8 : k 41 8 = nI (z + 1) := by rw [ek, pz_upeq, pz_upd, if_pos rfl]
    have fk : ∀ a, a ≠ 41 → k a = h a := fun a q => by rw [ek, pz_upne q, pz_upne q]; exact fg a q
    have fk41 : ∀ b, b ≠ 6 → b ≠ 7 → b ≠ 8 → k 41 b = h 41 b := fun b b1 b2 b3 => by rw [ek, pz_upeq, pz_upd, if_neg b3, pz_upeq, pz_upd, if_neg b1]; exact fg41 b b2 b3
    rw [if_pos (nI_lt zl (by omega)), pz_kN (by omega) (by omega), pz_cl (by omega), fg 42 (by omega), l.2 z zl, pz_sort9 (hB z zl), pz_b, pz_hl, show kv_up g 41 6 (nI (pz_srt (B z))) 41 8 = nI z from by rw [pz_upeq, pz_upd, if_neg (by omega), eg, pz_upeq, pz_upd, if_pos rfl], nI_1, pz_hl, ← ek, k6, if_neg q]
    by_cases q3 : pz_srt (B z) = 3
    · rw [if_pos (show nI (pz_srt (B z)) = (3 : Int32) by rw [q3]; rfl), if_pos q3]
      exact ⟨k, rfl, ⟨by rw [k6, q3], k7, k8⟩, fk, fk41⟩
    · rw [if_neg (show ¬ nI (pz_srt (B z)) = (3 : Int32) from fun w => q3 ((nI_eq (b := 3) (by omega) (by omega)).mp w)), if_neg q3]
      rw [pz_run9 hl hB (by omega) (nI y) _ (len - (z + 1)) (z + 1) kv_fu k (by omega) (by rw [show kv_fu = 5000 from rfl]; omega) ⟨by rw [fk41 1 (by omega) (by omega) (by omega)]; exact l.1, fun j hj => by rw [fk 42 (by omega)]; exact l.2 j hj⟩ k6 k8]
      obtain ⟨m, em⟩ : ∃ m, m = kv_up k 41 8 (nI (pz_rn B (pz_srt (B z)) (len - (z + 1)) (z + 1))) := ⟨_, rfl⟩
      rw [← em]
      have m8 : m 41 8 = nI (pz_rn B (pz_srt (B z)) (len - (z + 1)) (z + 1)) := by rw [em, pz_upeq, pz_upd, if_pos rfl]
      have m7 : m 41 7 = nI z := by rw [em, pz_upeq, pz_upd, if_neg (by omega)]; exact k7
      have m6 : m 41 6 = nI (pz_srt (B z)) := by rw [em, pz_upeq, pz_upd, if_neg (by omega)]; exact k6
      have fm : ∀ a, a ≠ 41 → m a = h a := fun a q => by rw [em, pz_upne q]; exact fk a q
      have fm41 : ∀ b, b ≠ 6 → b ≠ 7 → b ≠ 8 → m 41 b = h 41 b := fun b b1 b2 b3 => by rw [em, pz_upeq, pz_upd, if_neg b3]; exact fk41 b b1 b2 b3
      by_cases q4 : (s = 1 ∨ s = 2) ∧ z = e
      · rw [if_pos q4, ey, if_pos q4, if_neg (by decide), pz_hl]
        refine ⟨kv_up m 41 6 4, rfl, ⟨?_, ?_, ?_⟩, fun a q => by rw [pz_upne q]; exact fm a q, fun b b1 b2 b3 => by rw [pz_upeq, pz_upd, if_neg b1]; exact fm41 b b1 b2 b3⟩
        · rw [pz_upeq, pz_upd, if_pos rfl]; rfl
        · rw [pz_upeq, pz_upd, if_neg (by omega)]; exact m7
        · rw [pz_upeq, pz_upd, if_neg (by omega)]; exact m8
      · rw [if_neg q4, ey, if_neg q4, if_pos (show nI 0 = (0 : Int32) from rfl)]
        exact ⟨m, rfl, ⟨m6, m7, m8⟩, fm, fm41⟩

/-! PURE PART: the class chooses within -/
theorem pz_xsb {s b : Nat} (hs : s < 256) (hb : b < 8) (h : s.testBit b = true) : s - 2 ^ b = s ^^^ 2 ^ b ∧ 2 ^ b ≤ s := by
  have : ∀ x : Fin 256, ∀ b : Fin 8, x.val.testBit b.val = true → x.val - 2 ^ b.val = x.val ^^^ 2 ^ b.val ∧ 2 ^ b.val ≤ x.val := by decide +kernel
  exact this ⟨s, hs⟩ ⟨b, hb⟩ h
theorem pz_ab0 {s b : Nat} (hs : s < 256) (hb : b < 8) : s &&& 2 ^ b = 0 ↔ ¬ s.testBit b = true := by
  have : ∀ x : Fin 256, ∀ b : Fin 8, x.val &&& 2 ^ b.val = 0 ↔ ¬ x.val.testBit b.val = true := by decide +kernel
  exact this ⟨s, hs⟩ ⟨b, hb⟩
def pz_mi2 (t : Nat → Nat) (b s : Nat) : Nat := if t (s ^^^ 2 ^ b) < t s then t (s ^^^ 2 ^ b) else t s
theorem pz_cw56 {q n N b : Nat} {c3 : Int32} {t : Nat → Nat} (hn : n ≤ 8) (eN : N = 2 ^ n) (hb : b < n) (ht : ∀ s, s < N → t s < 2147483648) (C : kv_H → Option (Unit × kv_H)) : ∀ (d v : Nat) (h : kv_H) (fu : Nat), v + d = N → d < fu → (∀ s, s < N → h 46 s = nI (if s.testBit b = true ∧ s < v then pz_mi2 t b s else t s)) → ∃ h', f_X2_chooseWithin_L56 q (nI N) c3 (nI (2 ^ b)) fu (nI v) h C = C h' ∧ (∀ s, s < N → h' 46 s = nI (if s.testBit b = true then pz_mi2 t b s else t s)) ∧ ∀ a, a ≠ 46 → h' a = h a := by
  have N256 : N ≤ 256 := by rw [eN]; exact pz_p256 hn
  intro d
  induction d with
  | zero =>
    intro v h fu e1 e2 hh
    obtain ⟨fu, rfl⟩ : ∃ f, fu = f + 1 := ⟨fu - 1, by omega⟩
    refine ⟨h, ?_, fun s hs => ?_, fun _ _ => rfl⟩
    · rw [f_X2_chooseWithin_L56, if_pos (nI_le (by omega) (by omega))]
    · rw [hh s hs]
      by_cases y : s.testBit b = true
      · rw [if_pos ⟨y, by omega⟩, if_pos y]
      · rw [if_neg (fun z => y z.1), if_neg y]
  | succ d ih =>
    intro v h fu e1 e2 hh
    obtain ⟨fu, rfl⟩ : ∃ f, fu = f + 1 := ⟨fu - 1, by omega⟩
    have ab := pz_ab0 (s := v) (by omega) (show b < 8 by omega)
    by_cases e3 : v.testBit b = true
    · have xs := pz_xsb (s := v) (by omega) (show b < 8 by omega) e3
      have xl : v ^^^ 2 ^ b < N := by rw [← xs.1]; exact Nat.lt_of_le_of_lt (Nat.sub_le _ _) (by omega)
      have xt : ¬ (v ^^^ 2 ^ b).testBit b = true := by rw [pz_xb, e3, decide_eq_true rfl]; decide
      have hv46 : h 46 v = nI (t v) := by rw [hh v (by omega), if_neg (fun w => absurd w.2 (Nat.lt_irrefl v))]
      have hx46 : h 46 (v ^^^ 2 ^ b) = nI (t (v ^^^ 2 ^ b)) := by rw [hh _ xl, if_neg (fun w => xt w.1)]
      have al : v &&& 2 ^ b < 2147483648 := Nat.lt_of_le_of_lt Nat.and_le_left (by omega)
      obtain ⟨h', y1, y2, y3⟩ := ih (v + 1) (kv_up h 46 v (nI (pz_mi2 t b v))) fu (by omega) (by omega) (fun s hs => by
        rw [pz_upeq, pz_upd]
        by_cases q : s = v
        · rw [if_pos q, q, if_pos ⟨e3, by omega⟩]
        · rw [if_neg q, hh s hs]
          congr 1
          by_cases y : s.testBit b = true
          · by_cases x : s < v
            · rw [if_pos ⟨y, x⟩, if_pos ⟨y, by omega⟩]
            · rw [if_neg (fun w => x w.2), if_neg (fun w => by omega)]
          · rw [if_neg (fun w => y w.1), if_neg (fun w => y w.1)])
      refine ⟨h', ?_, y2, fun a q => by rw [y3 a q, pz_upne q]⟩
      rw [f_X2_chooseWithin_L56, if_neg (nI_ge (by omega) (by omega)), if_neg (show ¬ nI v &&& nI (2 ^ b) = (0 : Int32) from fun y => ab.mp (by rw [pz_and] at y; exact (nI_eq (b := 0) al (by omega)).mp y) e3), pz_kN (by omega) (by omega), pz_sub xs.2, xs.1, pz_kN (by omega) (by omega), pz_kN (by omega) (by omega), pz_hl, pz_cl (by omega), pz_cl (by omega), hv46, hx46, nI_1]
      have em : (if nI (t (v ^^^ 2 ^ b)) < nI (t v) then nI (t (v ^^^ 2 ^ b)) else nI (t v)) = nI (pz_mi2 t b v) := by
        have t1 := ht _ xl
        have t2 := ht v (by omega)
        unfold pz_mi2
        by_cases q : t (v ^^^ 2 ^ b) < t v
        · rw [if_pos q, if_pos (nI_lt q t2)]
        · rw [if_neg q, if_neg (nI_nlt (by omega) (by omega))]
      rw [em]; exact y1
    · obtain ⟨h', y1, y2, y3⟩ := ih (v + 1) h fu (by omega) (by omega) (fun s hs => by
        rw [hh s hs]
        congr 1
        by_cases y : s.testBit b = true
        · by_cases x : s < v
          · rw [if_pos ⟨y, x⟩, if_pos ⟨y, by omega⟩]
          · have : s ≠ v := fun w => e3 (w ▸ y)
            rw [if_neg (fun w => x w.2), if_neg (fun w => by omega)]
        · rw [if_neg (fun w => y w.1), if_neg (fun w => y w.1)])
      refine ⟨h', ?_, y2, y3⟩
      rw [f_X2_chooseWithin_L56, if_neg (nI_ge (by omega) (by omega)), if_pos (show nI v &&& nI (2 ^ b) = (0 : Int32) from by rw [pz_and, ab.mpr e3]; rfl), nI_1]
      exact y1
theorem pz_cw36 {q n N : Nat} {t : Nat → Nat} (hq : 50 < q) (hn : n ≤ 8) (eN : N = 2 ^ n) (ht : ∀ s, s < N → t s < 2147483648) (C : kv_H → Option (Unit × kv_H)) : ∀ (d b : Nat) (h : kv_H) (fu : Nat), b + d = n → d < fu → h (q + 3) 8 = nI n → (∀ s, s < N → h 46 s = nI (pz_zt t b s)) → ∃ h', f_X2_chooseWithin_L36 q (nI N) fu (nI b) h C = C h' ∧ (∀ s, s < N → h' 46 s = nI (pz_zt t n s)) ∧ ∀ a, a ≠ 46 → h' a = h a := by
  have N256 : N ≤ 256 := by rw [eN]; exact pz_p256 hn
  have zl : ∀ b, b ≤ n → ∀ s, s < N → pz_zt t b s < 2147483648 := by
    intro b
    induction b with
    | zero => intro _ s hs; exact ht s hs
    | succ b ih =>
      intro hb s hs
      rw [pz_zt]
      by_cases z : s.testBit b = true
      · rw [if_pos z]
        have xs := pz_xsb (s := s) (by omega) (show b < 8 by omega) z
        have := ih (by omega) (s ^^^ 2 ^ b) (by rw [← xs.1]; exact Nat.lt_of_le_of_lt (Nat.sub_le _ _) hs)
        have := ih (by omega) s hs
        split <;> omega
      · rw [if_neg z]; exact ih (by omega) s hs
  intro d
  induction d with
  | zero =>
    intro b h fu e1 e2 e8 hh
    obtain ⟨fu, rfl⟩ : ∃ f, fu = f + 1 := ⟨fu - 1, by omega⟩
    obtain rfl : b = n := by omega
    refine ⟨h, ?_, hh, fun _ _ => rfl⟩
    rw [f_X2_chooseWithin_L36, e8, if_pos (nI_le (Nat.le_refl _) (by omega))]
  | succ d ih =>
    intro b h fu e1 e2 e8 hh
    obtain ⟨fu, rfl⟩ : ∃ f, fu = f + 1 := ⟨fu - 1, by omega⟩
    have lt : 2 ^ b < N := by rw [eN]; exact Nat.pow_lt_pow_right (by omega) (by omega)
    have p0 := Nat.two_pow_pos b
    obtain ⟨h1, x1, x2, x3⟩ := pz_cw56 (q := q) (b := b) (c3 := nI b) (t := pz_zt t b) hn eN (by omega) (zl b (by omega)) (fun h5 => f_X2_chooseWithin_L36 q (nI N) fu (nI b + 1) h5 C) (N - 2 ^ b) (2 ^ b) h kv_fu (by omega) (by rw [show kv_fu = 5000 from rfl]; omega) (fun s hs => by
      rw [hh s hs]
      by_cases y : s.testBit b = true
      · have := (pz_xsb (s := s) (by omega) (show b < 8 by omega) y).2
        rw [if_neg (by omega)]
      · rw [if_neg (fun w => y w.1)])
    obtain ⟨h', y1, y2, y3⟩ := ih (b + 1) h1 fu (by omega) (by omega) (by rw [x3 (q + 3) (by omega)]; exact e8) (fun s hs => by
      rw [x2 s hs, pz_zt]; rfl)
    refine ⟨h', ?_, y2, fun a q => (y3 a q).trans (x3 a q)⟩
    rw [f_X2_chooseWithin_L36, e8, if_neg (nI_ge (show b < n by omega) (by omega)), pz_bit b (by omega), pz_vl, x1, nI_1]; exact y1
theorem pz_cw9 {h : kv_H} {w n : Nat} {D : Nat → Nat → Nat} {t : Nat} {TX : Nat → pz_T} {ch : Nat → Nat} {sp ru ca : Nat} {T : Nat → Nat} (hw : 50 < w) (e : pz_E9 h w n D t TX ch sp ru ca) (eb : pz_EB n D t TX ch sp ru ca) (h45 : ∀ s, s < 2 ^ n → h 45 s = nI (pz_rmb (pz_rm TX t D) s n)) (h46 : ∀ s, s < 2 ^ n → h 46 s = nI (T s)) (hT : ∀ s, s < 2 ^ n → T s < 536870912) : ∃ h', f_X2_chooseWithin w (nI (2 ^ n)) h = some ((), h') ∧ (∀ s, s < 2 ^ n → h' 46 s = nI (pz_win (fun s => decide (pz_rmb (pz_rm TX t D) s n ≤ sp)) T s)) ∧ ∀ a, a ≠ 46 → h' a = h a := by
  have hn := eb.1.1
  have hsp := eb.2.2.2.1
  obtain ⟨N, eN⟩ : ∃ N, N = 2 ^ n := ⟨_, rfl⟩
  have N256 : N ≤ 256 := by rw [eN]; exact pz_p256 hn
  have N1 : 0 < N := by rw [eN]; exact Nat.two_pow_pos n
  have rb := fun s => pz_rmbB eb.1 TX t s n (Nat.le_refl n)
  rw [← eN] at h45 h46 hT ⊢
  have st1 : ∃ g, (∀ C : kv_H → Option (Unit × kv_H), f_X2_chooseWithin_L2 w (nI N) kv_fu 0 h C = C g) ∧ (∀ s, s < N → g 46 s = nI (if decide (pz_rmb (pz_rm TX t D) s n ≤ sp) = true then T s else 536870912)) ∧ ∀ a, a ≠ 46 → g a = h a := by
    refine ⟨pz_st h 46 0 N (fun s => nI (if decide (pz_rmb (pz_rm TX t D) s n ≤ sp) = true then T s else 536870912)), fun C => ?_, fun s hs => pz_stin h (Nat.zero_le s) hs, fun a q => pz_stne h q⟩
    refine pz_for (fun f k (g : kv_H) => f_X2_chooseWithin_L2 w (nI N) f (nI k) g C) (fun k g => g = pz_st h 46 0 k (fun s => nI (if decide (pz_rmb (pz_rm TX t D) s n ≤ sp) = true then T s else 536870912))) (fun R => R = C (pz_st h 46 0 N (fun s => nI (if decide (pz_rmb (pz_rm TX t D) s n ≤ sp) = true then T s else 536870912)))) N ?_ ?_ kv_fu 0 h (by omega) (by rw [show kv_fu = 5000 from rfl]; omega) (pz_st0 h 46 0 _).symm
    · intro f g hg
      show f_X2_chooseWithin_L2 w (nI N) (f + 1) (nI N) g C = _
      rw [f_X2_chooseWithin_L2, if_pos (nI_le (Nat.le_refl _) (by omega)), hg]
    · intro f k g hk hg
      right
      refine ⟨pz_st h 46 0 (k + 1) (fun s => nI (if decide (pz_rmb (pz_rm TX t D) s n ≤ sp) = true then T s else 536870912)), rfl, ?_⟩
      show f_X2_chooseWithin_L2 w (nI N) (f + 1) (nI k) g C = _
      have := rb k
      rw [f_X2_chooseWithin_L2, if_neg (nI_ge hk (by omega)), pz_kN (by omega) (by omega), pz_cl (by omega), hg, pz_stne h (by omega), pz_stne h (by omega), h45 k hk, e.2.2.2.2.1]
      by_cases z : pz_rmb (pz_rm TX t D) k n ≤ sp
      · rw [if_pos (nI_le z (by omega)), nI_1]
        congr 1
        funext a b
        unfold pz_st
        by_cases q : a = 46 ∧ 0 ≤ b ∧ b < k
        · rw [if_pos q, if_pos (by omega)]
        · rw [if_neg q]
          by_cases q2 : a = 46 ∧ b = k
          · rw [if_pos (by omega), q2.1, q2.2]; dsimp only; rw [decide_eq_true z, if_pos rfl]; exact h46 k hk
          · rw [if_neg (by omega)]
      · rw [if_neg (nI_ge (by omega) (by omega)), pz_kN (by omega) (by omega), pz_hl, pz_st1 h 46 0 k _ (by omega) _ (by rw [decide_eq_false z]; rfl), nI_1]
  obtain ⟨g, x1, x2, x3⟩ := st1
  obtain ⟨h', y1, y2, y3⟩ := pz_cw36 (q := w) (n := n) (N := N) (t := fun s => if decide (pz_rmb (pz_rm TX t D) s n ≤ sp) = true then T s else 536870912) hw hn eN (fun s hs => by have := hT s hs; split <;> omega) (fun h6 => some ((), h6)) n 0 g kv_fu (by omega) (by rw [show kv_fu = 5000 from rfl]; omega) (by rw [x3 (w + 3) (by omega)]; exact e.1.1) x2
  refine ⟨h', ?_, fun s hs => ?_, fun a q => (y3 a q).trans (x3 a q)⟩
  · rw [f_X2_chooseWithin, x1]; exact y1
  · rw [y2 s hs, pz_ztW (fit := fun s => decide (pz_rmb (pz_rm TX t D) s n ≤ sp)) (T := T) (by rw [show pz_rmb (pz_rm TX t D) 0 n = 0 from by rw [← Nat.zero_add n, pz_rmbLow (i := 0) (by decide)]; rfl]; exact decide_eq_true (Nat.zero_le _)) 536870912 (hT 0 N1) (by rw [← eN]; exact hs)]

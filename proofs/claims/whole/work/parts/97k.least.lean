/-! PURE PART: the reference's least -/
def pz_il (y : Nat) (W : Nat → Nat) (s : Nat) : Nat → Nat
  | 0 => y
  | i + 1 => if s.testBit i then (if pz_il y W s i ≤ W (s ^^^ 2 ^ i) then pz_il y W s i else W (s ^^^ 2 ^ i)) else pz_il y W s i
theorem pz_ilM (y : Nat) (W : Nat → Nat) (s : Nat) : ∀ n, (pz_il y W s n = y ∨ ∃ i, i < n ∧ s.testBit i = true ∧ pz_il y W s n = W (s ^^^ 2 ^ i)) ∧ pz_il y W s n ≤ y ∧ ∀ i, i < n → s.testBit i = true → pz_il y W s n ≤ W (s ^^^ 2 ^ i) := by
  intro n
  induction n with
  | zero => exact ⟨Or.inl rfl, Nat.le_refl y, fun i hi => absurd hi (by omega)⟩
  | succ n ih =>
    obtain ⟨a1, a2, a3⟩ := ih
    rw [pz_il]
    by_cases z : s.testBit n = true
    · rw [if_pos z]
      by_cases q : pz_il y W s n ≤ W (s ^^^ 2 ^ n)
      · rw [if_pos q]
        refine ⟨a1.imp id (fun ⟨i, h1, h2, h3⟩ => ⟨i, by omega, h2, h3⟩), a2, fun i hi h => ?_⟩
        by_cases x : i = n
        · rw [x]; exact q
        · exact a3 i (by omega) h
      · rw [if_neg q]
        refine ⟨Or.inr ⟨n, by omega, z, rfl⟩, by omega, fun i hi h => ?_⟩
        by_cases x : i = n
        · rw [x]; exact Nat.le_refl _
        · have := a3 i (by omega) h; omega
    · rw [if_neg z]
      refine ⟨a1.imp id (fun ⟨i, h1, h2, h3⟩ => ⟨i, by omega, h2, h3⟩), a2, fun i hi h => ?_⟩
      by_cases x : i = n
      · rw [x] at h; exact absurd h z
      · exact a3 i (by omega) h
theorem pz_ilW {n : Nat} {fit : Nat → Bool} {T : Nat → Nat} (f0 : fit 0 = true) (big : Nat) (hb : T 0 < big) {s : Nat} (hs : s < 2 ^ n) : pz_il (if fit s then T s else big) (pz_win fit T) s n = pz_win fit T s := by
  obtain ⟨a1, a2, a3⟩ := pz_ilM (if fit s then T s else big) (pz_win fit T) s n
  have hk : ∀ k, s.testBit k = true → k < n := fun k hk => by
    rcases Nat.lt_or_ge k n with q | q
    · exact q
    · rw [Nat.testBit_lt_two_pow (Nat.lt_of_lt_of_le hs (Nat.pow_le_pow_right (by omega) q))] at hk; cases hk
  have all : ∀ u, pz_ss u s → fit u = true → pz_il (if fit s then T s else big) (pz_win fit T) s n ≤ T u := by
    intro u h1 h2
    by_cases z : u = s
    · subst z; rw [if_pos h2] at a2 ⊢; exact a2
    · have : ∃ k, s.testBit k = true ∧ u.testBit k = false := by
        apply Classical.byContradiction
        intro h
        apply z
        apply Nat.eq_of_testBit_eq
        intro k
        have := pz_ssT.mp h1 k
        cases hu : u.testBit k
        · cases hsk : s.testBit k
          · rfl
          · exact absurd ⟨k, hsk, hu⟩ h
        · exact (this hu).symm
      obtain ⟨k, k1, k2⟩ := this
      have sub : pz_ss u (s ^^^ 2 ^ k) := pz_ssT.mpr (fun m hm => by
        rw [pz_xb]
        by_cases x : k = m
        · rw [← x, k2] at hm; cases hm
        · rw [decide_eq_false x, Bool.xor_false]; exact pz_ssT.mp h1 m hm)
      exact Nat.le_trans (a3 k (hk k k1) k1) ((pz_winW f0 (s ^^^ 2 ^ k)).2 u sub h2)
  refine pz_lwU (fit := fit) (T := T) (s := s) ⟨?_, all⟩ (pz_winW f0 s)
  rcases a1 with q | ⟨i, i1, i2, i3⟩
  · by_cases z : fit s = true
    · exact ⟨s, Nat.and_self s, z, by rw [q, if_pos z]⟩
    · have := all 0 (Nat.zero_and s) f0
      rw [q, if_neg z] at this; omega
  · obtain ⟨⟨u, u1, u2, u3⟩, _⟩ := pz_winW (T := T) f0 (s ^^^ 2 ^ i)
    refine ⟨u, pz_ssT.mpr (fun m hm => ?_), u2, by rw [i3, u3]⟩
    have := pz_ssT.mp u1 m hm
    rw [pz_xb] at this
    by_cases x : i = m
    · rw [← x]; exact i2
    · rw [decide_eq_false x, Bool.xor_false] at this; exact this
theorem pz_look10 {h : kv_H} {n : Nat} {D : Nat → Nat → Nat} {t : Nat} {TX : Nat → pz_T} {sp ru ca : Nat} {T : Nat → Nat} (e : pz_E10 h n D t TX sp ru ca) (hsp : sp ≤ 60) (h125 : ∀ s, s < 2 ^ n → h 125 s = nI (pz_rmb (pz_rm TX t D) s n)) (h128 : ∀ s, s < 2 ^ n → h 128 s = nI (T s)) (hT : ∀ s, T s < 536870912) : ∃ h', f_X10_lookWithin h = some ((), h') ∧ (∀ s, s < 2 ^ n → h' 129 s = nI (pz_win (pz_fit TX t D n sp) T s)) ∧ ∀ a, a ≠ 129 → h' a = h a := by
  have lb := e.1.2.1
  have hn := lb.1
  have f0 := pz_fit0 TX t D n sp
  have rb := fun s => pz_rmbB lb TX t s n (Nat.le_refl n)
  obtain ⟨N, eN⟩ : ∃ N, N = 2 ^ n := ⟨_, rfl⟩
  have N256 : N ≤ 256 := by rw [eN]; exact pz_p256 hn
  have wl : ∀ s, pz_win (pz_fit TX t D n sp) T s < 536870912 := fun s => Nat.lt_of_le_of_lt (pz_winL f0 s) (hT 0)
  rw [← eN] at h125 h128 ⊢
  unfold f_X10_lookWithin
  refine pz_for (fun f k (g : kv_H) => f_X10_lookWithin_L2 f (nI k) g (fun h11 => some ((), h11))) (fun k g => (∀ a, a ≠ 129 → g a = h a) ∧ ∀ s, s < k → g 129 s = nI (pz_win (pz_fit TX t D n sp) T s)) (fun R => ∃ h', R = some ((), h') ∧ (∀ s, s < N → h' 129 s = nI (pz_win (pz_fit TX t D n sp) T s)) ∧ ∀ a, a ≠ 129 → h' a = h a) N ?_ ?_ kv_fu 0 h (by omega) (by rw [show kv_fu = 5000 from rfl]; omega) ⟨fun _ _ => rfl, fun s hs => absurd hs (by omega)⟩
  · intro f g ⟨g1, g2⟩
    refine ⟨g, ?_, g2, g1⟩
    show f_X10_lookWithin_L2 (f + 1) (nI N) g _ = _
    rw [f_X10_lookWithin_L2, f_X10_sets, pz_b, g1 112 (by omega), e.1.1.1, pz_p2n hn, ← eN, if_pos (nI_le (Nat.le_refl _) (by omega))]
  · intro f k g hk ⟨g1, g2⟩
    right
    have rk := rb k
    obtain ⟨y, ey⟩ : ∃ y, y = (if pz_fit TX t D n sp k then T k else 1000000000) := ⟨_, rfl⟩
    have y31 : y < 2147483648 := by rw [ey]; have := hT k; split <;> omega
    have inner : ∀ C : Int32 → kv_H → Option (Unit × kv_H), f_X10_lookWithin_L39 (nI k) kv_fu (nI y) 0 g C = C (nI (pz_win (pz_fit TX t D n sp) T k)) g := by
      intro C
      have fin : pz_il y (pz_win (pz_fit TX t D n sp) T) k n = pz_win (pz_fit TX t D n sp) T k := by rw [ey]; exact pz_ilW f0 1000000000 (Nat.lt_trans (hT 0) (by omega)) (by rw [← eN]; exact hk)
      have il31 : ∀ i, pz_il y (pz_win (pz_fit TX t D n sp) T) k i < 2147483648 := fun i => Nat.lt_of_le_of_lt (pz_ilM y (pz_win (pz_fit TX t D n sp) T) k i).2.1 y31
      refine pz_for (fun f i (v : Int32) => f_X10_lookWithin_L39 (nI k) f v (nI i) g C) (fun i v => v = nI (pz_il y (pz_win (pz_fit TX t D n sp) T) k i)) (fun R => R = C (nI (pz_win (pz_fit TX t D n sp) T k)) g) n ?_ ?_ kv_fu 0 _ (by omega) (by rw [show kv_fu = 5000 from rfl]; omega) rfl
      · intro f v hv
        show f_X10_lookWithin_L39 (nI k) (f + 1) v (nI n) g C = _
        rw [f_X10_lookWithin_L39, g1 112 (by omega), e.1.1.1, if_pos (nI_le (Nat.le_refl _) (by omega)), hv, fin]
      · intro f i v hi hv
        right
        refine ⟨nI (pz_il y (pz_win (pz_fit TX t D n sp) T) k (i + 1)), rfl, ?_⟩
        show f_X10_lookWithin_L39 (nI k) (f + 1) v (nI i) g C = _
        rw [f_X10_lookWithin_L39, g1 112 (by omega), e.1.1.1, if_neg (nI_ge hi (by omega)), pz_jn, hv, pz_il]
        by_cases z : k.testBit i = true
        · have xs := pz_xsb (s := k) (by omega) (show i < 8 by omega) z
          have p0 := Nat.two_pow_pos i
          have xl : k ^^^ 2 ^ i < k := by rw [← xs.1]; omega
          have wv := wl (k ^^^ 2 ^ i)
          have ilv := il31 i
          rw [if_pos ((pz_tbT (by omega) (by omega)).mpr z), if_pos z]
          dsimp only
          rw [if_neg (show ¬ (1 : Int32) = 0 by decide), pz_bit i (by omega), pz_xor, pz_kN (by omega) (by omega), pz_cl (by omega), g2 _ xl, nI_1]
          by_cases q : pz_il y (pz_win (pz_fit TX t D n sp) T) k i ≤ pz_win (pz_fit TX t D n sp) T (k ^^^ 2 ^ i)
          · rw [if_pos q, if_pos (nI_le q (by omega))]
          · rw [if_neg q, if_neg (nI_ge (by omega) (by omega)), pz_kN (by omega) (by omega), pz_vl]
        · rw [if_neg (fun w => z ((pz_tbT (by omega) (by omega)).mp w)), if_neg z]
          dsimp only
          rw [if_pos rfl, nI_1]
    refine ⟨kv_up g 129 k (nI (pz_win (pz_fit TX t D n sp) T k)), ⟨fun a q => by rw [pz_upne q]; exact g1 a q, fun s hs => ?_⟩, ?_⟩
    · rw [pz_upeq, pz_upd]
      by_cases z : s = k
      · rw [if_pos z, z]
      · rw [if_neg z]; exact g2 s (by omega)
    · show f_X10_lookWithin_L2 (f + 1) (nI k) g _ = _
      rw [f_X10_lookWithin_L2, f_X10_sets, pz_b, g1 112 (by omega), e.1.1.1, pz_p2n hn, ← eN, if_neg (nI_ge hk (by omega)), pz_kN (by omega) (by omega), pz_jn, e.2.2.1, g1 125 (by omega), pz_cl (by omega), h125 k hk]
      have tail : f_X10_lookWithin_L39 (nI k) kv_fu (nI y) 0 g (fun z8 h9 => kv_k (nI k) 256 (kv_hl (kv_up h9 129 k z8) (fun h10 => f_X10_lookWithin_L2 f (nI k + 1) h10 (fun h11 => some ((), h11))))) = f_X10_lookWithin_L2 f (nI (k + 1)) (kv_up g 129 k (nI (pz_win (pz_fit TX t D n sp) T k))) (fun h11 => some ((), h11)) := by
        rw [inner, pz_kN (by omega) (by omega), pz_hl, nI_1]
      by_cases z : pz_rmb (pz_rm TX t D) k n ≤ sp
      · rw [if_neg (nI_nlt z (by omega)), pz_kN (by omega) (by omega), g1 128 (by omega), h128 k hk]
        have : y = T k := by rw [ey, if_pos (show pz_fit TX t D n sp k = true from decide_eq_true z)]
        rw [this] at tail
        exact tail
      · rw [if_pos (nI_lt (by omega) (by omega))]
        have : y = 1000000000 := by rw [ey, if_neg (show ¬ pz_fit TX t D n sp k = true from fun q => z (of_decide_eq_true q))]
        rw [this] at tail
        exact tail

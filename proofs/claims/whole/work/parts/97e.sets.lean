/-! PURE PART: the class's rooms of sets; the best set -/
theorem pz_p2n {n : Nat} (hn : n ≤ 8) : (1 : Int32) <<< (nI n &&& 31) = nI (2 ^ n) := by
  rcases Nat.lt_or_ge n 8 with q | q
  · exact pz_bit n q
  · obtain rfl : n = 8 := by omega
    decide
theorem pz_p256 {n : Nat} (hn : n ≤ 8) : 2 ^ n ≤ 256 := Nat.pow_le_pow_right (n := 2) (i := n) (j := 8) (by omega) hn
theorem pz_rmbLow {rm : Nat → Nat} {s i : Nat} (hs : s < 2 ^ i) : ∀ k, pz_rmb rm s (i + k) = pz_rmb rm s i := by
  intro k
  induction k with
  | zero => rfl
  | succ k ih =>
    rw [← Nat.add_assoc, pz_rmb, ih, Nat.testBit_lt_two_pow (Nat.lt_of_lt_of_le hs (Nat.pow_le_pow_right (by omega) (by omega)))]; rfl
theorem pz_rmbCong {rm : Nat → Nat} {s s' : Nat} : ∀ i, (∀ k, k < i → s.testBit k = s'.testBit k) → pz_rmb rm s i = pz_rmb rm s' i := by
  intro i
  induction i with
  | zero => intro _; rfl
  | succ i ih => intro h; rw [pz_rmb, pz_rmb, ih (fun k hk => h k (by omega)), h i (by omega)]
theorem pz_fill9 {h : kv_H} {q n : Nat} {D : Nat → Nat → Nat} {rm ms ch : Nat → Nat} (lc : pz_LC h q n D) (lx : pz_LX h q n rm ms ch) (hn : n ≤ 8) (hq : 50 < q) : ∃ h', f_X2_fillRooms q h = some ((), h') ∧ (∀ s, s < 2 ^ n → h' 45 s = nI (pz_rmb rm s n)) ∧ ∀ a, a ≠ 45 → h' a = h a := by
  rw [f_X2_fillRooms, pz_hl]
  refine pz_for (fun f k (g : kv_H) => f_X2_fillRooms_L9 q f (nI k) g (fun h5 => some ((), h5))) (fun k g => (∀ a, a ≠ 45 → g a = h a) ∧ ∀ s, s < 2 ^ k → g 45 s = nI (pz_rmb rm s k)) (fun R => ∃ h', R = some ((), h') ∧ (∀ s, s < 2 ^ n → h' 45 s = nI (pz_rmb rm s n)) ∧ ∀ a, a ≠ 45 → h' a = h a) n ?_ ?_ kv_fu 0 _ (by omega) (by rw [show kv_fu = 5000 from rfl]; omega) ⟨fun a q => pz_upne q, fun s hs => ?_⟩
  · intro f g ⟨g1, g2⟩
    refine ⟨g, ?_, g2, g1⟩
    show f_X2_fillRooms_L9 q (f + 1) (nI n) g _ = _
    rw [f_X2_fillRooms_L9, g1 q (by omega), lc.1, if_pos (nI_le (Nat.le_refl _) (by omega))]
  · intro f k g hk ⟨g1, g2⟩
    right
    obtain ⟨N, eN⟩ : ∃ N, N = 2 ^ k := ⟨_, rfl⟩
    have N128 : N ≤ 128 := by rw [eN]; exact Nat.pow_le_pow_right (n := 2) (i := k) (j := 7) (by omega) (by omega)
    have N1 : 0 < N := by rw [eN]; exact Nat.two_pow_pos k
    have inner : ∃ g', (∀ C : kv_H → Option (Unit × kv_H), f_X2_fillRooms_L24 q (nI k) (nI N) kv_fu (nI N) g C = C g') ∧ (∀ a, a ≠ 45 → g' a = h a) ∧ ∀ s, s < 2 ^ (k + 1) → g' 45 s = nI (pz_rmb rm s (k + 1)) := by
      refine ⟨pz_st g 45 N (2 * N) (fun b => nI (pz_rmb rm b (k + 1))), fun C => ?_, fun a q => by rw [pz_stne g q]; exact g1 a q, fun s hs => ?_⟩
      · refine pz_for (fun f i (g' : kv_H) => f_X2_fillRooms_L24 q (nI k) (nI N) f (nI i) g' C) (fun i g' => N ≤ i ∧ g' = pz_st g 45 N i (fun b => nI (pz_rmb rm b (k + 1)))) (fun R => R = C (pz_st g 45 N (2 * N) (fun b => nI (pz_rmb rm b (k + 1))))) (2 * N) ?_ ?_ kv_fu N _ (by omega) (by rw [show kv_fu = 5000 from rfl]; omega) ⟨Nat.le_refl N, (pz_st0 g 45 N _).symm⟩
        · intro f g' ⟨_, hg'⟩
          show f_X2_fillRooms_L24 q (nI k) (nI N) (f + 1) (nI (2 * N)) g' C = _
          rw [f_X2_fillRooms_L24, show (2 : Int32) * nI N = nI (2 * N) from pz_mul 2 N, if_pos (nI_le (Nat.le_refl _) (by omega)), hg']
        · intro f i g' hi ⟨hi0, hg'⟩
          right
          refine ⟨pz_st g 45 N (i + 1) (fun b => nI (pz_rmb rm b (k + 1))), ⟨by omega, rfl⟩, ?_⟩
          show f_X2_fillRooms_L24 q (nI k) (nI N) (f + 1) (nI i) g' C = _
          obtain ⟨j, ej⟩ : ∃ j, i = N + j := ⟨i - N, by omega⟩
          have jl : j < 2 ^ k := by rw [← eN]; omega
          have val : pz_rmb rm i (k + 1) = pz_rmb rm j k + rm k := by
            rw [pz_rmb, ej, eN, Nat.testBit_two_pow_add_eq, Nat.testBit_lt_two_pow jl, pz_rmbCong (s' := j) k (fun m hm => Nat.testBit_two_pow_add_gt hm j)]; rfl
          rw [f_X2_fillRooms_L24, show (2 : Int32) * nI N = nI (2 * N) from pz_mul 2 N, if_neg (nI_ge hi (by omega)), pz_sub (by omega), pz_kN (by omega) (by omega), pz_kN (by omega) (by omega), pz_kN (by omega) (by omega), pz_hl, pz_cl (by omega), pz_cl (by omega), pz_cl (by omega), hg', pz_stout g (by omega), pz_stne g (by omega), g1 (q + 6) (by omega), (lx k hk).1, show i - N = j from by omega, g2 j jl, pz_add, pz_st1 g 45 N i _ hi0 _ (by rw [val]), nI_1]
      · rw [Nat.pow_succ, ← eN] at hs
        by_cases z : s < N
        · rw [pz_stout g (by omega), g2 s (by rw [← eN]; exact z), pz_rmb, Nat.testBit_lt_two_pow (by rw [← eN]; exact z)]; rfl
        · rw [pz_stin g (by omega) (by omega)]
    obtain ⟨g', y1, y2, y3⟩ := inner
    refine ⟨g', ⟨y2, y3⟩, ?_⟩
    show f_X2_fillRooms_L9 q (f + 1) (nI k) g _ = _
    rw [f_X2_fillRooms_L9, g1 q (by omega), lc.1, if_neg (nI_ge hk (by omega)), pz_bit k (by omega), pz_vl, ← eN, y1, nI_1]
  · obtain rfl : s = 0 := by simpa using hs
    rw [pz_upeq, pz_upd, if_pos rfl]; rfl
theorem pz_hv0 (D : Nat → Nat → Nat) (ms : Nat → Nat) : ∀ k, pz_hv D ms 0 k = 0 := by
  intro k
  induction k with
  | zero => rfl
  | succ k ih => rw [pz_hv, ih, pz_rd, Nat.zero_testBit, Bool.false_and]; rfl
def pz_bs (D : Nat → Nat → Nat) (rm ms : Nat → Nat) (n sp c : Nat) : Nat → Nat
  | 0 => 0
  | k + 1 => if k &&& c = 0 ∧ pz_rmb rm k n ≤ sp ∧ pz_hv D ms (pz_bs D rm ms n sp c k) n < pz_hv D ms k n then k else pz_bs D rm ms n sp c k
theorem pz_bsL (D : Nat → Nat → Nat) (rm ms : Nat → Nat) (n sp c : Nat) : ∀ k, pz_bs D rm ms n sp c k ≤ k := by
  intro k
  induction k with
  | zero => exact Nat.le_refl 0
  | succ k ih => rw [pz_bs]; split <;> omega
theorem pz_bs1 (D : Nat → Nat → Nat) (rm ms : Nat → Nat) (n sp c : Nat) : pz_bs D rm ms n sp c 1 = 0 := by
  have := pz_bsL D rm ms n sp c 0
  rw [pz_bs]; split
  · rfl
  · omega
theorem pz_rmbB {n : Nat} {D : Nat → Nat → Nat} (b : pz_LB n D) (TX : Nat → pz_T) (t s : Nat) : ∀ k, k ≤ n → pz_rmb (pz_rm TX t D) s k ≤ 10 * k := by
  intro k
  induction k with
  | zero => intro _; exact Nat.le_refl 0
  | succ k ih =>
    intro hk
    have := ih (by omega)
    have := (pz_rmB b TX t k (by omega)).2
    rw [pz_rmb]; split <;> omega
theorem pz_bw9 {h : kv_H} {w n : Nat} {D : Nat → Nat → Nat} {t : Nat} {TX : Nat → pz_T} {ch : Nat → Nat} {sp ru ca c : Nat} (e : pz_E9 h w n D t TX ch sp ru ca) (eb : pz_EB n D t TX ch sp ru ca) (h45 : ∀ s, s < 2 ^ n → h 45 s = nI (pz_rmb (pz_rm TX t D) s n)) (hc : c < 256) : f_X2_bestWithout w (nI c) h = some (nI (pz_bs D (pz_rm TX t D) (pz_ms TX t n D) n sp c (2 ^ n)), h) := by
  have hn := eb.1.1
  obtain ⟨N, eN⟩ : ∃ N, N = 2 ^ n := ⟨_, rfl⟩
  have N256 : N ≤ 256 := by rw [eN]; exact pz_p256 hn
  have N1 : 0 < N := by rw [eN]; exact Nat.two_pow_pos n
  have hsp := eb.2.2.2.1
  have hb := fun m => pz_hvB eb.1 (ms := pz_ms TX t n D) (fun i hi => pz_msB eb.1 TX t i hi) m n (Nat.le_refl n)
  rw [← eN] at h45 ⊢
  unfold f_X2_bestWithout
  refine pz_for (fun f k (v : Int32 × Int32) => f_X2_bestWithout_L8 w (nI c) f v.1 v.2 (nI k) h (fun z3 h4 => some (z3, h4))) (fun k v => v = (nI (pz_bs D (pz_rm TX t D) (pz_ms TX t n D) n sp c k), nI (pz_hv D (pz_ms TX t n D) (pz_bs D (pz_rm TX t D) (pz_ms TX t n D) n sp c k) n))) (fun R => R = some (nI (pz_bs D (pz_rm TX t D) (pz_ms TX t n D) n sp c N), h)) N ?_ ?_ kv_fu 1 (0, 0) N1 (by rw [show kv_fu = 5000 from rfl]; omega) (by rw [pz_bs1, pz_hv0]; rfl)
  · intro f v hv
    show f_X2_bestWithout_L8 w (nI c) (f + 1) v.1 v.2 (nI N) h _ = _
    rw [f_X2_bestWithout_L8, e.1.1, pz_p2n hn, ← eN, if_pos (nI_le (Nat.le_refl _) (by omega)), hv]
  · intro f k v hk hv
    right
    have bl := pz_bsL D (pz_rm TX t D) (pz_ms TX t n D) n sp c k
    have rb := pz_rmbB eb.1 TX t k n (Nat.le_refl n)
    refine ⟨(nI (pz_bs D (pz_rm TX t D) (pz_ms TX t n D) n sp c (k + 1)), nI (pz_hv D (pz_ms TX t n D) (pz_bs D (pz_rm TX t D) (pz_ms TX t n D) n sp c (k + 1)) n)), rfl, ?_⟩
    show f_X2_bestWithout_L8 w (nI c) (f + 1) v.1 v.2 (nI k) h _ = f_X2_bestWithout_L8 w (nI c) f (nI (pz_bs D (pz_rm TX t D) (pz_ms TX t n D) n sp c (k + 1))) (nI (pz_hv D (pz_ms TX t n D) (pz_bs D (pz_rm TX t D) (pz_ms TX t n D) n sp c (k + 1)) n)) (nI (k + 1)) h _
    rw [f_X2_bestWithout_L8, e.1.1, pz_p2n hn, ← eN, if_neg (nI_ge hk (by omega)), hv, pz_bs]
    dsimp only
    have anl : k &&& c ≤ c := Nat.and_le_right
    have hb1 := hb k
    have hb2 := hb (pz_bs D (pz_rm TX t D) (pz_ms TX t n D) n sp c k)
    by_cases z1 : k &&& c = 0
    · rw [if_pos (show nI k &&& nI c = (0 : Int32) from by rw [pz_and, z1]; rfl), pz_kN (by omega) (by omega), pz_cl (by omega), e.2.2.2.2.1, h45 k hk]
      by_cases z2 : sp < pz_rmb (pz_rm TX t D) k n
      · rw [if_pos (nI_lt z2 (by omega)), if_neg (fun y => absurd y.2.1 (by omega)), nI_1]
      · rw [if_neg (nI_nlt (by omega) (by omega)), pz_held9 e.1 e.2.1 eb.1 eb.2.2.1 (by omega), pz_b]
        by_cases z3 : pz_hv D (pz_ms TX t n D) (pz_bs D (pz_rm TX t D) (pz_ms TX t n D) n sp c k) n < pz_hv D (pz_ms TX t n D) k n
        · rw [if_neg (nI_ge z3 (by omega)), if_pos ⟨z1, by omega, z3⟩, nI_1]
        · rw [if_pos (nI_le (by omega) (by omega)), if_neg (fun y => z3 y.2.2), nI_1]
    · rw [if_neg (show ¬ nI k &&& nI c = (0 : Int32) from fun y => z1 (by rw [pz_and] at y; exact (nI_eq (b := 0) (by omega) (by omega)).mp y)), if_neg (fun y => z1 y.1), nI_1]
theorem pz_bw10 {h : kv_H} {n : Nat} {D : Nat → Nat → Nat} {t : Nat} {TX : Nat → pz_T} {sp ru ca c : Nat} (e : pz_E10 h n D t TX sp ru ca) (hsp : sp ≤ 60) (h125 : ∀ s, s < 2 ^ n → h 125 s = nI (pz_rmb (pz_rm TX t D) s n)) (hc : c < 256) : f_X10_bestWithout (nI c) h = some (nI (pz_bs D (pz_rm TX t D) (pz_ms TX t n D) n sp c (2 ^ n)), h) := by
  have lb := e.1.2.1
  have hn := lb.1
  obtain ⟨N, eN⟩ : ∃ N, N = 2 ^ n := ⟨_, rfl⟩
  have N256 : N ≤ 256 := by rw [eN]; exact pz_p256 hn
  have N1 : 0 < N := by rw [eN]; exact Nat.two_pow_pos n
  have hb := fun m => pz_hvB lb (ms := pz_ms TX t n D) (fun i hi => pz_msB lb TX t i hi) m n (Nat.le_refl n)
  rw [← eN] at h125 ⊢
  unfold f_X10_bestWithout
  refine pz_for (fun f k (v : Int32) => f_X10_bestWithout_L4 (nI c) f v (nI k) h (fun z3 h4 => some (z3, h4))) (fun k v => v = nI (pz_bs D (pz_rm TX t D) (pz_ms TX t n D) n sp c k)) (fun R => R = some (nI (pz_bs D (pz_rm TX t D) (pz_ms TX t n D) n sp c N), h)) N ?_ ?_ kv_fu 1 0 N1 (by rw [show kv_fu = 5000 from rfl]; omega) (by rw [pz_bs1]; rfl)
  · intro f v hv
    show f_X10_bestWithout_L4 (nI c) (f + 1) v (nI N) h _ = _
    rw [f_X10_bestWithout_L4, f_X10_sets, pz_b, e.1.1.1, pz_p2n hn, ← eN, if_pos (nI_le (Nat.le_refl _) (by omega)), hv]
  · intro f k v hk hv
    right
    have bl := pz_bsL D (pz_rm TX t D) (pz_ms TX t n D) n sp c k
    have rb := pz_rmbB lb TX t k n (Nat.le_refl n)
    refine ⟨nI (pz_bs D (pz_rm TX t D) (pz_ms TX t n D) n sp c (k + 1)), rfl, ?_⟩
    show f_X10_bestWithout_L4 (nI c) (f + 1) v (nI k) h _ = _
    rw [f_X10_bestWithout_L4, f_X10_sets, pz_b, e.1.1.1, pz_p2n hn, ← eN, if_neg (nI_ge hk (by omega)), hv, pz_bs, pz_jn, pz_jn]
    dsimp only
    have anl : k &&& c ≤ c := Nat.and_le_right
    have hb1 := hb k
    have hb2 := hb (pz_bs D (pz_rm TX t D) (pz_ms TX t n D) n sp c k)
    by_cases z1 : k &&& c = 0
    · rw [if_pos (show nI k &&& nI c = (0 : Int32) from by rw [pz_and, z1]; rfl), pz_kN (by omega) (by omega), pz_cl (by omega), e.2.2.1, h125 k hk]
      by_cases z2 : sp < pz_rmb (pz_rm TX t D) k n
      · rw [if_pos (nI_lt z2 (by omega)), if_pos rfl, if_neg (fun y => absurd y.2.1 (by omega)), nI_1]
      · rw [if_neg (nI_nlt (by omega) (by omega)), if_neg (by decide), pz_held10 e.1 e.2.1 (by omega), pz_b, pz_held10 e.1 e.2.1 (by omega), pz_b]
        by_cases z3 : pz_hv D (pz_ms TX t n D) (pz_bs D (pz_rm TX t D) (pz_ms TX t n D) n sp c k) n < pz_hv D (pz_ms TX t n D) k n
        · rw [if_neg (nI_ge z3 (by omega)), if_pos ⟨z1, by omega, z3⟩, nI_1]
        · rw [if_pos (nI_le (by omega) (by omega)), if_neg (fun y => z3 y.2.2), nI_1]
    · rw [if_neg (show ¬ nI k &&& nI c = (0 : Int32) from fun y => z1 (by rw [pz_and] at y; exact (nI_eq (b := 0) (by omega) (by omega)).mp y)), if_pos rfl, if_neg (fun y => z1 y.1), nI_1]

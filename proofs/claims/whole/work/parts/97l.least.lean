/-! PURE PART: the reference's least: all of it; least -/
theorem pz_l50 {h : kv_H} {n x : Nat} {D : Nat → Nat → Nat} {t : Nat} {TX : Nat → pz_T} {sp ru ca : Nat} {W : Nat → Nat} (e : pz_E10 h n D t TX sp ru ca) (hx : x < n) (h129 : ∀ s, s < 2 ^ n → h 129 s = nI (W s)) (c1 c2 : Int32) (C : kv_H → Option (Int32 × kv_H)) : ∃ h', f_X10_leastOf_L50 c1 c2 (nI x) kv_fu 0 h C = C h' ∧ (∀ s, s < 2 ^ n → h' 128 s = nI (pz_mb D (pz_ms TX t n D) W x s)) ∧ ∀ a, a ≠ 128 → h' a = h a := by
  have hn := e.1.2.1.1
  obtain ⟨N, eN⟩ : ∃ N, N = 2 ^ n := ⟨_, rfl⟩
  have N256 : N ≤ 256 := by rw [eN]; exact pz_p256 hn
  rw [← eN] at h129 ⊢
  refine pz_for (fun f k (g : kv_H) => f_X10_leastOf_L50 c1 c2 (nI x) f (nI k) g C) (fun k g => (∀ a, a ≠ 128 → g a = h a) ∧ ∀ s, s < k → g 128 s = nI (pz_mb D (pz_ms TX t n D) W x s)) (fun R => ∃ h', R = C h' ∧ (∀ s, s < N → h' 128 s = nI (pz_mb D (pz_ms TX t n D) W x s)) ∧ ∀ a, a ≠ 128 → h' a = h a) N ?_ ?_ kv_fu 0 h (by omega) (by rw [show kv_fu = 5000 from rfl]; omega) ⟨fun _ _ => rfl, fun s hs => absurd hs (by omega)⟩
  · intro f g ⟨g1, g2⟩
    refine ⟨g, ?_, g2, g1⟩
    show f_X10_leastOf_L50 c1 c2 (nI x) (f + 1) (nI N) g C = _
    rw [f_X10_leastOf_L50, f_X10_sets, pz_b, g1 112 (by omega), e.1.1.1, pz_p2n hn, ← eN, if_pos (nI_le (Nat.le_refl _) (by omega))]
  · intro f k g hk ⟨g1, g2⟩
    right
    have ol : k ||| 2 ^ x < N := by rw [eN]; exact Nat.or_lt_two_pow (by rw [← eN]; exact hk) (Nat.pow_lt_pow_right (by omega) hx)
    refine ⟨kv_up g 128 k (nI (pz_mb D (pz_ms TX t n D) W x k)), ⟨fun a q => by rw [pz_upne q]; exact g1 a q, fun s hs => ?_⟩, ?_⟩
    · rw [pz_upeq, pz_upd]
      by_cases z : s = k
      · rw [if_pos z, z]
      · rw [if_neg z]; exact g2 s (by omega)
    · show f_X10_leastOf_L50 c1 c2 (nI x) (f + 1) (nI k) g C = _
      rw [f_X10_leastOf_L50, f_X10_sets, pz_b, g1 112 (by omega), e.1.1.1, pz_p2n hn, ← eN, if_neg (nI_ge hk (by omega)), pz_bit x (by omega), pz_or, pz_kN (by omega) (by omega), pz_read10 (by rw [g1 112 (by omega)]; exact e.1) (by omega) hx, pz_b, show (nI (k ||| 2 ^ x)).toNatClampNeg = k ||| 2 ^ x from pz_cl (by omega), g1 129 (by omega), h129 _ ol, nI_1, pz_mb]
      by_cases z : pz_rd D k 8 (x + 1) = true
      · rw [if_pos z, if_neg (by decide), if_pos z, pz_kN (by omega) (by omega), pz_hl, pz_cl (by omega), show (0 : Int32) = nI 0 from rfl, pz_add]
      · rw [if_neg z, if_pos rfl, if_neg z, pz_kN (by omega) (by omega), pz_kN (by omega) (by omega), pz_hl, pz_cl (by omega), pz_cl (by omega), g1 124 (by omega), (e.2.1 x hx).2, pz_add]
theorem pz_l32 {n : Nat} {D : Nat → Nat → Nat} {t : Nat} {TX : Nat → pz_T} {sp ru ca : Nat} {L : List Nat} {h0 : kv_H} (hsp : sp ≤ 60) (hl24 : L.length ≤ 24) (row : ∀ i u, L[i]? = some u → h0 127 i = nI u) (hL : ∀ u, u ∈ L → u < n) (c1 : Int32) (C : kv_H → Option (Int32 × kv_H)) : ∀ (k : Nat) (h : kv_H) (fu : Nat), k < L.length → k < fu → (∀ a, a ≠ 128 → a ≠ 129 → h a = h0 a) → pz_E10 h n D t TX sp ru ca → (∀ s, s < 2 ^ n → h 125 s = nI (pz_rmb (pz_rm TX t D) s n)) → (∀ s, s < 2 ^ n → h 128 s = nI (pz_ft (pz_fit TX t D n sp) D (pz_ms TX t n D) (L.drop (k + 1)) s)) → ∃ h', f_X10_leastOf_L32 c1 fu (nI k) h C = C h' ∧ (∀ s, s < 2 ^ n → h' 128 s = nI (pz_ft (pz_fit TX t D n sp) D (pz_ms TX t n D) (L.drop 1) s)) ∧ ∀ a, a ≠ 128 → a ≠ 129 → h' a = h a := by
  have f0 := pz_fit0 TX t D n sp
  intro k
  induction k with
  | zero =>
    intro h fu e1 e2 fr e h125 h128
    obtain ⟨fu, rfl⟩ : ∃ f, fu = f + 1 := ⟨fu - 1, by omega⟩
    refine ⟨h, ?_, h128, fun _ _ _ => rfl⟩
    rw [f_X10_leastOf_L32, if_pos (by decide)]
  | succ k ih =>
    intro h fu e1 e2 fr e h125 h128
    obtain ⟨fu, rfl⟩ : ∃ f, fu = f + 1 := ⟨fu - 1, by omega⟩
    have lb := e.1.2.1
    obtain ⟨y, hy⟩ : ∃ y, L[k + 1]? = some y := ⟨L[k + 1], List.getElem?_eq_getElem e1⟩
    have yn := hL y (pz_mem_of_get hy)
    have dr : L.drop (k + 1) = y :: L.drop (k + 1 + 1) := by
      rw [List.drop_eq_getElem_cons e1]
      congr 1
      rw [List.getElem?_eq_getElem e1] at hy; exact Option.some.inj hy
    obtain ⟨T, eT⟩ : ∃ T, T = pz_ft (pz_fit TX t D n sp) D (pz_ms TX t n D) (L.drop (k + 1 + 1)) := ⟨_, rfl⟩
    rw [← eT] at h128
    obtain ⟨g, m1, m2, m3⟩ := pz_look10 (T := T) e hsp h125 h128 (fun s => by
      have lb' : (L.drop (k + 1 + 1)).length ≤ 24 := by rw [List.length_drop]; omega
      have := pz_ftB (D := D) f0 (L.drop (k + 1 + 1)) (fun x hx => pz_msB lb TX t x (hL x (List.mem_of_mem_drop hx))) s
      rw [eT]; omega)
    have eg : pz_E10 g n D t TX sp ru ca := pz_E10_fr e (fun b _ => by rw [m3 112 (by omega)]) (m3 _ (by omega)) (m3 _ (by omega))
    obtain ⟨h1, x1, x2, x3⟩ := pz_l50 (W := pz_win (pz_fit TX t D n sp) T) eg yn m2 c1 (nI (k + 1)) (fun h15 => f_X10_leastOf_L32 c1 fu (nI (k + 1) + (-1)) h15 C)
    have f1 : ∀ a, a ≠ 128 → a ≠ 129 → h1 a = h a := fun a q1 q2 => (x3 a q1).trans (m3 a q2)
    obtain ⟨h', z1, z2, z3⟩ := ih h1 fu (by omega) (by omega) (fun a q1 q2 => (f1 a q1 q2).trans (fr a q1 q2)) (pz_E10_fr e (fun b _ => by rw [f1 112 (by omega) (by omega)]) (f1 _ (by omega) (by omega)) (f1 _ (by omega) (by omega))) (fun s hs => by rw [f1 125 (by omega) (by omega)]; exact h125 s hs) (fun s hs => by
      rw [x2 s hs, dr, eT]; rfl)
    refine ⟨h', ?_, z2, fun a q1 q2 => (z3 a q1 q2).trans (f1 a q1 q2)⟩
    rw [f_X10_leastOf_L32, if_neg (show ¬ nI (k + 1) ≤ (0 : Int32) from nI_ge (a := 0) (by omega) (by omega)), m1, pz_b, pz_kN (by omega) (by omega), pz_cl (by omega), m3 127 (by omega), fr 127 (by omega) (by omega), row (k + 1) y hy, pz_vl]
    refine x1.trans ?_
    rw [show nI (k + 1) + (-1) = nI k from (Int32.sub_eq_add_neg (nI (k + 1)) 1).symm.trans (pz_sub (a := k + 1) (b := 1) (by omega))]; exact z1
theorem pz_l135 {h : kv_H} {n : Nat} {D : Nat → Nat → Nat} {t : Nat} {TX : Nat → pz_T} {sp ru ca E : Nat} {T : Nat → Nat} (e : pz_E10 h n D t TX sp ru ca) (hsp : sp ≤ 60) (hE : E < 256) (h125 : ∀ s, s < 2 ^ n → h 125 s = nI (pz_rmb (pz_rm TX t D) s n)) (h128 : ∀ s, s < 2 ^ n → h 128 s = nI (T s)) (hT : ∀ s, T s < 536870912) (h19 : h 111 19 = -1) (c2 : Int32) (C : kv_H → Option (Int32 × kv_H)) : ∃ h' j, f_X10_leastOf_L135 c2 (nI E) kv_fu 0 h C = C h' ∧ pz_cf (pz_fit TX t D n sp) T E (2 ^ n) = some j ∧ h' 111 19 = nI j ∧ (∀ a, a ≠ 111 → h' a = h a) ∧ ∀ b, b ≠ 19 → h' 111 b = h 111 b := by
  have lb := e.1.2.1
  have hn := lb.1
  have rb := fun s => pz_rmbB lb TX t s n (Nat.le_refl n)
  obtain ⟨N, eN⟩ : ∃ N, N = 2 ^ n := ⟨_, rfl⟩
  have N256 : N ≤ 256 := by rw [eN]; exact pz_p256 hn
  have N1 : 0 < N := by rw [eN]; exact Nat.two_pow_pos n
  rw [← eN] at h125 h128 ⊢
  obtain ⟨j, hj⟩ : ∃ j, pz_cf (pz_fit TX t D n sp) T E N = some j := by
    obtain ⟨k, ek⟩ : ∃ k, N = k + 1 := ⟨N - 1, by omega⟩
    rw [ek]; exact pz_cfS _ _ _ (pz_fit0 TX t D n sp) k
  have noop : ∀ g : kv_H, kv_up g 111 19 (g 111 19) = g := by
    intro g; funext a b; rw [pz_up]
    by_cases q1 : a = 111
    · by_cases q2 : b = 19
      · rw [if_pos q1, if_pos q2, q1, q2]
      · rw [if_pos q1, if_neg q2]
    · rw [if_neg q1]
  refine pz_for (fun f k (g : kv_H) => f_X10_leastOf_L135 c2 (nI E) f (nI k) g C) (fun k g => g 111 19 = pz_pl10 (pz_cf (pz_fit TX t D n sp) T E k) ∧ (∀ a, a ≠ 111 → g a = h a) ∧ ∀ b, b ≠ 19 → g 111 b = h 111 b) (fun R => ∃ h' j, R = C h' ∧ pz_cf (pz_fit TX t D n sp) T E N = some j ∧ h' 111 19 = nI j ∧ (∀ a, a ≠ 111 → h' a = h a) ∧ ∀ b, b ≠ 19 → h' 111 b = h 111 b) N ?_ ?_ kv_fu 0 h (by omega) (by rw [show kv_fu = 5000 from rfl]; omega) ⟨h19, fun _ _ => rfl, fun _ _ => rfl⟩
  · intro f g ⟨g1, g2, g3⟩
    refine ⟨g, j, ?_, hj, by rw [g1, hj]; rfl, g2, g3⟩
    show f_X10_leastOf_L135 c2 (nI E) (f + 1) (nI N) g C = _
    rw [f_X10_leastOf_L135, f_X10_sets, pz_b, g2 112 (by omega), e.1.1.1, pz_p2n hn, ← eN, if_pos (nI_le (Nat.le_refl _) (by omega))]
  · intro f k g hk ⟨g1, g2, g3⟩
    right
    have st := f_X10_leastOf_L135.eq_2 c2 (nI E) (nI k) g C f
    rw [f_X10_sets, pz_b, g2 112 (by omega), e.1.1.1, pz_p2n hn, ← eN, if_neg (nI_ge hk (by omega)), pz_jn, pz_jn, e.2.2.1, g2 125 (by omega), pz_cl (by omega), h125 k hk] at st
    have rk := rb k
    have Tk := hT k
    by_cases z : k &&& E = k ∧ pz_fit TX t D n sp k = true
    · have fk : pz_rmb (pz_rm TX t D) k n ≤ sp := of_decide_eq_true z.2
      rw [if_pos ((pz_subI (by omega) hE).mpr z.1), pz_kN (by omega) (by omega), if_neg (nI_nlt fk (by omega))] at st
      dsimp only at st
      rw [pz_jn, if_neg (by decide)] at st
      have take : f_X10_leastOf_L135 c2 (nI E) (f + 1) (nI k) g C = f_X10_leastOf_L135 c2 (nI E) f (nI (k + 1)) (kv_up g 111 19 (nI k)) C → pz_cf (pz_fit TX t D n sp) T E (k + 1) = some k → ∃ s', (s' 111 19 = pz_pl10 (pz_cf (pz_fit TX t D n sp) T E (k + 1)) ∧ (∀ a, a ≠ 111 → s' a = h a) ∧ ∀ b, b ≠ 19 → s' 111 b = h 111 b) ∧ f_X10_leastOf_L135 c2 (nI E) (f + 1) (nI k) g C = f_X10_leastOf_L135 c2 (nI E) f (nI (k + 1)) s' C := by
        intro q1 q2
        refine ⟨kv_up g 111 19 (nI k), ⟨?_, fun a q => by rw [pz_upne q]; exact g2 a q, fun b q => by rw [pz_upeq, pz_upd, if_neg q]; exact g3 b q⟩, q1⟩
        rw [q2, pz_upeq, pz_upd, if_pos rfl]; rfl
      cases hc : pz_cf (pz_fit TX t D n sp) T E k with
      | none =>
        rw [hc] at g1
        rw [g1, if_pos (show pz_pl10 none < 0 by decide), pz_hl, nI_1] at st
        exact take st (by rw [pz_cf, if_pos z, hc]; rfl)
      | some i =>
        have ik := pz_cfL _ _ _ k i hc
        have Ti := hT i
        rw [hc] at g1
        rw [g1, if_neg (show ¬ pz_pl10 (some i) < 0 from pz_ng (by omega)), pz_kN (by omega) (by omega), show pz_pl10 (some i) = nI i from rfl, pz_kN (by omega) (by omega), g2 128 (by omega), pz_cl (by omega), h128 k hk, h128 i (by omega)] at st
        by_cases y : T k < T i
        · rw [if_neg (nI_ge y (by omega)), pz_hl, nI_1] at st
          exact take st (by rw [pz_cf, if_pos z, hc, pz_cf1, if_pos y])
        · rw [if_pos (nI_le (by omega) (by omega))] at st
          dsimp only at st
          rw [noop, pz_hl, nI_1] at st
          refine ⟨g, ⟨by rw [pz_cf, if_pos z, hc, pz_cf1, if_neg y]; exact g1, g2, g3⟩, st⟩
    · have nx : pz_cf (pz_fit TX t D n sp) T E (k + 1) = pz_cf (pz_fit TX t D n sp) T E k := by rw [pz_cf, if_neg z]
      refine ⟨g, ⟨by rw [nx]; exact g1, g2, g3⟩, ?_⟩
      show f_X10_leastOf_L135 c2 (nI E) (f + 1) (nI k) g C = _
      rw [st]
      by_cases z1 : k &&& E = k
      · have fk : ¬ pz_rmb (pz_rm TX t D) k n ≤ sp := fun y => z ⟨z1, decide_eq_true y⟩
        rw [if_pos ((pz_subI (by omega) hE).mpr z1), pz_kN (by omega) (by omega), if_pos (nI_lt (by omega) (by omega))]
        dsimp only
        rw [pz_jn, if_pos rfl]
        dsimp only
        rw [noop, pz_hl, nI_1]
      · rw [if_neg (fun y => z1 ((pz_subI (by omega) hE).mp y))]
        dsimp only
        rw [pz_jn, if_pos rfl]
        dsimp only
        rw [noop, pz_hl, nI_1]

/-! PURE PART: sets: rooms, what they hold -/
def pz_hv (D : Nat → Nat → Nat) (ms : Nat → Nat) (m : Nat) : Nat → Nat
  | 0 => 0
  | k + 1 => pz_hv D ms m k + (if pz_rd D m 8 (k + 1) then D 3 k * ms k else 0)
theorem pz_hvB {n : Nat} {D : Nat → Nat → Nat} {ms : Nat → Nat} (b : pz_LB n D) (hm : ∀ i, i < n → ms i ≤ 1013) (m : Nat) : ∀ k, k ≤ n → pz_hv D ms m k ≤ 9117 * k := by
  intro k
  induction k with
  | zero => intro _; exact Nat.le_refl 0
  | succ k ih =>
    intro hk
    have := ih (by omega)
    have b1 := (b.2 k (by omega)).2.2.2.2.1
    have b2 := hm k (by omega)
    have : D 3 k * ms k ≤ 9 * 1013 := Nat.mul_le_mul b1 b2
    rw [pz_hv]
    split <;> omega
theorem pz_held9 {h : kv_H} {q n m : Nat} {D : Nat → Nat → Nat} {rm ms ch : Nat → Nat} (lc : pz_LC h q n D) (lx : pz_LX h q n rm ms ch) (b : pz_LB n D) (c : pz_CH n D ch) (hm : m < 256) : f_X1_heldOf q (nI m) h = some (nI (pz_hv D ms m n), h) := by
  have hn := b.1
  unfold f_X1_heldOf
  refine pz_for (fun f k (v : Int32) => f_X1_heldOf_L4 q (nI m) f v (nI k) h (fun z4 h5 => some (z4, h5))) (fun k v => v = nI (pz_hv D ms m k)) (fun R => R = some (nI (pz_hv D ms m n), h)) n ?_ ?_ kv_fu 0 _ (by omega) (by rw [show kv_fu = 5000 from rfl]; omega) rfl
  · intro f v hv
    show f_X1_heldOf_L4 q (nI m) (f + 1) v (nI n) h _ = _
    rw [f_X1_heldOf_L4, lc.1, if_pos (nI_le (Nat.le_refl _) (by omega)), hv]
  · intro f k v hk hv
    right
    refine ⟨nI (pz_hv D ms m (k + 1)), rfl, ?_⟩
    show f_X1_heldOf_L4 q (nI m) (f + 1) v (nI k) h _ = _
    rw [f_X1_heldOf_L4, lc.1, if_neg (nI_ge hk (by omega)), pz_read9 lx b c hm hk, pz_b, hv, pz_hv]
    by_cases z : pz_rd D m 8 (k + 1) = true
    · rw [if_pos z, if_pos z, if_neg (by decide), pz_kN (by omega) (by omega), pz_kN (by omega) (by omega), pz_cl (by omega), pz_vl, (lc.2 k hk).2.2.2.1, (lx k hk).2.1, pz_mul, pz_add, nI_1]
    · rw [if_neg z, if_neg z, if_pos rfl, nI_1]; rfl
theorem pz_held10 {h : kv_H} {n m : Nat} {D : Nat → Nat → Nat} {t : Nat} {TX : Nat → pz_T} {rm ms : Nat → Nat} (mm : pz_M (h 112) n D t TX) (kk : pz_K h n rm ms) (hm : m < 256) : f_X10_heldBy (nI m) h = some (nI (pz_hv D ms m n), h) := by
  have hn := mm.2.1.1
  unfold f_X10_heldBy
  refine pz_for (fun f k (v : Int32) => f_X10_heldBy_L4 (nI m) f v (nI k) h (fun z4 h5 => some (z4, h5))) (fun k v => v = nI (pz_hv D ms m k)) (fun R => R = some (nI (pz_hv D ms m n), h)) n ?_ ?_ kv_fu 0 _ (by omega) (by rw [show kv_fu = 5000 from rfl]; omega) rfl
  · intro f v hv
    show f_X10_heldBy_L4 (nI m) (f + 1) v (nI n) h _ = _
    rw [f_X10_heldBy_L4, mm.1.1, if_pos (nI_le (Nat.le_refl _) (by omega)), hv]
  · intro f k v hk hv
    right
    refine ⟨nI (pz_hv D ms m (k + 1)), rfl, ?_⟩
    show f_X10_heldBy_L4 (nI m) (f + 1) v (nI k) h _ = _
    rw [f_X10_heldBy_L4, mm.1.1, if_neg (nI_ge hk (by omega)), pz_read10 mm hm hk, pz_b, hv, pz_hv]
    by_cases z : pz_rd D m 8 (k + 1) = true
    · rw [if_pos z, if_pos z, if_neg (by decide), pz_leafAtU, pz_b, show (10 : Int32) + 7 * nI k + 3 = nI (10 + 7 * k + 3) from pz_leafK k 3, pz_kN (by omega) (by omega), pz_kN (by omega) (by omega), pz_cl (by omega), pz_cl (by omega), pz_vl, show 10 + 7 * k + 3 = 13 + 7 * k from by omega, (mm.1.2 k hk).2.2.2.1, (kk k hk).2, pz_mul, pz_add, nI_1]
    · rw [if_neg z, if_neg z, if_pos rfl, pz_vl, show (0 : Int32) = nI 0 from rfl, pz_add, nI_1]
/-- the rooms of all sets, by the reference -/
theorem pz_kr10 {h : kv_H} {n : Nat} {D : Nat → Nat → Nat} {t : Nat} {TX : Nat → pz_T} {sp ru ca : Nat} (m : pz_M (h 112) n D t TX) (e3 : h 112 3 = nI sp) (e4 : h 112 4 = nI ru) (e5 : h 112 5 = nI ca) : ∃ h', f_X10_knowsRooms h = some ((), h') ∧ pz_E10 h' n D t TX sp ru ca ∧ h' 112 = h 112 ∧ (∀ s, s < 2 ^ n → h' 125 s = nI (pz_rmb (pz_rm TX t D) s n)) ∧ ∀ a, ¬ pz_sc a → h' a = h a := by
  have hn := m.2.1.1
  obtain ⟨k, x1, x2, x3, x4⟩ := pz_toE10 (h := h) (sp := sp) (ru := ru) (ca := ca) m e3 e4 e5
  have p8 : 2 ^ n ≤ 256 := Nat.pow_le_pow_right (n := 2) (i := n) (j := 8) (by omega) hn
  have p28 : (1 : Int32) <<< (nI n &&& 31) = nI (2 ^ n) := by
    rcases Nat.lt_or_ge n 8 with q | q
    · exact pz_bit n q
    · obtain rfl : n = 8 := by omega
      decide
  rw [f_X10_knowsRooms, x1, pz_b]
  refine pz_for (fun f s (g : kv_H) => f_X10_knowsRooms_L6 f (nI s) g (fun h8 => some ((), h8))) (fun s g => (∀ a, a ≠ 125 → g a = k a) ∧ ∀ j, j < s → g 125 j = nI (pz_rmb (pz_rm TX t D) j n)) (fun R => ∃ h', R = some ((), h') ∧ pz_E10 h' n D t TX sp ru ca ∧ h' 112 = h 112 ∧ (∀ s, s < 2 ^ n → h' 125 s = nI (pz_rmb (pz_rm TX t D) s n)) ∧ ∀ a, ¬ pz_sc a → h' a = h a) (2 ^ n) ?_ ?_ kv_fu 0 k (Nat.zero_le _) (by rw [show kv_fu = 5000 from rfl]; omega) ⟨fun _ _ => rfl, fun j hj => absurd hj (by omega)⟩
  · intro f g ⟨g1, g2⟩
    refine ⟨g, ?_, pz_E10_fr x2 (fun b _ => by rw [g1 112 (by omega)]) (g1 _ (by omega)) (g1 _ (by omega)), by rw [g1 112 (by omega), x3], g2, fun a q => ?_⟩
    · show f_X10_knowsRooms_L6 (f + 1) (nI (2 ^ n)) g _ = _
      rw [f_X10_knowsRooms_L6, f_X10_sets, pz_b, g1 112 (by omega), x2.1.1.1, p28, if_pos (nI_le (Nat.le_refl _) (by omega))]
    · have q' := q
      unfold pz_sc at q
      rw [g1 a (by omega), x4 a q']
  · intro f s g hs ⟨g1, g2⟩
    right
    have inner : ∃ g', (∀ C : kv_H → Option (Unit × kv_H), f_X10_knowsRooms_L23 (nI s) kv_fu 0 (kv_up g 125 s 0) C = C g') ∧ (∀ a, a ≠ 125 → g' a = k a) ∧ ∀ j, j < s + 1 → g' 125 j = nI (pz_rmb (pz_rm TX t D) j n) := by
      refine ⟨kv_up g 125 s (nI (pz_rmb (pz_rm TX t D) s n)), fun C => ?_, fun a q => by rw [pz_upne q]; exact g1 a q, fun j hj => ?_⟩
      · refine pz_for (fun f i (g' : kv_H) => f_X10_knowsRooms_L23 (nI s) f (nI i) g' C) (fun i g' => g' = kv_up g 125 s (nI (pz_rmb (pz_rm TX t D) s i))) (fun R => R = C (kv_up g 125 s (nI (pz_rmb (pz_rm TX t D) s n)))) n ?_ ?_ kv_fu 0 _ (by omega) (by rw [show kv_fu = 5000 from rfl]; omega) rfl
        · intro f g' hg'
          show f_X10_knowsRooms_L23 (nI s) (f + 1) (nI n) g' C = _
          rw [f_X10_knowsRooms_L23, hg', pz_upne (by omega), g1 112 (by omega), x2.1.1.1, if_pos (nI_le (Nat.le_refl _) (by omega))]
        · intro f i g' hi hg'
          right
          refine ⟨kv_up g 125 s (nI (pz_rmb (pz_rm TX t D) s (i + 1))), rfl, ?_⟩
          show f_X10_knowsRooms_L23 (nI s) (f + 1) (nI i) g' C = _
          have e125 : kv_up g 125 s (nI (pz_rmb (pz_rm TX t D) s i)) 125 s = nI (pz_rmb (pz_rm TX t D) s i) := by rw [pz_upeq, pz_upd, if_pos rfl]
          have upup : ∀ v w : Int32, kv_up (kv_up g 125 s v) 125 s w = kv_up g 125 s w := by
            intro v w; funext a b; rw [pz_up, pz_up, pz_up]
            by_cases q1 : a = 125
            · rw [if_pos q1, if_pos q1, if_pos q1]
              by_cases q2 : b = s
              · rw [if_pos q2, if_pos q2]
              · rw [if_neg q2, if_neg q2, if_neg q2]
            · rw [if_neg q1, if_neg q1, if_neg q1]
          rw [f_X10_knowsRooms_L23, hg', pz_upne (by omega), g1 112 (by omega), x2.1.1.1, if_neg (nI_ge hi (by omega)), pz_kN (by omega) (by omega), pz_rmb]
          by_cases z : s.testBit i = true
          · rw [if_pos ((pz_tbT (by omega) (by omega)).mpr z), if_pos z, pz_kN (by omega) (by omega), pz_kN (by omega) (by omega), pz_hl, pz_cl (by omega), pz_cl (by omega), e125, pz_upne (by omega), g1 123 (by omega), (x2.2.1 i hi).1, pz_add, upup, nI_1]
          · rw [if_neg (fun y => z ((pz_tbT (by omega) (by omega)).mp y)), if_neg z, pz_kN (by omega) (by omega), pz_hl, pz_cl (by omega), e125, show (0 : Int32) = nI 0 from rfl, pz_add, upup, nI_1]
      · rw [pz_upeq, pz_upd]
        by_cases z : j = s
        · rw [if_pos z, z]
        · rw [if_neg z]; exact g2 j (by omega)
    obtain ⟨g', y1, y2, y3⟩ := inner
    refine ⟨g', ⟨y2, y3⟩, ?_⟩
    show f_X10_knowsRooms_L6 (f + 1) (nI s) g _ = _
    rw [f_X10_knowsRooms_L6, f_X10_sets, pz_b, g1 112 (by omega), x2.1.1.1, p28, if_neg (nI_ge hs (by omega)), pz_kN (by omega) (by omega), pz_hl, pz_cl (by omega), y1, nI_1]

/-! PURE PART: means, both sides, the call -/
theorem pz_me9 {n : Nat} {D : Nat → Nat → Nat} {t : Nat} {TX : Nat → pz_T} {ch : Nat → Nat} {sp ru ca : Nat} {x0 : Int32} (eb : pz_EB n D t TX ch sp ru ca) : ∀ (d m k1 : Nat) (V : List Nat) (X : Nat → Int32) (w : Int64) (h : kv_H), d ≤ 2 → d + 1 ≤ m → (k1 = 91 ∨ k1 = 6 + 4 * (d + 1)) → pz_E9 h 79 n D t TX ch sp ru ca → pz_CC h k1 V X → pz_CB n V X → h 91 6 = x0 → ∃ h', f_X9_meansBehind m k1 (nI (d + 1)) w h = some (pz_meC n D t TX sp ru ca x0 (d + 1) V X w, h') ∧ ∀ a, a ≠ 49 → a ≠ 50 → (a < 6 ∨ 6 + 4 * d + 3 < a) → h' a = h a := by
  have hn := eb.1.1
  have ht := eb.2.1.1
  intro d
  induction d with
  | zero =>
    intro m k1 V X w h hd hm hk e cc cb hx
    obtain ⟨m, rfl⟩ : ∃ m', m = m' + 1 := ⟨m - 1, by omega⟩
    have vl := pz_vlen cb hn
    rw [f_X9_meansBehind, f_X9_meansBehindB, if_neg (show ¬ nI (0 + 1) < (1 : Int32) by decide), if_pos (show nI (0 + 1) ≤ (3 : Int32) by decide), show nI (0 + 1) - (1 : Int32) = nI 0 from rfl, pz_kN (by omega) (by omega), pz_cl (by omega), pz_meC]
    refine pz_for (fun f k (v : Int64 × kv_H) => f_X9_meansBehindB_L28 (f_X9_meansBehind m) k1 (nI (0 + 1)) w (6 + 4 * 0) f v.1 (nI k) v.2 (fun z10 h11 => some (z10, h11))) (fun k v => v.1 = pz_sm (fun u => if w * pz_wt D u = 0 then 0 else if 0 = 0 then (w * pz_wt D u) * ((pz_askS n D t TX sp ru ca V X u).2.2 1 - x0).toInt64 else pz_meC n D t TX sp ru ca x0 0 (pz_askS n D t TX sp ru ca V X u).2.1 (pz_askS n D t TX sp ru ca V X u).2.2 (w * pz_wt D u)) k ∧ ∀ a, a ≠ 49 → a ≠ 50 → (a < 6 ∨ 6 + 4 * 0 + 3 < a) → v.2 a = h a) (fun R => ∃ h', R = some (pz_sm (fun u => if w * pz_wt D u = 0 then 0 else if 0 = 0 then (w * pz_wt D u) * ((pz_askS n D t TX sp ru ca V X u).2.2 1 - x0).toInt64 else pz_meC n D t TX sp ru ca x0 0 (pz_askS n D t TX sp ru ca V X u).2.1 (pz_askS n D t TX sp ru ca V X u).2.2 (w * pz_wt D u)) n, h') ∧ ∀ a, a ≠ 49 → a ≠ 50 → (a < 6 ∨ 6 + 4 * 0 + 3 < a) → h' a = h a) n ?_ ?_ kv_fu 0 (0, h) (by omega) (by rw [show kv_fu = 5000 from rfl]; omega) ⟨rfl, fun _ _ _ _ => rfl⟩
    · intro f v ⟨v1, v2⟩
      refine ⟨v.2, ?_, v2⟩
      show f_X9_meansBehindB_L28 (f_X9_meansBehind m) k1 (nI (0 + 1)) w (6 + 4 * 0) (f + 1) v.1 (nI n) v.2 _ = _
      rw [f_X9_meansBehindB_L28, v2 82 (by omega) (by omega) (by omega), show h 82 8 = nI n from e.1.1, if_pos (nI_le (Nat.le_refl _) (by omega)), v1]
    · intro f k v hk' ⟨v1, v2⟩
      right
      have ev : pz_E9 v.2 79 n D t TX ch sp ru ca := pz_E9_fr e ht (fun a q1 q2 => v2 a (by omega) (by omega) (by omega)) (fun a q1 q2 => v2 a (by omega) (by omega) (by omega))
      have wk : v.2 86 k = nI (D 3 k) := (ev.1.2 k hk').2.2.2.1
      have st : f_X9_meansBehindB_L28 (f_X9_meansBehind m) k1 (nI (0 + 1)) w (6 + 4 * 0) (f + 1) v.1 (nI k) v.2 (fun z10 h11 => some (z10, h11)) = (if w * pz_wt D k = 0 then f_X9_meansBehindB_L28 (f_X9_meansBehind m) k1 (nI (0 + 1)) w (6 + 4 * 0) f v.1 (nI (k + 1)) v.2 (fun z10 h11 => some (z10, h11)) else kv_b (f_X0_becomes 6 k1 v.2) (fun _ h3 => kv_b (f_X8_asking 79 6 (nI k) h3) (fun r5 h4 => f_X9_meansBehindB_L28 (f_X9_meansBehind m) k1 (nI (0 + 1)) w (6 + 4 * 0) f (v.1 + ((w * pz_wt D k) * (((h4 6 6) - (h4 91 6)).toInt64))) (nI (k + 1)) h4 (fun z10 h11 => some (z10, h11))))) := by
        rw [f_X9_meansBehindB_L28, v2 82 (by omega) (by omega) (by omega), show h 82 8 = nI n from e.1.1, if_neg (nI_ge hk' (by omega)), pz_kN (by omega) (by omega), pz_cl (by omega), wk, show (nI (D 3 k)).toInt64 = pz_wt D k from rfl, pz_vL, nI_1]
        by_cases z : w * pz_wt D k = 0
        · rw [if_pos z, if_pos ((lg_cmp_eq _ _).mpr z)]
        · rw [if_neg z, if_neg (fun y => z ((lg_cmp_eq _ _).mp y))]; rfl
      by_cases z : w * pz_wt D k = 0
      · rw [if_pos z] at st
        refine ⟨v, ⟨?_, v2⟩, st⟩
        rw [pz_sm, if_pos z, Int64.add_zero]; exact v1
      · rw [if_neg z] at st
        obtain ⟨g, y1, y2, y3⟩ := pz_course (h := v.2) (c0 := 6) (c := k1) (by omega) vl (pz_CC_fr cc (fun a q1 q2 => v2 a (by omega) (by omega) (by omega)))
        obtain ⟨h1, x1, x2, x3⟩ := pz_ask9 (w := 79) (c := 6) (by omega) (by omega) (by omega) (pz_E9_fr ev ht (fun a q1 q2 => y3 a (by omega)) (fun a q1 q2 => y3 a (by omega))) eb y2 cb hk'
        rw [y1, pz_b, x1, pz_b, x2.2.2.2.1, x3 91 (by omega) (by omega) (by omega), y3 91 (by omega), v2 91 (by omega) (by omega) (by omega), hx] at st
        refine ⟨(_, h1), ⟨?_, fun a q1 q2 q3 => by show h1 a = h a; rw [x3 a q1 q2 (by omega), y3 a (by omega), v2 a q1 q2 q3]⟩, st⟩
        rw [pz_sm, if_neg z, if_pos rfl, ← v1]
  | succ d ih =>
    intro m k1 V X w h hd hm hk e cc cb hx
    obtain ⟨m, rfl⟩ : ∃ m', m = m' + 1 := ⟨m - 1, by omega⟩
    have vl := pz_vlen cb hn
    rw [f_X9_meansBehind, f_X9_meansBehindB, if_neg (show ¬ nI (d + 1 + 1) < (1 : Int32) from nI_nlt (b := 1) (by omega) (by omega)), if_pos (show nI (d + 1 + 1) ≤ (3 : Int32) from nI_le (b := 3) (by omega) (by omega)), show nI (d + 1 + 1) - (1 : Int32) = nI (d + 1) from pz_sub (a := d + 1 + 1) (b := 1) (by omega), pz_kN (by omega) (by omega), pz_cl (by omega), pz_meC]
    refine pz_for (fun f k (v : Int64 × kv_H) => f_X9_meansBehindB_L28 (f_X9_meansBehind m) k1 (nI (d + 1 + 1)) w (6 + 4 * (d + 1)) f v.1 (nI k) v.2 (fun z10 h11 => some (z10, h11))) (fun k v => v.1 = pz_sm (fun u => if w * pz_wt D u = 0 then 0 else if d + 1 = 0 then (w * pz_wt D u) * ((pz_askS n D t TX sp ru ca V X u).2.2 1 - x0).toInt64 else pz_meC n D t TX sp ru ca x0 (d + 1) (pz_askS n D t TX sp ru ca V X u).2.1 (pz_askS n D t TX sp ru ca V X u).2.2 (w * pz_wt D u)) k ∧ ∀ a, a ≠ 49 → a ≠ 50 → (a < 6 ∨ 6 + 4 * (d + 1) + 3 < a) → v.2 a = h a) (fun R => ∃ h', R = some (pz_sm (fun u => if w * pz_wt D u = 0 then 0 else if d + 1 = 0 then (w * pz_wt D u) * ((pz_askS n D t TX sp ru ca V X u).2.2 1 - x0).toInt64 else pz_meC n D t TX sp ru ca x0 (d + 1) (pz_askS n D t TX sp ru ca V X u).2.1 (pz_askS n D t TX sp ru ca V X u).2.2 (w * pz_wt D u)) n, h') ∧ ∀ a, a ≠ 49 → a ≠ 50 → (a < 6 ∨ 6 + 4 * (d + 1) + 3 < a) → h' a = h a) n ?_ ?_ kv_fu 0 (0, h) (by omega) (by rw [show kv_fu = 5000 from rfl]; omega) ⟨rfl, fun _ _ _ _ => rfl⟩
    · intro f v ⟨v1, v2⟩
      refine ⟨v.2, ?_, v2⟩
      show f_X9_meansBehindB_L28 (f_X9_meansBehind m) k1 (nI (d + 1 + 1)) w (6 + 4 * (d + 1)) (f + 1) v.1 (nI n) v.2 _ = _
      rw [f_X9_meansBehindB_L28, v2 82 (by omega) (by omega) (by omega), show h 82 8 = nI n from e.1.1, if_pos (nI_le (Nat.le_refl _) (by omega)), v1]
    · intro f k v hk' ⟨v1, v2⟩
      right
      have ev : pz_E9 v.2 79 n D t TX ch sp ru ca := pz_E9_fr e ht (fun a q1 q2 => v2 a (by omega) (by omega) (by omega)) (fun a q1 q2 => v2 a (by omega) (by omega) (by omega))
      have wk : v.2 86 k = nI (D 3 k) := (ev.1.2 k hk').2.2.2.1
      have st : f_X9_meansBehindB_L28 (f_X9_meansBehind m) k1 (nI (d + 1 + 1)) w (6 + 4 * (d + 1)) (f + 1) v.1 (nI k) v.2 (fun z10 h11 => some (z10, h11)) = (if w * pz_wt D k = 0 then f_X9_meansBehindB_L28 (f_X9_meansBehind m) k1 (nI (d + 1 + 1)) w (6 + 4 * (d + 1)) f v.1 (nI (k + 1)) v.2 (fun z10 h11 => some (z10, h11)) else kv_b (f_X0_becomes (6 + 4 * (d + 1)) k1 v.2) (fun _ h3 => kv_b (f_X8_asking 79 (6 + 4 * (d + 1)) (nI k) h3) (fun r5 h4 => kv_b (f_X9_meansBehind m (6 + 4 * (d + 1)) (nI (d + 1)) (w * pz_wt D k) h4) (fun r7 h6 => f_X9_meansBehindB_L28 (f_X9_meansBehind m) k1 (nI (d + 1 + 1)) w (6 + 4 * (d + 1)) f (v.1 + r7) (nI (k + 1)) h6 (fun z10 h11 => some (z10, h11)))))) := by
        rw [f_X9_meansBehindB_L28, v2 82 (by omega) (by omega) (by omega), show h 82 8 = nI n from e.1.1, if_neg (nI_ge hk' (by omega)), pz_kN (by omega) (by omega), pz_cl (by omega), wk, show (nI (D 3 k)).toInt64 = pz_wt D k from rfl, pz_vL, nI_1, show nI (d + 1 + 1) - (1 : Int32) = nI (d + 1) from pz_sub (a := d + 1 + 1) (b := 1) (by omega)]
        by_cases z : w * pz_wt D k = 0
        · rw [if_pos z, if_pos ((lg_cmp_eq _ _).mpr z)]
        · rw [if_neg z, if_neg (fun y => z ((lg_cmp_eq _ _).mp y))]
          simp only [if_neg (show ¬ nI (d + 1 + 1) = (1 : Int32) from fun y => absurd ((nI_eq (b := 1) (by omega) (by omega)).mp y) (by omega))]
          rfl
      by_cases z : w * pz_wt D k = 0
      · rw [if_pos z] at st
        refine ⟨v, ⟨?_, v2⟩, st⟩
        rw [pz_sm, if_pos z, Int64.add_zero]; exact v1
      · rw [if_neg z] at st
        obtain ⟨g, y1, y2, y3⟩ := pz_course (h := v.2) (c0 := 6 + 4 * (d + 1)) (c := k1) (by omega) vl (pz_CC_fr cc (fun a q1 q2 => v2 a (by omega) (by omega) (by omega)))
        obtain ⟨h1, x1, x2, x3⟩ := pz_ask9 (w := 79) (c := 6 + 4 * (d + 1)) (by omega) (by omega) (by omega) (pz_E9_fr ev ht (fun a q1 q2 => y3 a (by omega)) (fun a q1 q2 => y3 a (by omega))) eb y2 cb hk'
        have ab := pz_askB (t := t) (TX := TX) (sp := sp) (ru := ru) (ca := ca) eb.1 cb hk'
        have f1 : ∀ a, a ≠ 49 → a ≠ 50 → (a < 6 + 4 * (d + 1) ∨ 6 + 4 * (d + 1) + 3 < a) → h1 a = v.2 a := fun a q1 q2 q3 => (x3 a q1 q2 q3).trans (y3 a q3)
        obtain ⟨h2, z1, z2⟩ := ih m (6 + 4 * (d + 1)) _ _ (w * pz_wt D k) h1 (by omega) (by omega) (Or.inr rfl) (pz_E9_fr ev ht (fun a q1 q2 => f1 a (by omega) (by omega) (by omega)) (fun a q1 q2 => f1 a (by omega) (by omega) (by omega))) x2 ab.1 (by rw [f1 91 (by omega) (by omega) (by omega), v2 91 (by omega) (by omega) (by omega)]; exact hx)
        rw [y1, pz_b, x1, pz_b, z1, pz_b] at st
        refine ⟨(_, h2), ⟨?_, fun a q1 q2 q3 => by show h2 a = h a; rw [z2 a q1 q2 (by omega), f1 a q1 q2 (by omega), v2 a q1 q2 q3]⟩, st⟩
        rw [pz_sm, if_neg z, if_neg (by omega), ← v1]
theorem pz_me10 {h : kv_H} {n c : Nat} {D : Nat → Nat → Nat} {t : Nat} {TX : Nat → pz_T} {sp ru ca : Nat} {V : List Nat} {X : Nat → Int32} (hc0 : 0 < c) (hc : c ≤ 3) (e : pz_E10 h n D t TX sp ru ca) (hsp : sp ≤ 60) (hru : ru ≤ 4) (hca : ca ≤ 1) (cm : pz_CM (h 112) n V X) (cb : pz_CB n V X) : ∃ h', f_X10_means_L25 (nI c) kv_fu 0 0 h (fun z16 h17 => some (z16, h17)) = some (pz_sm (fun k => pz_tm n D t TX sp ru ca (X 1) V X 1 (pz_dg n c k)) (n ^ c), h') ∧ ∀ a, a ≠ 126 → a ≠ 127 → a ≠ 131 → a ≠ 132 → h' a = h a := by
  have hn := e.1.2.1.1
  have nc : n ^ c ≤ 512 := Nat.le_trans (Nat.pow_le_pow_left hn c) (Nat.pow_le_pow_right (n := 8) (i := c) (j := 3) (by omega) hc)
  refine pz_for (fun f k (v : Int64 × kv_H) => f_X10_means_L25 (nI c) f v.1 (nI k) v.2 (fun z16 h17 => some (z16, h17))) (fun k v => v.1 = pz_sm (fun k => pz_tm n D t TX sp ru ca (X 1) V X 1 (pz_dg n c k)) k ∧ ∀ a, a ≠ 126 → a ≠ 127 → a ≠ 131 → a ≠ 132 → v.2 a = h a) (fun R => ∃ h', R = some (pz_sm (fun k => pz_tm n D t TX sp ru ca (X 1) V X 1 (pz_dg n c k)) (n ^ c), h') ∧ ∀ a, a ≠ 126 → a ≠ 127 → a ≠ 131 → a ≠ 132 → h' a = h a) (n ^ c) ?_ ?_ kv_fu 0 (0, h) (Nat.zero_le _) (by rw [show kv_fu = 5000 from rfl]; omega) ⟨rfl, fun _ _ _ _ _ => rfl⟩
  · intro f v ⟨v1, v2⟩
    refine ⟨v.2, ?_, v2⟩
    show f_X10_means_L25 (nI c) (f + 1) v.1 (nI (n ^ c)) v.2 _ = _
    rw [f_X10_means_L25, pz_rows10 (by rw [v2 112 (by omega) (by omega) (by omega) (by omega)]; exact e.1.1.1) hn hc, pz_b, if_pos (nI_le (Nat.le_refl _) (by omega)), v1]
  · intro f k v hk ⟨v1, v2⟩
    right
    have n0 : 0 < n := by
      rcases Nat.eq_zero_or_pos n with z | z
      · subst z; rw [Nat.zero_pow hc0] at hk; omega
      · exact z
    have v112 : v.2 112 = h 112 := v2 112 (by omega) (by omega) (by omega) (by omega)
    obtain ⟨g, l1, l2, l3⟩ := pz_lays10 (h := v.2) (n := n) (c := c) (k := k) n0 hn hc0 (by omega) (by omega) (by rw [v112]; exact e.1.1.1)
    have g112 : g 112 = h 112 := by rw [l3 112 (by omega), v112]
    have eg : pz_E10 g n D t TX sp ru ca := pz_E10_fr e (fun b _ => by rw [g112]) (by rw [l3 _ (by omega)]; exact v2 _ (by omega) (by omega) (by omega) (by omega)) (by rw [l3 _ (by omega)]; exact v2 _ (by omega) (by omega) (by omega) (by omega))
    have dl := pz_dgL n c k
    have row : ∀ i u, (pz_dg n c k)[i]? = some u → g 127 i = nI u := fun i u hi => by
      have := pz_dgI n c k i u hi
      rw [this.2]; exact l2 i this.1
    have hL := pz_dgU n0 c k
    have prod : ∀ (C : Int64 → kv_H → Option (Int64 × kv_H)) (c2 : Int64) (c4 : Int32) (r : List Nat) (i : Nat) (p : Int64) (fu : Nat), (pz_dg n c k).drop i = r → i ≤ c → r.length < fu → f_X10_means_L48 (nI c) c2 c4 fu p (nI i) g C = C (pz_pd D r p) g := by
      intro C c2 c4 r
      induction r with
      | nil =>
        intro i p fu e1 e2 e3
        obtain ⟨fu, rfl⟩ : ∃ f, fu = f + 1 := ⟨fu - 1, by omega⟩
        have := List.drop_eq_nil_iff.mp e1
        rw [f_X10_means_L48, if_pos (nI_le (by omega) (by omega))]; rfl
      | cons u r ih =>
        intro i p fu e1 e2 e3
        obtain ⟨fu, rfl⟩ : ∃ f, fu = f + 1 := ⟨fu - 1, by omega⟩
        rw [List.length_cons] at e3
        obtain ⟨d1, d2, d3⟩ := pz_dropC e1
        have un := hL u (pz_mem_of_get d1)
        rw [f_X10_means_L48, if_neg (nI_ge (by omega) (by omega)), pz_kN (by omega) (by omega), pz_cl (by omega), row i u d1, pz_leafAtU, pz_b, show (10 : Int32) + 7 * nI u + 3 = nI (10 + 7 * u + 3) from pz_leafK u 3, pz_kN (by omega) (by omega), pz_cl (by omega), show 10 + 7 * u + 3 = 13 + 7 * u from by omega, (eg.1.1.2 u un).2.2.2.1, show (nI (D 3 u)).toInt64 = pz_wt D u from rfl, pz_vL, nI_1, pz_pd]
        exact ih (i + 1) _ fu d2 (by omega) (by omega)
    have st : f_X10_means_L25 (nI c) (f + 1) v.1 (nI k) v.2 (fun z16 h17 => some (z16, h17)) = (if pz_pd D (pz_dg n c k) 1 = 0 then f_X10_means_L25 (nI c) f (v.1 + 0) (nI (k + 1)) g (fun z16 h17 => some (z16, h17)) else (kv_b (f_X10_wouldCost (nI c) g) (fun r13 h12 => f_X10_means_L25 (nI c) f (v.1 + (pz_pd D (pz_dg n c k) 1 * (r13.toInt64))) (nI (k + 1)) h12 (fun z16 h17 => some (z16, h17))))) := by
      rw [f_X10_means_L25, pz_rows10 (by rw [v112]; exact e.1.1.1) hn hc, pz_b, if_neg (nI_ge hk (by omega)), l1, pz_b, show (0 : Int32) = nI 0 from rfl, prod _ _ _ (pz_dg n c k) 0 1 kv_fu rfl (by omega) (by rw [show kv_fu = 5000 from rfl, dl]; omega), nI_1]
      by_cases z : pz_pd D (pz_dg n c k) 1 = 0
      · rw [if_pos z, if_pos (show lg_cmp (pz_pd D (pz_dg n c k) 1) 0 = nI 0 from (lg_cmp_eq _ _).mpr z), pz_vL]
      · rw [if_neg z, if_neg (show ¬ lg_cmp (pz_pd D (pz_dg n c k) 1) 0 = nI 0 from fun y => z ((lg_cmp_eq _ _).mp y))]; rfl
    by_cases z : pz_pd D (pz_dg n c k) 1 = 0
    · rw [if_pos z] at st
      refine ⟨(_, g), ⟨?_, fun a q1 q2 q3 q4 => by show g a = h a; rw [l3 a q2, v2 a q1 q2 q3 q4]⟩, st⟩
      rw [pz_sm, pz_tm, if_pos z, ← v1]
    · rw [if_neg z] at st
      obtain ⟨h1, x1, x2⟩ := pz_wc10 (h := g) (L := pz_dg n c k) (V := V) (X := X) eg hsp hru hca (by omega) hL row (by rw [g112]; exact cm) cb
      rw [dl] at x1
      rw [x1, pz_b] at st
      refine ⟨(_, h1), ⟨?_, fun a q1 q2 q3 q4 => by show h1 a = h a; rw [x2 a q1 q3 q4, l3 a q2, v2 a q1 q2 q3 q4]⟩, st⟩
      rw [pz_sm, pz_tm, if_neg z, ← v1]
theorem pz_means (x : Int32) (h : kv_H) (c5 : pz_c5 h) : ∃ (r : Int64) (h1 h2 : kv_H), f_X9_means x h = some (r, h1) ∧ f_X10_means x h1 = some (r, h2) ∧ pz_fr [] h h2 := by
  obtain ⟨n, D, t, TX, ch, V, X, sp, ru, ca, R, g1, ⟨cc, cm, cb⟩, g3, g4⟩ := c5
  have cc : pz_CC h 91 V X := cc
  have hn := g1.2.1.2.1.1
  obtain ⟨e9, eb⟩ := pz_toE9 g1 g3
  rcases pz_rng x 1 3 (by omega) with q | ⟨c, s1, s2, rfl⟩
  · refine ⟨-1000000001, h, h, ?_, ?_, pz_fr_refl _ h⟩
    · rw [f_X9_means]; exact pz_rng9 q _ _
    · rw [f_X10_means, pz_in_1_3, if_pos (show x < 1 ∨ 3 < x from q)]; rfl
  obtain ⟨d, rfl⟩ : ∃ d, c = d + 1 := ⟨c - 1, by omega⟩
  obtain ⟨h1, x1, x2⟩ := pz_me9 (x0 := X 1) eb d 4 91 V X 1 h (by omega) (by omega) (Or.inl rfl) e9 cc cb cc.2.2.2.1
  have f1 : ∀ a, ¬ pz_sc a → h1 a = h a := fun a q => by unfold pz_sc at q; exact x2 a (by omega) (by omega) (by omega)
  have s112 : h1 112 = h 112 := f1 112 (by unfold pz_sc; omega)
  obtain ⟨ha, a1, a2, a3, a4⟩ := pz_toE10 (h := h1) (sp := sp) (ru := ru) (ca := ca) (by rw [s112]; exact g1.2.1) (by rw [s112]; exact g3.2.2.2.1) (by rw [s112]; exact g3.2.2.2.2.1) (by rw [s112]; exact g3.2.2.2.2.2.1)
  obtain ⟨h2, y1, y2⟩ := pz_me10 (h := ha) (c := d + 1) (V := V) (X := X) (by omega) s2 a2 eb.2.2.2.1 eb.2.2.2.2.1 eb.2.2.2.2.2 (by rw [a3, s112]; exact cm) cb
  rw [pz_meE] at x1
  refine ⟨pz_sm (fun k => pz_tm n D t TX sp ru ca (X 1) V X 1 (pz_dg n (d + 1) k)) (n ^ (d + 1)), h1, h2, ?_, ?_, fun a b q1 q2 => ?_⟩
  · rw [f_X9_means]; refine (pz_rng9G s1 s2 (by omega) _ _).trans ?_; rw [x1, pz_b]
  · rw [f_X10_means, pz_in_1_3G s1 (by omega), pz_b, if_neg (by decide), a1, pz_b]; exact y1
  · by_cases z : pz_sc a
    · exact absurd (pz_scR z) q2
    · have z' := z
      unfold pz_sc at z
      rw [y2 a (by omega) (by omega) (by omega) (by omega), a4 a z', f1 a z']

/-! PURE PART: the gap: one row -/
theorem pz_lstE {n : Nat} {D : Nat → Nat → Nat} {t : Nat} {TX : Nat → pz_T} {sp : Nat} {V r : List Nat} {x j : Nat} (h : pz_cf (pz_fit TX t D n sp) (pz_ft (pz_fit TX t D n sp) D (pz_ms TX t n D) r) (pz_bits V ||| 2 ^ x) (2 ^ n) = some j) : pz_lst n D t TX sp V (x :: r) = pz_ft (pz_fit TX t D n sp) D (pz_ms TX t n D) r j + (if pz_rd D (pz_bits V) 8 (x + 1) then 0 else pz_ms TX t n D x) := by
  rw [pz_lst, h, Option.getD_some]
theorem pz_gapB9 {h : kv_H} {n x : Nat} {D : Nat → Nat → Nat} {t : Nat} {TX : Nat → pz_T} {ch : Nat → Nat} {sp ru ca : Nat} {V : List Nat} {X : Nat → Int32} {r : List Nat} (hl : r.length + 1 ≤ 2) (row : ∀ i u, (x :: r)[i]? = some u → h 2 i = nI u) (hL : ∀ u, u ∈ x :: r → u < n) (e : pz_E9 h 79 n D t TX ch sp ru ca) (eb : pz_EB n D t TX ch sp ru ca) (cc : pz_CC h 91 V X) (cb : pz_CB n V X) (h45 : ∀ s, s < 2 ^ n → h 45 s = nI (pz_rmb (pz_rm TX t D) s n)) : ∃ h3, (∀ K : Int32 → kv_H → Option (Int32 × kv_H), kv_b (f_X0_becomes 6 91 h) (fun _ h9 => kv_b (f_X2_foresee 79 2 2 (nI (r.length + 1)) h9) (fun _ h10 => kv_b (f_X8_makeAskings 79 6 2 2 (nI (r.length + 1)) h10) (fun r12 h11 => kv_vl (r12 - (h11 44 2)) (fun e13 => K e13 h11)))) = K (pz_gDiff n D t TX sp ru ca V X (x :: r)) h3) ∧ (∀ a, ¬ pz_sc a → h3 a = h a) ∧ h3 45 = h 45 ∧ h3 2 = h 2 := by
  have hn := eb.1.1
  have ht := eb.2.1.1
  have vl := pz_vlen cb hn
  obtain ⟨k, k1, k2, k3⟩ := pz_course (h := h) (c0 := 6) (c := 91) (by omega) vl cc
  have eK : pz_E9 k 79 n D t TX ch sp ru ca := pz_E9_fr e ht (fun a q1 q2 => k3 a (by omega)) (fun a q1 q2 => k3 a (by omega))
  obtain ⟨f, j, f1, f2, f3, f4, f5⟩ := pz_fore9 (h := k) (w := 79) (q2 := 2) (nq2 := 2) (x := x) (r := r) (V := V) (X := X) (by omega) hl (by omega) (by omega) (by omega) (fun i u hi => by rw [k3 2 (by omega)]; exact row i u hi) hL eK eb (pz_CC_fr cc (fun a q1 q2 => k3 a (by omega))) cb (fun s hs => by rw [k3 45 (by omega)]; exact h45 s hs)
  have eF : pz_E9 f 79 n D t TX ch sp ru ca := pz_E9_fr eK ht (fun a q1 q2 => f5 a (by omega) (by omega)) (fun a q1 q2 => f5 a (by omega) (by omega))
  obtain ⟨m, m1, m2, m3⟩ := pz_mk9 (w := 79) (c := 6) (q2 := 2) (nq2 := 2) (h0 := h) (L := x :: r) (by omega) (by omega) (by omega) (by omega) (by rw [List.length_cons]; exact hl) (by omega) row hL eb (X 1) (fun h4 => some (((h4 6 6) - X 1), h4)) (x :: r) 0 V X f kv_fu rfl (by omega) (by rw [show kv_fu = 5000 from rfl, List.length_cons]; omega) eF (by rw [f5 2 (by omega) (by omega), k3 2 (by omega)]) (pz_CC_fr k2 (fun a q1 q2 => f5 a (by omega) (by omega))) cb
  rw [List.length_cons] at m1
  refine ⟨m, fun K => ?_, fun a q => ?_, ?_, ?_⟩
  · rw [k1, pz_b, f1, pz_b, f_X8_makeAskings, f5 6 (by omega) (by omega), k2.2.2.2.1, pz_vl, show (0 : Int32) = nI 0 from rfl, m1, pz_b, pz_vl, m3 44 (by omega) (by omega) (by omega), f3, m2.2.2.2.1, pz_gDiff, pz_lstE f2]
  · unfold pz_sc at q
    rw [m3 a (by omega) (by omega) (by omega), f5 a (by omega) (by omega), k3 a (by omega)]
  · rw [m3 45 (by omega) (by omega) (by omega), f5 45 (by omega) (by omega), k3 45 (by omega)]
  · rw [m3 2 (by omega) (by omega) (by omega), f5 2 (by omega) (by omega), k3 2 (by omega)]
theorem pz_gapB10 {h : kv_H} {n x : Nat} {D : Nat → Nat → Nat} {t : Nat} {TX : Nat → pz_T} {ch : Nat → Nat} {sp ru ca : Nat} {V : List Nat} {X : Nat → Int32} {r : List Nat} (hl : r.length + 1 ≤ 2) (row : ∀ i u, (x :: r)[i]? = some u → h 127 i = nI u) (hL : ∀ u, u ∈ x :: r → u < n) (e : pz_E10 h n D t TX sp ru ca) (eb : pz_EB n D t TX ch sp ru ca) (cm : pz_CM (h 112) n V X) (cb : pz_CB n V X) (h125 : ∀ s, s < 2 ^ n → h 125 s = nI (pz_rmb (pz_rm TX t D) s n)) : ∃ h3, (∀ K : Int32 → kv_H → Option (Int32 × kv_H), kv_b (f_X10_wouldCost (nI (r.length + 1)) h) (fun r10 h9 => kv_b (f_X10_leastOf (nI (r.length + 1)) h9) (fun r12 h11 => kv_vl (r10 - r12) (fun e13 => K e13 h11))) = K (pz_gDiff n D t TX sp ru ca V X (x :: r)) h3) ∧ (∀ a, a ≠ 126 → a ≠ 131 → a ≠ 132 → a ≠ 128 → a ≠ 129 → a ≠ 111 → h3 a = h a) ∧ ∀ b, b ≠ 19 → h3 111 b = h 111 b := by
  obtain ⟨k, k1, k2⟩ := pz_wc10 (h := h) (L := x :: r) e eb.2.2.2.1 eb.2.2.2.2.1 eb.2.2.2.2.2 (by rw [List.length_cons]; omega) hL row cm cb
  rw [List.length_cons] at k1
  have eK : pz_E10 k n D t TX sp ru ca := pz_E10_fr e (fun b _ => by rw [k2 112 (by omega) (by omega) (by omega)]) (k2 _ (by omega) (by omega) (by omega)) (k2 _ (by omega) (by omega) (by omega))
  obtain ⟨f, j, f1, f2, f3, f4, f5⟩ := pz_least10 (h := k) (x := x) (r := r) (V := V) (X := X) eK eb.2.2.2.1 (by omega) (fun i u hi => by rw [k2 127 (by omega) (by omega) (by omega)]; exact row i u hi) hL (by rw [k2 112 (by omega) (by omega) (by omega)]; exact cm) cb (fun s hs => by rw [k2 125 (by omega) (by omega) (by omega)]; exact h125 s hs)
  refine ⟨f, fun K => ?_, fun a q1 q2 q3 q4 q5 q6 => by rw [f4 a q4 q5 q6, k2 a q1 q2 q3], fun b q => by rw [f5 b q, k2 111 (by omega) (by omega) (by omega)]⟩
  rw [k1, pz_b, f1, pz_b, pz_vl, pz_gDiff, pz_lstE f2]

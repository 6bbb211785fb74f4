/-! PURE PART: the gap: loops, the call -/
theorem pz_gRowX {c n k : Nat} (n0 : 0 < n) (hn : n ≤ 8) (hc : c = 1 ∨ c = 2) (hk : k < n ^ c) : ∃ x r, pz_gRow c n k = x :: r ∧ r.length + 1 = c ∧ (∀ p : Nat → Int32, p 0 = nI (if c = 1 then k else k / n) → p 1 = nI (k % n) → ∀ i u, (x :: r)[i]? = some u → p i = nI u) ∧ (∀ p : Nat → Int32, (∀ i, i < c → p i = nI (k / n ^ (c - 1 - i) % n)) → ∀ i u, (x :: r)[i]? = some u → p i = nI u) ∧ (∀ u, u ∈ x :: r → u < n) ∧ k < 2147483648 := by
  have rb := pz_gRowB n0 hc hk
  rcases hc with rfl | rfl
  · rw [Nat.pow_one] at hk
    refine ⟨k, [], rfl, rfl, ?_, ?_, rb.1, by omega⟩
    · intro p p0 p1 i u hi
      match i, hi with
      | 0, hi => cases hi; rw [p0, if_pos rfl]
      | i + 1, hi => cases hi
    · intro p pp i u hi
      match i, hi with
      | 0, hi => cases hi; rw [pp 0 (by omega), show 1 - 1 - 0 = 0 from rfl, Nat.pow_zero, Nat.div_one, Nat.mod_eq_of_lt hk]
      | i + 1, hi => cases hi
  · have hk2 : k < n * n := by rw [Nat.pow_two] at hk; exact hk
    have nn : n * n ≤ 8 * 8 := Nat.mul_le_mul hn hn
    have d : k / n < n := by
      rw [Nat.div_lt_iff_lt_mul n0]; exact hk2
    refine ⟨k / n, [k % n], rfl, rfl, ?_, ?_, rb.1, by omega⟩
    · intro p p0 p1 i u hi
      match i, hi with
      | 0, hi => cases hi; rw [p0, if_neg (by decide)]
      | 1, hi => cases hi; rw [p1]
      | i + 2, hi => cases hi
    · intro p pp i u hi
      match i, hi with
      | 0, hi => cases hi; rw [pp 0 (by omega), show 2 - 1 - 0 = 1 from rfl, Nat.pow_one, Nat.mod_eq_of_lt d]
      | 1, hi => cases hi; rw [pp 1 (by omega), show 2 - 1 - 1 = 0 from rfl, Nat.pow_zero, Nat.div_one]
      | i + 2, hi => cases hi
theorem pz_gap9 {h : kv_H} {n c : Nat} {D : Nat → Nat → Nat} {t : Nat} {TX : Nat → pz_T} {ch : Nat → Nat} {sp ru ca : Nat} {V : List Nat} {X : Nat → Int32} (n0 : 0 < n) (hc : c = 1 ∨ c = 2) (e : pz_E9 h 79 n D t TX ch sp ru ca) (eb : pz_EB n D t TX ch sp ru ca) (cc : pz_CC h 91 V X) (cb : pz_CB n V X) (h45 : ∀ s, s < 2 ^ n → h 45 s = nI (pz_rmb (pz_rm TX t D) s n)) (x2 : Int32) (C : Int32 → Int32 → kv_H → Option (Int32 × kv_H)) : ∃ h', f_X9_gap_L79 (nI c) x2 (nI n) (nI (n ^ c)) kv_fu 0 (-1000000005) 0 h C = C (pz_bU (pz_gs (pz_gCode c n) (fun k => pz_gDiff n D t TX sp ru ca V X (pz_gRow c n k)) (n ^ c))) (pz_pl9 ((pz_gs (pz_gCode c n) (fun k => pz_gDiff n D t TX sp ru ca V X (pz_gRow c n k)) (n ^ c)).map Prod.fst)) h' ∧ ∀ a, ¬ pz_sc a → h' a = h a := by
  have hn := eb.1.1
  have ht := eb.2.1.1
  have nc : n ^ c ≤ 64 := by
    rcases hc with rfl | rfl
    · rw [Nat.pow_one]; omega
    · rw [Nat.pow_two]; exact Nat.mul_le_mul hn hn
  obtain ⟨code, ecode⟩ : ∃ code, code = pz_gCode c n := ⟨_, rfl⟩
  obtain ⟨diff, ediff⟩ : ∃ diff, diff = (fun k => pz_gDiff n D t TX sp ru ca V X (pz_gRow c n k)) := ⟨_, rfl⟩
  rw [← ecode, ← ediff]
  refine pz_for (fun f k (v : Int32 × Int32 × kv_H) => f_X9_gap_L79 (nI c) x2 (nI n) (nI (n ^ c)) f v.1 v.2.1 (nI k) v.2.2 C) (fun k v => v.1 = pz_bU (pz_gs code diff k) ∧ v.2.1 = pz_pl9 ((pz_gs code diff k).map Prod.fst) ∧ (∀ a, ¬ pz_sc a → v.2.2 a = h a) ∧ v.2.2 45 = h 45) (fun R => ∃ h', R = C (pz_bU (pz_gs code diff (n ^ c))) (pz_pl9 ((pz_gs code diff (n ^ c)).map Prod.fst)) h' ∧ ∀ a, ¬ pz_sc a → h' a = h a) (n ^ c) ?_ ?_ kv_fu 0 (0, -1000000005, h) (Nat.zero_le _) (by rw [show kv_fu = 5000 from rfl]; omega) ⟨rfl, rfl, fun _ _ => rfl, rfl⟩
  · intro f v ⟨v1, v2, v3, v4⟩
    refine ⟨v.2.2, ?_, v3⟩
    show f_X9_gap_L79 (nI c) x2 (nI n) (nI (n ^ c)) (f + 1) v.1 v.2.1 (nI (n ^ c)) v.2.2 C = _
    rw [f_X9_gap_L79, if_pos (nI_le (Nat.le_refl _) (by omega)), v1, v2]
  · intro f k v hk ⟨v1, v2, v3, v4⟩
    right
    obtain ⟨x, r, e1, e2, e3, e4, e5, e6⟩ := pz_gRowX n0 hn hc hk
    obtain ⟨g, eg⟩ : ∃ g, g = v.2.2 := ⟨_, rfl⟩
    rw [← eg] at v3 v4
    have y31 : (if c = 1 then k else k / n) < 2147483648 := by
      have := Nat.div_le_self k n
      split <;> omega
    obtain ⟨p, ep⟩ : ∃ p, p = kv_up (kv_up g 2 0 (nI (if c = 1 then k else k / n))) 2 1 (nI (k % n)) := ⟨_, rfl⟩
    have fp : ∀ a, a ≠ 2 → p a = g a := fun a q => by rw [ep, pz_upne q, pz_upne q]
    have p0 : p 2 0 = nI (if c = 1 then k else k / n) := by rw [ep, pz_upeq, pz_upd, if_neg (by omega), pz_upeq, pz_upd, if_pos rfl]
    have p1 : p 2 1 = nI (k % n) := by rw [ep, pz_upeq, pz_upd, if_pos rfl]
    have fph : ∀ a, ¬ pz_sc a → p a = h a := fun a q => by rw [fp a (fun z => q (Or.inl z)), v3 a q]
    obtain ⟨h3, b1, b2, b3, b4⟩ := pz_gapB9 (h := p) (x := x) (r := r) (V := V) (X := X) (by omega) (e3 (p 2) p0 p1) e5 (pz_E9_fr e ht (fun a q1 q2 => fph a (by unfold pz_sc; omega)) (fun a q1 q2 => fph a (by unfold pz_sc; omega))) eb (pz_CC_fr cc (fun a q1 q2 => fph a (by unfold pz_sc; omega))) cb (fun s hs => by rw [fp 45 (by omega), v4]; exact h45 s hs)
    rw [e2, ← e1] at b1
    have dk : pz_gDiff n D t TX sp ru ca V X (pz_gRow c n k) = diff k := by rw [ediff]
    rw [dk] at b1
    have f3 : ∀ a, ¬ pz_sc a → h3 a = h a := fun a q => (b2 a q).trans (fph a q)
    have f345 : h3 45 = h 45 := by rw [b3, fp 45 (by omega), v4]
    have nz : ¬ nI n = (0 : Int32) := fun y => absurd ((nI_eq (b := 0) (by omega) (by omega)).mp y) (by omega)
    -- what is taken
    have take : (if nI c = (1 : Int32) then (f_X9_gap_L79 (nI c) x2 (nI n) (nI (n ^ c)) f (diff k) (nI k) (nI k + 1) h3 C) else (kv_vl ((10 * (h3 2 0)) + (h3 2 1)) (fun e15 => f_X9_gap_L79 (nI c) x2 (nI n) (nI (n ^ c)) f (diff k) e15 (nI k + 1) h3 C))) = f_X9_gap_L79 (nI c) x2 (nI n) (nI (n ^ c)) f (diff k) (nI (code k)) (nI (k + 1)) h3 C := by
      rw [ecode, pz_gCode, nI_1]
      rcases hc with rfl | rfl
      · rw [if_pos (show nI 1 = (1 : Int32) from rfl), if_pos rfl]
      · rw [if_neg (show ¬ nI 2 = (1 : Int32) by decide), if_neg (by decide), b4, p0, p1, if_neg (by decide), show (10 : Int32) = nI 10 from rfl, pz_mul, pz_add, pz_vl]
    have st : f_X9_gap_L79 (nI c) x2 (nI n) (nI (n ^ c)) (f + 1) v.1 v.2.1 (nI k) g C = (if v.2.1 = (-1000000005 : Int32) then f_X9_gap_L79 (nI c) x2 (nI n) (nI (n ^ c)) f (diff k) (nI (code k)) (nI (k + 1)) h3 C else (if diff k ≤ v.1 then (f_X9_gap_L79 (nI c) x2 (nI n) (nI (n ^ c)) f v.1 v.2.1 (nI (k + 1)) h3 C) else f_X9_gap_L79 (nI c) x2 (nI n) (nI (n ^ c)) f (diff k) (nI (code k)) (nI (k + 1)) h3 C)) := by
      rw [← take]
      rw [f_X9_gap_L79, if_neg (nI_ge hk (by omega)), pz_jn]
      have jj : ∀ J : Int32 → kv_H → Option (Int32 × kv_H), (if nI c = (1 : Int32) then (J (nI k) g) else (kv_z (nI n) (J (nI k / nI n) g))) = J (nI (if c = 1 then k else k / n)) g := by
        intro J
        rcases hc with rfl | rfl
        · rw [if_pos (show nI 1 = (1 : Int32) from rfl), if_pos rfl]
        · rw [if_neg (show ¬ nI 2 = (1 : Int32) by decide), if_neg (by decide), pz_z nz, pk_div e6 n0 (by omega)]
      refine (jj (fun (y5 : Int32) (h6 : kv_H) => kv_hl (kv_up h6 2 0 y5) (fun h7 => kv_z (nI n) (kv_hl (kv_up h7 2 1 (nI k - nI k / nI n * nI n)) (fun h8 => kv_b (f_X0_becomes 6 91 h8) (fun _ h9 => kv_b (f_X2_foresee 79 2 2 (nI c) h9) (fun _ h10 => kv_b (f_X8_makeAskings 79 6 2 2 (nI c) h10) (fun r12 h11 => kv_vl (r12 - (h11 44 2)) (fun e13 => kv_jn (fun (h14 : kv_H) => if nI c = (1 : Int32) then (f_X9_gap_L79 (nI c) x2 (nI n) (nI (n ^ c)) f e13 (nI k) (nI k + 1) h14 C) else (kv_vl ((10 * (h14 2 0)) + (h14 2 1)) (fun e15 => f_X9_gap_L79 (nI c) x2 (nI n) (nI (n ^ c)) f e13 e15 (nI k + 1) h14 C))) (fun (J190 : kv_H → Option (Int32 × kv_H)) => if v.2.1 = (-1000000005 : Int32) then (J190 h11) else (if e13 ≤ v.1 then (f_X9_gap_L79 (nI c) x2 (nI n) (nI (n ^ c)) f v.1 v.2.1 (nI k + 1) h11 C) else (J190 h11)))))))))))).trans ?_
      rw [pz_hl, pz_z nz, pz_hl, pk_rem e6 n0 (by omega), ← ep]
      refine (b1 (fun e13 h11 => kv_jn (fun (h14 : kv_H) => if nI c = (1 : Int32) then (f_X9_gap_L79 (nI c) x2 (nI n) (nI (n ^ c)) f e13 (nI k) (nI k + 1) h14 C) else (kv_vl ((10 * (h14 2 0)) + (h14 2 1)) (fun e15 => f_X9_gap_L79 (nI c) x2 (nI n) (nI (n ^ c)) f e13 e15 (nI k + 1) h14 C))) (fun (J190 : kv_H → Option (Int32 × kv_H)) => if v.2.1 = (-1000000005 : Int32) then (J190 h11) else (if e13 ≤ v.1 then (f_X9_gap_L79 (nI c) x2 (nI n) (nI (n ^ c)) f v.1 v.2.1 (nI k + 1) h11 C) else (J190 h11))))).trans ?_
      rw [pz_jn, nI_1]
    cases hg : pz_gs code diff k with
    | none =>
      rw [hg] at v1 v2
      rw [if_pos (by rw [v2]; rfl)] at st
      refine ⟨(diff k, nI (code k), h3), ⟨by rw [pz_gs0 hg]; rfl, by rw [pz_gs0 hg]; rfl, f3, f345⟩, ?_⟩
      rw [eg] at st; exact st
    | some q =>
      rw [hg] at v1 v2
      have qb := pz_gsB (code := code) (diff := diff) (B := 100 * n) k (fun i hi => by rw [ecode]; exact (pz_gRowB n0 hc (Nat.lt_trans hi hk)).2.2) q hg
      rw [if_neg (by rw [v2]; exact of_eq_false (pz_neq1 (a := 1000000005) (by omega) (by omega) (by omega)))] at st
      by_cases z : diff k ≤ q.2
      · rw [if_pos (by rw [v1]; exact z)] at st
        refine ⟨(v.1, v.2.1, h3), ⟨?_, ?_, f3, f345⟩, ?_⟩
        · rw [pz_gs1 hg, if_pos z]; exact v1
        · rw [pz_gs1 hg, if_pos z]; exact v2
        · rw [eg] at st; exact st
      · rw [if_neg (by rw [v1]; exact z)] at st
        refine ⟨(diff k, nI (code k), h3), ⟨by rw [pz_gs1 hg, if_neg z]; rfl, by rw [pz_gs1 hg, if_neg z]; rfl, f3, f345⟩, ?_⟩
        rw [eg] at st; exact st
theorem pz_gap10 {h : kv_H} {n c : Nat} {D : Nat → Nat → Nat} {t : Nat} {TX : Nat → pz_T} {ch : Nat → Nat} {sp ru ca : Nat} {V : List Nat} {X : Nat → Int32} (n0 : 0 < n) (hc : c = 1 ∨ c = 2) (e : pz_E10 h n D t TX sp ru ca) (eb : pz_EB n D t TX ch sp ru ca) (cm : pz_CM (h 112) n V X) (cb : pz_CB n V X) (h125 : ∀ s, s < 2 ^ n → h 125 s = nI (pz_rmb (pz_rm TX t D) s n)) (x2 : Int32) (C : Int32 → Int32 → kv_H → Option (Int32 × kv_H)) : ∃ h', f_X10_gap_L49 (nI c) x2 kv_fu (-1) 0 0 h C = C (pz_pl10 ((pz_gs (pz_gCode c n) (fun k => pz_gDiff n D t TX sp ru ca V X (pz_gRow c n k)) (n ^ c)).map Prod.fst)) (pz_bU (pz_gs (pz_gCode c n) (fun k => pz_gDiff n D t TX sp ru ca V X (pz_gRow c n k)) (n ^ c))) h' ∧ (∀ a, ¬ pz_sc a → a ≠ 111 → h' a = h a) ∧ ∀ b, b ≠ 19 → h' 111 b = h 111 b := by
  have hn := eb.1.1
  have nc : n ^ c ≤ 64 := by
    rcases hc with rfl | rfl
    · rw [Nat.pow_one]; omega
    · rw [Nat.pow_two]; exact Nat.mul_le_mul hn hn
  obtain ⟨code, ecode⟩ : ∃ code, code = pz_gCode c n := ⟨_, rfl⟩
  obtain ⟨diff, ediff⟩ : ∃ diff, diff = (fun k => pz_gDiff n D t TX sp ru ca V X (pz_gRow c n k)) := ⟨_, rfl⟩
  rw [← ecode, ← ediff]
  refine pz_for (fun f k (v : Int32 × Int32 × kv_H) => f_X10_gap_L49 (nI c) x2 f v.1 v.2.1 (nI k) v.2.2 C) (fun k v => v.2.1 = pz_bU (pz_gs code diff k) ∧ v.1 = pz_pl10 ((pz_gs code diff k).map Prod.fst) ∧ (∀ a, a ≠ 126 → a ≠ 127 → a ≠ 131 → a ≠ 132 → a ≠ 128 → a ≠ 129 → a ≠ 111 → v.2.2 a = h a) ∧ ∀ b, b ≠ 19 → v.2.2 111 b = h 111 b) (fun R => ∃ h', R = C (pz_pl10 ((pz_gs code diff (n ^ c)).map Prod.fst)) (pz_bU (pz_gs code diff (n ^ c))) h' ∧ (∀ a, ¬ pz_sc a → a ≠ 111 → h' a = h a) ∧ ∀ b, b ≠ 19 → h' 111 b = h 111 b) (n ^ c) ?_ ?_ kv_fu 0 (-1, 0, h) (Nat.zero_le _) (by rw [show kv_fu = 5000 from rfl]; omega) ⟨rfl, rfl, fun _ _ _ _ _ _ _ _ => rfl, fun _ _ => rfl⟩
  · intro f v ⟨v1, v2, v3, v4⟩
    refine ⟨v.2.2, ?_, fun a q1 q2 => v3 a (by unfold pz_sc at q1; omega) (by unfold pz_sc at q1; omega) (by unfold pz_sc at q1; omega) (by unfold pz_sc at q1; omega) (by unfold pz_sc at q1; omega) (by unfold pz_sc at q1; omega) q2, v4⟩
    show f_X10_gap_L49 (nI c) x2 (f + 1) v.1 v.2.1 (nI (n ^ c)) v.2.2 C = _
    rw [f_X10_gap_L49, pz_rows10 (by rw [v3 112 (by omega) (by omega) (by omega) (by omega) (by omega) (by omega) (by omega)]; exact e.1.1.1) hn (by omega), pz_b, if_pos (nI_le (Nat.le_refl _) (by omega)), v1, v2]
  · intro f k v hk ⟨v1, v2, v3, v4⟩
    right
    obtain ⟨x, r, e1, e2, e3, e4, e5, e6⟩ := pz_gRowX n0 hn hc hk
    obtain ⟨g, eg⟩ : ∃ g, g = v.2.2 := ⟨_, rfl⟩
    rw [← eg] at v3 v4
    have g112 : g 112 = h 112 := v3 112 (by omega) (by omega) (by omega) (by omega) (by omega) (by omega) (by omega)
    obtain ⟨p, l1, l2, l3⟩ := pz_lays10 (h := g) (n := n) (c := c) (k := k) n0 hn (by omega) (by omega) e6 (by rw [g112]; exact e.1.1.1)
    have p112 : p 112 = h 112 := by rw [l3 112 (by omega), g112]
    obtain ⟨h3, b1, b2, b3⟩ := pz_gapB10 (h := p) (x := x) (r := r) (V := V) (X := X) (by omega) (e4 (p 127) l2) e5 (pz_E10_fr e (fun b _ => by rw [p112]) (by rw [l3 _ (by omega)]; exact v3 _ (by omega) (by omega) (by omega) (by omega) (by omega) (by omega) (by omega)) (by rw [l3 _ (by omega)]; exact v3 _ (by omega) (by omega) (by omega) (by omega) (by omega) (by omega) (by omega))) eb (by rw [p112]; exact cm) cb (fun s hs => by rw [l3 125 (by omega), v3 125 (by omega) (by omega) (by omega) (by omega) (by omega) (by omega) (by omega)]; exact h125 s hs)
    rw [e2, ← e1] at b1
    have dk : pz_gDiff n D t TX sp ru ca V X (pz_gRow c n k) = diff k := by rw [ediff]
    rw [dk] at b1
    have f3 : ∀ a, a ≠ 126 → a ≠ 127 → a ≠ 131 → a ≠ 132 → a ≠ 128 → a ≠ 129 → a ≠ 111 → h3 a = h a := fun a q1 q2 q3 q4 q5 q6 q7 => by rw [b2 a q1 q3 q4 q5 q6 q7, l3 a q2, v3 a q1 q2 q3 q4 q5 q6 q7]
    have f4 : ∀ b, b ≠ 19 → h3 111 b = h 111 b := fun b q => by rw [b3 b q, l3 111 (by omega), v4 b q]
    have h127 : h3 127 = p 127 := b2 127 (by omega) (by omega) (by omega) (by omega) (by omega) (by omega)
    have kn : k % n < n := Nat.mod_lt k n0
    have take : (if nI c = (1 : Int32) then (f_X10_gap_L49 (nI c) x2 f (h3 127 0) (diff k) (nI k + 1) h3 C) else (f_X10_gap_L49 (nI c) x2 f ((10 * (h3 127 0)) + (h3 127 1)) (diff k) (nI k + 1) h3 C)) = f_X10_gap_L49 (nI c) x2 f (nI (code k)) (diff k) (nI (k + 1)) h3 C := by
      rw [ecode, pz_gCode, nI_1, h127]
      rcases hc with rfl | rfl
      · rw [Nat.pow_one] at hk
        rw [if_pos (show nI 1 = (1 : Int32) from rfl), if_pos rfl, l2 0 (by omega), show 1 - 1 - 0 = 0 from rfl, Nat.pow_zero, Nat.div_one, Nat.mod_eq_of_lt hk]
      · have d : k / n < n := by
          rw [Nat.div_lt_iff_lt_mul n0]; rw [Nat.pow_two] at hk; exact hk
        rw [if_neg (show ¬ nI 2 = (1 : Int32) by decide), if_neg (by decide), l2 0 (by omega), l2 1 (by omega), show 2 - 1 - 0 = 1 from rfl, show 2 - 1 - 1 = 0 from rfl, Nat.pow_zero, Nat.div_one, Nat.pow_one, Nat.mod_eq_of_lt d, show (10 : Int32) = nI 10 from rfl, pz_mul, pz_add]
    have st : f_X10_gap_L49 (nI c) x2 (f + 1) v.1 v.2.1 (nI k) g C = (if v.1 < 0 then f_X10_gap_L49 (nI c) x2 f (nI (code k)) (diff k) (nI (k + 1)) h3 C else (if diff k ≤ v.2.1 then (f_X10_gap_L49 (nI c) x2 f v.1 v.2.1 (nI (k + 1)) h3 C) else f_X10_gap_L49 (nI c) x2 f (nI (code k)) (diff k) (nI (k + 1)) h3 C)) := by
      rw [← take]
      rw [f_X10_gap_L49, pz_rows10 (by rw [g112]; exact e.1.1.1) hn (by omega), pz_b, if_neg (nI_ge hk (by omega)), l1, pz_b, b1, pz_jn, nI_1]
      rfl
    cases hg : pz_gs code diff k with
    | none =>
      rw [hg] at v1 v2
      rw [if_pos (by rw [v2]; decide)] at st
      refine ⟨(nI (code k), diff k, h3), ⟨by rw [pz_gs0 hg]; rfl, by rw [pz_gs0 hg]; rfl, f3, f4⟩, ?_⟩
      rw [eg] at st; exact st
    | some q =>
      rw [hg] at v1 v2
      have qb := pz_gsB (code := code) (diff := diff) (B := 100 * n) k (fun i hi => by rw [ecode]; exact (pz_gRowB n0 hc (Nat.lt_trans hi hk)).2.2) q hg
      rw [if_neg (by rw [v2]; exact pz_ng (by omega))] at st
      by_cases z : diff k ≤ q.2
      · rw [if_pos (by rw [v1]; exact z)] at st
        refine ⟨(v.1, v.2.1, h3), ⟨?_, ?_, f3, f4⟩, ?_⟩
        · rw [pz_gs1 hg, if_pos z]; exact v1
        · rw [pz_gs1 hg, if_pos z]; exact v2
        · rw [eg] at st; exact st
      · rw [if_neg (by rw [v1]; exact z)] at st
        refine ⟨(nI (code k), diff k, h3), ⟨by rw [pz_gs1 hg, if_neg z]; rfl, by rw [pz_gs1 hg, if_neg z]; rfl, f3, f4⟩, ?_⟩
        rw [eg] at st; exact st
theorem pz_gap (x1 x2 : Int32) (h : kv_H) (c5 : pz_c5 h) : pz_op [] (fun _ => True) (f_X9_gap x1 x2) (f_X10_gap x1 x2) h := by
  obtain ⟨n, D, t, TX, ch, V, X, sp, ru, ca, R, g1, ⟨cc, cm, cb⟩, g3, g4⟩ := c5
  have hn := g1.2.1.2.1.1
  have ht := g1.2.1.2.2.2.1.1
  obtain ⟨e9, eb⟩ := pz_toE9 g1 g3
  have hsp := eb.2.2.2.1
  have l9 : h 82 8 = nI n := g1.1.1
  have l10 : h 112 0 = nI n := g1.2.1.1.1
  rcases pz_rng x1 1 2 (by omega) with q | ⟨c, s1, s2, rfl⟩
  · refine pz_scr (-1000000001) h h ?_ ?_ (fun _ _ => rfl) (fun _ _ => rfl)
    · rw [f_X9_gap]
      by_cases y : x1 < 1
      · rw [if_pos y]
      · rw [if_neg y, if_pos (show (2 : Int32) < x1 from q.resolve_left y)]
    · rw [f_X10_gap, pz_in_1_2, if_pos (show x1 < 1 ∨ 2 < x1 from q)]; rfl
  have A9 : ∀ P Q : Option (Int32 × kv_H), (if nI c < (1 : Int32) then P else if (2 : Int32) < nI c then P else Q) = Q := fun P Q => by
    rw [if_neg (show ¬ nI c < (1 : Int32) from nI_nlt (b := 1) s1 (by omega)), if_neg (show ¬ (2 : Int32) < nI c from nI_nlt (a := 2) s2 (by omega))]
  rcases pz_rng x2 0 1 (by omega) with q | ⟨y, t1, t2, rfl⟩
  · refine pz_scr (-1000000001) h h ?_ ?_ (fun _ _ => rfl) (fun _ _ => rfl)
    · rw [f_X9_gap, A9]; exact pz_rng9 q _ _
    · rw [f_X10_gap, pz_in_1_2G s1 (by omega), pz_b, if_neg (by decide), pz_in_0_1, if_pos (show x2 < 0 ∨ 1 < x2 from q)]; rfl
  have hc : c = 1 ∨ c = 2 := by omega
  by_cases n0 : n = 0
  · refine pz_scr (-1000000005) h h ?_ ?_ (fun _ _ => rfl) (fun _ _ => rfl)
    · rw [f_X9_gap, A9]
      refine (pz_rng9G (a := 0) (b := 1) t1 t2 (by omega) _ _).trans ?_
      rw [l9, n0, pz_vl, if_neg (by decide)]
    · rw [f_X10_gap, pz_in_1_2G s1 (by omega), pz_b, if_neg (by decide), pz_in_0_1G (by omega), pz_b, if_neg (by decide), l10, n0, if_pos (show nI 0 = (0 : Int32) from rfl)]
  have n1 : 0 < n := by omega
  obtain ⟨k, y1, y2, y3⟩ := pz_fill9 (h := h) (q := 82) (by exact e9.1) (by exact e9.2.1) hn (by omega)
  have ek : pz_E9 k 79 n D t TX ch sp ru ca := pz_E9_fr e9 ht (fun a q1 q2 => y3 a (by omega)) (fun a q1 q2 => y3 a (by omega))
  obtain ⟨h1, z1, z2⟩ := pz_gap9 (h := k) (c := c) (V := V) (X := X) n1 hc ek eb (pz_CC_fr cc (fun a q1 q2 => y3 a (by omega))) cb y2 (nI y) (fun z16 z17 h18 => if nI y = 0 then (some (z16, h18)) else (some (z17, h18)))
  have f1 : ∀ a, ¬ pz_sc a → h1 a = h a := fun a q => by rw [z2 a q]; unfold pz_sc at q; exact y3 a (by omega)
  have s112 : h1 112 = h 112 := f1 112 (by unfold pz_sc; omega)
  obtain ⟨ha, x1, x2, x3, x4, x5⟩ := pz_kr10 (h := h1) (sp := sp) (ru := ru) (ca := ca) (by rw [s112]; exact g1.2.1) (by rw [s112]; exact g3.2.2.2.1) (by rw [s112]; exact g3.2.2.2.2.1) (by rw [s112]; exact g3.2.2.2.2.2.1)
  obtain ⟨h2, w1, w2, w3⟩ := pz_gap10 (h := ha) (c := c) (V := V) (X := X) n1 hc x2 eb (by rw [x3, s112]; exact cm) cb x4 (nI y) (fun z17 z18 h19 => if nI y = 0 then (some (z18, h19)) else (some (z17, h19)))
  have B9 : f_X9_gap (nI c) (nI y) h = f_X9_gap_L79 (nI c) (nI y) (nI n) (nI (n ^ c)) kv_fu 0 (-1000000005) 0 k (fun z16 z17 h18 => if nI y = 0 then (some (z16, h18)) else (some (z17, h18))) := by
    rw [f_X9_gap, A9]
    refine (pz_rng9G (a := 0) (b := 1) t1 t2 (by omega) _ _).trans ?_
    rw [l9, pz_vl, if_pos (show (1 : Int32) ≤ nI n from nI_le (a := 1) n1 (by omega)), y1, pz_b, pz_jn]
    rcases hc with rfl | rfl
    · rw [if_pos (show nI 1 = (1 : Int32) from rfl), Nat.pow_one]
    · rw [if_neg (show ¬ nI 2 = (1 : Int32) by decide), pz_mul, Nat.pow_two]
  have B10 : f_X10_gap (nI c) (nI y) h1 = f_X10_gap_L49 (nI c) (nI y) kv_fu (-1) 0 0 ha (fun z17 z18 h19 => if nI y = 0 then (some (z18, h19)) else (some (z17, h19))) := by
    rw [f_X10_gap, pz_in_1_2G s1 (by omega), pz_b, if_neg (by decide), pz_in_0_1G (by omega), pz_b, if_neg (by decide), s112, l10, if_neg (show ¬ nI n = (0 : Int32) from fun z => n0 ((nI_eq (b := 0) (by omega) (by omega)).mp z)), x1, pz_b]
  obtain ⟨q, hq⟩ := pz_gsS (code := pz_gCode c n) (diff := fun k => pz_gDiff n D t TX sp ru ca V X (pz_gRow c n k)) (n ^ c) (Nat.pow_pos n1)
  rw [hq] at z1 w1
  have fr2 : ∀ a, ¬ pz_sc a → a ≠ 111 → h2 a = h1 a := fun a q1 q2 => (w2 a q1 q2).trans (x5 a q1)
  have fr3 : ∀ b, b ≠ 19 → h2 111 b = h1 111 b := fun b q => by rw [w3 b q, x5 111 (by unfold pz_sc; omega)]
  by_cases z : nI y = (0 : Int32)
  · rw [if_pos z] at z1 w1
    exact pz_scr2 q.2 h1 h2 (by rw [B9, z1]; rfl) (by rw [B10, w1]; rfl) f1 fr2 fr3
  · rw [if_neg z] at z1 w1
    exact pz_scr2 (nI q.1) h1 h2 (by rw [B9, z1]; rfl) (by rw [B10, w1]; rfl) f1 fr2 fr3

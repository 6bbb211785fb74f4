/-! PURE PART: would -/
theorem pz_wouldL10 {n : Nat} {D : Nat → Nat → Nat} {t : Nat} {TX : Nat → pz_T} {sp ru ca : Nat} {L : List Nat} {r127 : Nat → Int32} (hsp : sp ≤ 60) (hru : ru ≤ 4) (hca : ca ≤ 1) (hl : L.length ≤ 24) (hL : ∀ u, u ∈ L → u < n) (row : ∀ i u, L[i]? = some u → r127 i = nI u) (C : kv_H → Option (Int32 × kv_H)) : ∀ (r : List Nat) (i : Nat) (V : List Nat) (X : Nat → Int32) (h : kv_H) (fu : Nat), L.drop i = r → i ≤ L.length → r.length < fu → pz_E10 h n D t TX sp ru ca → h 127 = r127 → pz_CM (h 112) n V X → pz_CB n V X → ∃ h', f_X10_wouldCost_L28 (nI L.length) fu (nI i) h C = C h' ∧ pz_CM (h' 112) n (pz_runS n D t TX sp ru ca r V X).1 (pz_runS n D t TX sp ru ca r V X).2 ∧ (∀ a, a ≠ 131 → a ≠ 132 → a ≠ 112 → h' a = h a) ∧ ∀ b, pz_sb b → h' 112 b = h 112 b := by
  intro r
  induction r with
  | nil =>
    intro i V X h fu e1 e2 e3 e er cm cb
    obtain ⟨fu, rfl⟩ : ∃ f, fu = f + 1 := ⟨fu - 1, by omega⟩
    have := List.drop_eq_nil_iff.mp e1
    refine ⟨h, ?_, cm, fun _ _ _ _ => rfl, fun _ _ => rfl⟩
    rw [f_X10_wouldCost_L28, if_pos (nI_le (by omega) (by omega))]
  | cons u r ih =>
    intro i V X h fu e1 e2 e3 e er cm cb
    obtain ⟨fu, rfl⟩ : ∃ f, fu = f + 1 := ⟨fu - 1, by omega⟩
    rw [List.length_cons] at e3
    obtain ⟨d1, d2, d3⟩ := pz_dropC e1
    have un := hL u (pz_mem_of_get d1)
    obtain ⟨h1, x1, x2, x3, x4⟩ := pz_ask10 e hsp hru hca cm cb un
    obtain ⟨h', y1, y2, y3, y4⟩ := ih (i + 1) _ _ h1 fu d2 (by omega) (by omega) (pz_E10_fr e x4 (x3 _ (by omega) (by omega) (by omega)) (x3 _ (by omega) (by omega) (by omega))) (by rw [x3 _ (by omega) (by omega) (by omega)]; exact er) x2 (pz_askB e.1.2.1 cb un).1
    refine ⟨h', ?_, y2, fun a q1 q2 q3 => (y3 a q1 q2 q3).trans (x3 a q1 q2 q3), fun b q => (y4 b q).trans (x4 b q)⟩
    rw [f_X10_wouldCost_L28, if_neg (nI_ge d3 (by omega)), pz_kN (by omega) (by omega), pz_cl (by omega), er, row i u d1, x1, pz_b, nI_1, y1]
theorem pz_wc10 {h : kv_H} {n : Nat} {D : Nat → Nat → Nat} {t : Nat} {TX : Nat → pz_T} {sp ru ca : Nat} {V : List Nat} {X : Nat → Int32} {L : List Nat} (e : pz_E10 h n D t TX sp ru ca) (hsp : sp ≤ 60) (hru : ru ≤ 4) (hca : ca ≤ 1) (hl : L.length ≤ 24) (hL : ∀ u, u ∈ L → u < n) (row : ∀ i u, L[i]? = some u → h 127 i = nI u) (cm : pz_CM (h 112) n V X) (cb : pz_CB n V X) : ∃ h', f_X10_wouldCost (nI L.length) h = some ((pz_runS n D t TX sp ru ca L V X).2 1 - X 1, h') ∧ ∀ a, a ≠ 126 → a ≠ 131 → a ≠ 132 → h' a = h a := by
  have st1 : ∀ C : kv_H → Option (Int32 × kv_H), f_X10_wouldCost_L2 (nI L.length) kv_fu 0 h C = C (pz_st h 126 0 98 (fun b => h 112 b)) := by
    intro C
    refine pz_for (fun f k (g : kv_H) => f_X10_wouldCost_L2 (nI L.length) f (nI k) g C) (fun k g => g = pz_st h 126 0 k (fun b => h 112 b)) (fun R => R = C (pz_st h 126 0 98 (fun b => h 112 b))) 98 ?_ ?_ kv_fu 0 h (by omega) (by rw [show kv_fu = 5000 from rfl]; omega) (pz_st0 h 126 0 _).symm
    · intro f g hg
      show f_X10_wouldCost_L2 (nI L.length) (f + 1) (nI 98) g C = _
      rw [f_X10_wouldCost_L2, if_pos (by decide), hg]
    · intro f k g hk hg
      right
      refine ⟨pz_st h 126 0 (k + 1) (fun b => h 112 b), rfl, ?_⟩
      show f_X10_wouldCost_L2 (nI L.length) (f + 1) (nI k) g C = _
      rw [f_X10_wouldCost_L2, if_neg (show ¬ (98 : Int32) ≤ nI k from nI_ge (b := 98) hk (by omega)), pz_kN (by omega) (by omega), pz_kN (by omega) (by omega), pz_hl, pz_cl (by omega), hg, pz_stne h (by omega), pz_st1 h 126 0 k _ (by omega) _ rfl, nI_1]
  obtain ⟨g, eg⟩ : ∃ g, g = pz_st h 126 0 98 (fun b => h 112 b) := ⟨_, rfl⟩
  have fg : ∀ a, a ≠ 126 → g a = h a := fun a q => by rw [eg]; exact pz_stne h q
  have g126 : ∀ b, b < 98 → g 126 b = h 112 b := fun b q => by rw [eg]; exact pz_stin h (Nat.zero_le b) q
  have eG : pz_E10 g n D t TX sp ru ca := pz_E10_fr e (fun b _ => by rw [fg 112 (by omega)]) (fg _ (by omega)) (fg _ (by omega))
  obtain ⟨h1, x1, x2, x3, x4⟩ := pz_wouldL10 (L := L) (r127 := h 127) hsp hru hca hl hL row (fun h5 => kv_vl ((h5 112 7) - (h5 126 7)) (fun e6 => f_X10_wouldCost_L68 e6 kv_fu 0 h5 (fun h8 => some (e6, h8)))) L 0 V X g kv_fu rfl (by omega) (by rw [show kv_fu = 5000 from rfl]; omega) eG (fg _ (by omega)) (by rw [fg _ (by omega)]; exact cm) cb
  have st2 : ∀ e6 : Int32, f_X10_wouldCost_L68 e6 kv_fu 0 h1 (fun h8 => some (e6, h8)) = some (e6, pz_st h1 112 0 98 (fun b => h1 126 b)) := by
    intro e6
    refine pz_for (fun f k (g : kv_H) => f_X10_wouldCost_L68 e6 f (nI k) g (fun h8 => some (e6, h8))) (fun k g => g = pz_st h1 112 0 k (fun b => h1 126 b)) (fun R => R = some (e6, pz_st h1 112 0 98 (fun b => h1 126 b))) 98 ?_ ?_ kv_fu 0 h1 (by omega) (by rw [show kv_fu = 5000 from rfl]; omega) (pz_st0 h1 112 0 _).symm
    · intro f g hg
      show f_X10_wouldCost_L68 e6 (f + 1) (nI 98) g _ = _
      rw [f_X10_wouldCost_L68, if_pos (by decide), hg]
    · intro f k g hk hg
      right
      refine ⟨pz_st h1 112 0 (k + 1) (fun b => h1 126 b), rfl, ?_⟩
      show f_X10_wouldCost_L68 e6 (f + 1) (nI k) g _ = _
      rw [f_X10_wouldCost_L68, if_neg (show ¬ (98 : Int32) ≤ nI k from nI_ge (b := 98) hk (by omega)), pz_kN (by omega) (by omega), pz_kN (by omega) (by omega), pz_hl, pz_cl (by omega), hg, pz_stne h1 (by omega), pz_st1 h1 112 0 k _ (by omega) _ rfl, nI_1]
  have h1126 : h1 126 = g 126 := x3 126 (by omega) (by omega) (by omega)
  refine ⟨pz_st h1 112 0 98 (fun b => h1 126 b), ?_, ?_⟩
  · rw [f_X10_wouldCost, st1, ← eg]
    refine x1.trans ?_
    rw [pz_vl, st2, x2.2.2.1, h1126, g126 7 (by omega), cm.2.2.1]
  · intro a q1 q2 q3
    by_cases z : a = 112
    · subst z
      funext b
      by_cases y : b < 98
      · rw [pz_stin h1 (Nat.zero_le b) y, h1126, g126 b y]
      · rw [pz_stout h1 (by omega), x4 b (by unfold pz_sb; omega), fg 112 (by omega)]
    · rw [pz_stne h1 z, x3 a q2 q3 z, fg a q1]
theorem pz_tries10 {h : kv_H} {R : List Nat} (rl : R.length ≤ 24) (e8 : h 112 8 = nI R.length) (row : ∀ i u, R[i]? = some u → h 112 (74 + i) = nI u) : ∃ h', f_X10_triesRow h = some (nI R.length, h') ∧ (∀ i u, R[i]? = some u → h' 127 i = nI u) ∧ ∀ a, a ≠ 127 → h' a = h a := by
  refine ⟨pz_st h 127 0 R.length (fun b => h 112 (74 + b)), ?_, ?_, fun a q => pz_stne h q⟩
  · unfold f_X10_triesRow
    refine pz_for (fun f k (g : kv_H) => f_X10_triesRow_L2 f (nI k) g (fun h2 => some ((h2 112 8), h2))) (fun k g => g = pz_st h 127 0 k (fun b => h 112 (74 + b))) (fun R' => R' = some (nI R.length, pz_st h 127 0 R.length (fun b => h 112 (74 + b)))) R.length ?_ ?_ kv_fu 0 h (by omega) (by rw [show kv_fu = 5000 from rfl]; omega) (pz_st0 h 127 0 _).symm
    · intro f g hg
      show f_X10_triesRow_L2 (f + 1) (nI R.length) g _ = _
      rw [f_X10_triesRow_L2, hg, pz_stne h (by omega), e8, if_pos (nI_le (Nat.le_refl _) (by omega))]
    · intro f k g hk hg
      right
      refine ⟨pz_st h 127 0 (k + 1) (fun b => h 112 (74 + b)), rfl, ?_⟩
      show f_X10_triesRow_L2 (f + 1) (nI k) g _ = _
      rw [f_X10_triesRow_L2, hg, pz_stne h (by omega), e8, if_neg (nI_ge hk (by omega)), show (74 : Int32) + nI k = nI (74 + k) from pz_add 74 k, pz_kN (by omega) (by omega), pz_kN (by omega) (by omega), pz_hl, pz_cl (by omega), pz_cl (by omega), pz_st1 h 127 0 k _ (by omega) _ rfl, nI_1]
  · intro i u hi
    rw [pz_stin h (Nat.zero_le i) (pz_iLt hi)]; exact row i u hi
theorem pz_would (h : kv_H) (c : pz_c5 h) : pz_op [5] pz_c5 f_X9_would f_X10_would h := by
  obtain ⟨n, D, t, TX, ch, V, X, sp, ru, ca, R, w⟩ := c
  have w' := w
  obtain ⟨g1, ⟨cc, cm, cb⟩, g3, g4⟩ := w
  have cc : pz_CC h 91 V X := cc
  have hn := g1.2.1.2.1.1
  have ht := g1.2.1.2.2.2.1.1
  have vl := pz_vlen cb hn
  obtain ⟨e9, eb⟩ := pz_toE9 g1 g3
  have rl := g4.2.2.1
  have hL : ∀ u, u ∈ R → u < n := fun u hu => by
    obtain ⟨i, hi⟩ := pz_get_of_mem hu
    exact (g4.2.2.2 i u hi).2.2
  obtain ⟨k, k1, k2, k3⟩ := pz_course (c0 := 6) (c := 91) (by omega) vl cc
  obtain ⟨h1, x1, x2, x3⟩ := pz_mk9 (w := 79) (c := 6) (q2 := 80) (nq2 := 24) (h0 := h) (L := R) (by omega) (by omega) (by omega) (by omega) (by omega) (by omega) (fun i u hi => (g4.2.2.2 i u hi).1) hL eb (X 1) (fun h4 => some (((h4 6 6) - X 1), h4)) R 0 V X k kv_fu rfl (by omega) (by rw [show kv_fu = 5000 from rfl]; omega) (pz_E9_fr e9 ht (fun a q1 q2 => k3 a (by omega)) (fun a q1 q2 => k3 a (by omega))) (k3 80 (by omega)) k2 cb
  have f1 : ∀ a, ¬ pz_sc a → h1 a = h a := fun a q => by unfold pz_sc at q; rw [x3 a (by omega) (by omega) (by omega), k3 a (by omega)]
  have s112 : h1 112 = h 112 := f1 112 (by unfold pz_sc; omega)
  obtain ⟨ha, a1, a2, a3, a4⟩ := pz_toE10 (h := h1) (sp := sp) (ru := ru) (ca := ca) (by rw [s112]; exact g1.2.1) (by rw [s112]; exact g3.2.2.2.1) (by rw [s112]; exact g3.2.2.2.2.1) (by rw [s112]; exact g3.2.2.2.2.2.1)
  obtain ⟨hb, b1, b2, b3⟩ := pz_tries10 (h := ha) (R := R) rl (by rw [a3, s112]; exact g4.2.1) (fun i u hi => by rw [a3, s112]; exact (g4.2.2.2 i u hi).2.1)
  have b112 : hb 112 = h 112 := by rw [b3 112 (by omega), a3, s112]
  obtain ⟨h2, y1, y2⟩ := pz_wc10 (h := hb) (L := R) (V := V) (X := X) (pz_E10_fr a2 (fun b _ => by rw [b3 112 (by omega)]) (b3 _ (by omega)) (b3 _ (by omega))) eb.2.2.2.1 eb.2.2.2.2.1 eb.2.2.2.2.2 rl hL b2 (by rw [b112]; exact cm) cb
  have s2 : h2 112 = h 112 := by rw [y2 112 (by omega) (by omega) (by omega), b112]
  refine pz_close w' V X ((pz_runS n D t TX sp ru ca R V X).2 1 - X 1) h1 h2 ?_ ?_ cb (pz_CC_fr cc (fun a q1 q2 => f1 a (by unfold pz_sc; omega))) (by rw [s2]; exact cm) (fun a q1 q2 => f1 a q1) (fun a q1 q2 => ?_) (fun b q => by rw [s2, s112])
  · rw [f_X9_would, k1, pz_b, k3 79 (by omega), g4.1, f_X8_makeAskings, k2.2.2.2.1, pz_vl, show (0 : Int32) = nI 0 from rfl, x1, pz_b, x2.2.2.2.1]
  · rw [f_X10_would, a1, pz_b, b1, pz_b, y1, pz_b]
  · have q1' := q1
    unfold pz_sc at q1
    rw [y2 a (by omega) (by omega) (by omega), b3 a (by omega), a4 a q1']

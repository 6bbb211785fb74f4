/-! PURE PART: space, would -/
theorem pz_space (x : Int32) (h : kv_H) (c : pz_c5 h) : pz_op [5] pz_c5 (f_X9_space x) (f_X10_space x) h := by
  obtain ⟨n, D, t, TX, ch, V, X, sp, ru, ca, R, w⟩ := c
  have c : pz_c5 h := ⟨n, D, t, TX, ch, V, X, sp, ru, ca, R, w⟩
  obtain ⟨g1, ⟨cc, cm, cb⟩, g3, g4⟩ := w
  have cc : pz_CC h 91 V X := cc
  have hn := g1.2.1.2.1.1
  have vl := pz_vlen cb hn
  rcases pz_cases x 61 (by omega) with q | ⟨k, hk, rfl⟩
  · refine pz_op_same (-1000000001) c ?_ ?_
    · rw [f_X9_space]
      exact pz_rng9 (a := 0) (b := 60) (pz_badI (n := 60) q (by omega)) _ _
    · rw [f_X10_space, pz_in_0_60B q]; rfl
  obtain ⟨l, el⟩ : ∃ l, l = kv_up h 79 7 (nI k) := ⟨_, rfl⟩
  have fl : ∀ a, a ≠ 79 → l a = h a := fun a q => by rw [el]; exact pz_upne q
  have fl79 : ∀ b, b ≠ 7 → l 79 b = h 79 b := fun b q => by rw [el, pz_upeq, pz_upd, if_neg q]
  have l7 : l 79 7 = nI k := by rw [el, pz_upeq, pz_upd, if_pos rfl]
  have e9 : pz_E9 l 79 n D t TX ch k ru ca := by
    obtain ⟨e9, _⟩ := pz_toE9 g1 g3
    obtain ⟨lc, lx, tc, lw, e7, e8, e9⟩ := e9
    have ht := g1.2.1.2.2.2.1.1
    refine ⟨⟨by rw [fl _ (by omega)]; exact lc.1, fun i hi => ?_⟩, fun i hi => ?_, fun i hi => ?_, fun j hj => ?_, l7, by rw [fl79 _ (by omega)]; exact e8, by rw [fl79 _ (by omega)]; exact e9⟩
    · rw [fl _ (by omega), fl _ (by omega), fl _ (by omega), fl _ (by omega), fl _ (by omega)]; exact lc.2 i hi
    · rw [fl _ (by omega), fl _ (by omega), fl _ (by omega)]; exact lx i hi
    · rw [fl _ (by omega), fl _ (by omega)]; exact tc i hi
    · rw [fl _ (by omega)]; exact lw j hj
  have eb0 := (pz_toE9 g1 g3).2
  have eb : pz_EB n D t TX ch k ru ca := ⟨eb0.1, eb0.2.1, eb0.2.2.1, by omega, eb0.2.2.2.2.1, eb0.2.2.2.2.2⟩
  obtain ⟨h1, x1, x2, x3⟩ := pz_thr9 (w := 79) (c := 91) (lim := k) (fun z9 h10 => some (z9, h10)) (by omega) (by omega) (by omega) eb (by omega) V.length V X l 0 0 kv_fu rfl (by omega) (by rw [show kv_fu = 5000 from rfl]; omega) (by omega) e9 (pz_CC_fr cc (fun a q1 q2 => fl a (by omega))) cb
  have f1 : ∀ a, a ≠ 49 → a ≠ 50 → a ≠ 79 → (a < 91 ∨ 94 < a) → h1 a = h a := fun a q1 q2 q3 q4 => (x3 a q1 q2 (by omega) (by omega)).trans (fl a q3)
  have s112 : h1 112 = h 112 := f1 112 (by omega) (by omega) (by omega) (by omega)
  obtain ⟨ha, a1, a2, a3, a4⟩ := pz_toE10 (h := h1) (sp := sp) (ru := ru) (ca := ca) (by rw [s112]; exact g1.2.1) (by rw [s112]; exact g3.2.2.2.1) (by rw [s112]; exact g3.2.2.2.2.1) (by rw [s112]; exact g3.2.2.2.2.2.1)
  obtain ⟨lm, elm⟩ : ∃ lm, lm = kv_up ha 112 3 (nI k) := ⟨_, rfl⟩
  have flm : ∀ a, a ≠ 112 → lm a = ha a := fun a q => by rw [elm]; exact pz_upne q
  have flm112 : ∀ b, b ≠ 3 → lm 112 b = h 112 b := fun b q => by rw [elm, pz_upeq, pz_upd, if_neg q, a3, s112]
  have lm3 : lm 112 3 = nI k := by rw [elm, pz_upeq, pz_upd, if_pos rfl]
  have mlm : pz_M (lm 112) n D t TX := pz_M_fr g1.2.1 (flm112 _ (by omega)) (flm112 _ (by omega)) (fun i j q1 q2 => flm112 _ (by omega)) (fun b q1 q2 => flm112 _ (by omega))
  have e10 : pz_E10 lm n D t TX k ru ca := ⟨mlm, fun i hi => by rw [flm _ (by omega), flm _ (by omega)]; exact a2.2.1 i hi, lm3, by rw [flm112 _ (by omega)]; exact g3.2.2.2.2.1, by rw [flm112 _ (by omega)]; exact g3.2.2.2.2.2.1⟩
  have cmlm : pz_CM (lm 112) n V X := (pz_G2_fr (h' := h) (s' := lm 112) hn ⟨cc, cm, cb⟩ (fun _ _ _ => rfl) (flm112 _ (by omega)) (flm112 _ (by omega)) (flm112 _ (by omega)) (flm112 _ (by omega)) (fun i q => flm112 _ (by omega)) (fun i j q1 q2 q3 => flm112 _ (by omega))).2.1
  obtain ⟨h2, y1, y2, y3, y4⟩ := pz_thr10 (lim := k) (rr := 0) (fun z6 h7 => some (z6, h7)) (show k ≤ 60 by omega) eb.2.2.2.2.1 eb.2.2.2.2.2 (by omega) V.length V X lm 0 kv_fu rfl (by rw [show kv_fu = 5000 from rfl]; omega) (by omega) e10 cmlm cb
  have f2 : ∀ a, ¬ pz_sc a → a ≠ 79 → (a < 91 ∨ 94 < a) → a ≠ 112 → h2 a = h a := fun a q1 q2 q3 q4 => by
    rw [y3 a (by unfold pz_sc at q1; omega) (by unfold pz_sc at q1; omega) q4, flm a q4, a4 a q1]
    exact f1 a (by unfold pz_sc at q1; omega) (by unfold pz_sc at q1; omega) q2 q3
  have f79 : h2 79 = h1 79 := by rw [y3 79 (by omega) (by omega) (by omega), flm 79 (by omega), a4 79 (by unfold pz_sc; omega)]
  have f79' : h1 79 = l 79 := x3 79 (by omega) (by omega) (by omega) (by omega)
  have fs : ∀ b, pz_sb b → b ≠ 3 → h2 112 b = h 112 b := fun b q q3 => by rw [y4 b q, flm112 b q3]
  obtain ⟨t1, t2, t3, t4⟩ := pz_thrB (t := t) (TX := TX) (ru := ru) (ca := ca) (lim := k) g1.2.1.2.1 V.length V X rfl cb
  refine ⟨nI (0 + (pz_thr D t TX ru ca k V.length V X).1), h1, h2, ?_, ?_, ⟨n, D, t, TX, ch, _, _, k, ru, ca, R, ?_, ⟨?_, y2, t1⟩, ?_, ?_⟩, ?_⟩
  · rw [f_X9_space]
    refine (pz_rng9G (a := 0) (b := 60) (Nat.zero_le k) (by omega) (by omega) _ _).trans ?_
    rw [pz_hl, ← el, f_X8_throwDownTo, show (0 : Int32) = nI 0 from rfl, x1, pz_b]
  · rw [f_X10_space, pz_in_0_60G hk, pz_b, if_neg (by decide), a1, pz_b, pz_hl, ← elm, f_X10_throwsFor, show (0 : Int32) = nI 0 from rfl, y1, pz_b]
  · exact pz_G1_fr g1 (fun a q1 q2 => f2 a (by unfold pz_sc; omega) (by omega) (by omega) (by omega)) (fun a q1 q2 => f2 a (by unfold pz_sc; omega) (by omega) (by omega) (by omega)) (by rw [f79, f79', fl79 _ (by omega)]) (fs _ (by unfold pz_sb; omega) (by omega)) (fs _ (by unfold pz_sb; omega) (by omega)) (fun i j q1 q2 => fs _ (by unfold pz_sb; omega) (by omega)) (fun b q1 q2 => fs _ (by unfold pz_sb; omega) (by omega))
  · refine pz_CC_fr x2 (fun a q1 q2 => ?_)
    rw [y3 a (by omega) (by omega) (by omega), flm a (by omega), a4 a (by unfold pz_sc; omega)]
  · refine ⟨by rw [f79, f79']; exact l7, by rw [f79, f79', fl79 _ (by omega)]; exact g3.2.1, by rw [f79, f79', fl79 _ (by omega)]; exact g3.2.2.1, by rw [y4 _ (by unfold pz_sb; omega)]; exact lm3, by rw [fs _ (by unfold pz_sb; omega) (by omega)]; exact g3.2.2.2.2.1, by rw [fs _ (by unfold pz_sb; omega) (by omega)]; exact g3.2.2.2.2.2.1, by omega, g3.2.2.2.2.2.2.2⟩
  · exact pz_G4_fr g4 (by rw [f79, f79', fl79 _ (by omega)]) (f2 _ (by unfold pz_sc; omega) (by omega) (by omega) (by omega)) (fs _ (by unfold pz_sb; omega) (by omega)) (fun i _ => fs _ (by unfold pz_sb; omega) (by omega))
  · intro a b q1 q2
    by_cases z : pz_sc a
    · exact absurd (pz_scR z) q2
    · by_cases y : (a = 79 ∧ b = 6) ∨ ¬ (a = 79 ∨ (91 ≤ a ∧ a ≤ 94) ∨ a = 112)
      · rcases y with y | y
        · rw [y.1, f79, f79', fl79 b (by omega)]
        · rw [f2 a z (by omega) (by omega) (by omega)]
      · exfalso; apply q1; rw [pz_reg5 (by omega) (by omega)]; decide

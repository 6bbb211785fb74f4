/-! PURE PART: fire, space, run, would -/
noncomputable def pz_fi : Nat → List Nat → (Nat → Int32) → Nat × List Nat × (Nat → Int32)
  | 0, V, X => (0, V, X)
  | k + 1, V, X => if pz_dz (pz_zn (X 2)) % 8 ∈ V then ((pz_fi k (V.eraseIdx (V.idxOf (pz_dz (pz_zn (X 2)) % 8))) (pz_Xu X 2 (pz_zn (X 2)))).1 + 1, (pz_fi k (V.eraseIdx (V.idxOf (pz_dz (pz_zn (X 2)) % 8))) (pz_Xu X 2 (pz_zn (X 2)))).2) else pz_fi k V (pz_Xu X 2 (pz_zn (X 2)))
theorem pz_idx {V : List Nat} {u : Nat} (h : u ∈ V) : V[V.idxOf u]? = some u := by
  have := List.idxOf_lt_length_of_mem h
  rw [List.getElem?_eq_getElem this, List.getElem_idxOf]
theorem pz_fiB {n : Nat} (hn : n ≤ 8) : ∀ (k : Nat) (V : List Nat) (X : Nat → Int32), pz_CB n V X → pz_CB n (pz_fi k V X).2.1 (pz_fi k V X).2.2 ∧ (pz_fi k V X).1 ≤ k := by
  intro k
  induction k with
  | zero => intro V X cb; exact ⟨cb, Nat.le_refl 0⟩
  | succ k ih =>
    intro V X cb
    rw [pz_fi]
    have cb' := pz_Xu_CB cb (pz_zn (X 2)) (j := 2) 0 (by omega) hn
    by_cases z : pz_dz (pz_zn (X 2)) % 8 ∈ V
    · rw [if_pos z]
      have := ih _ _ (pz_CB_era cb' (pz_idx z))
      exact ⟨this.1, Nat.succ_le_succ this.2⟩
    · rw [if_neg z]
      have := ih _ _ cb'
      exact ⟨this.1, Nat.le_succ_of_le this.2⟩
theorem pz_fire9 (c n : Nat) (hn : n ≤ 8) (hc : c < 2147483648) (C : Int32 → kv_H → Option (Int32 × kv_H)) : ∀ (k i v : Nat) (V : List Nat) (X : Nat → Int32) (h : kv_H) (fu : Nat), i + k = c → v ≤ i → k < fu → pz_CC h 91 V X → pz_CB n V X → ∃ h', f_X9_fire_L18 (nI c) fu (nI v) (nI i) h C = C (nI (v + (pz_fi k V X).1)) h' ∧ pz_CC h' 91 (pz_fi k V X).2.1 (pz_fi k V X).2.2 ∧ ∀ a, (a < 91 ∨ 94 < a) → h' a = h a := by
  intro k
  induction k with
  | zero =>
    intro i v V X h fu e1 e2 e3 cc cb
    obtain ⟨fu, rfl⟩ : ∃ f, fu = f + 1 := ⟨fu - 1, by omega⟩
    refine ⟨h, ?_, cc, fun _ _ => rfl⟩
    rw [f_X9_fire_L18, if_pos (nI_le (by omega) (by omega))]; rfl
  | succ k ih =>
    intro i v V X h fu e1 e2 e3 cc cb
    obtain ⟨fu, rfl⟩ : ∃ f, fu = f + 1 := ⟨fu - 1, by omega⟩
    have vl := pz_vlen cb hn
    have hV : ∀ v, v ∈ V → v < 8 := fun v hv => by have := cb.2.1 v hv; omega
    have cc' := pz_Xu_CC0 cc 2 (by omega) (pz_zn (X 2))
    have cb' := pz_Xu_CB cb (pz_zn (X 2)) (j := 2) 0 (by omega) hn
    have md := Nat.mod_lt (pz_dz (pz_zn (X 2))) (show 0 < 8 from by omega)
    obtain ⟨g, eg⟩ : ∃ g, g = kv_up h 91 7 (pz_zn (X 2)) := ⟨_, rfl⟩
    rw [show 5 + 2 = 7 from rfl, ← eg] at cc'
    have fg : ∀ a, a ≠ 91 → g a = h a := fun a q => by rw [eg]; exact pz_upne q
    rw [f_X9_fire_L18, if_neg (nI_ge (by omega) (by omega)), pz_draw9 cc.2.2.2.2.1, pz_b, ← eg, show (8 : Int32) = nI 8 from rfl, pz_mod _ (by omega) (by omega), pz_fi]
    by_cases z : pz_dz (pz_zn (X 2)) % 8 ∈ V
    · rw [if_pos z]
      obtain ⟨h1, x1, x2, x3⟩ := (pz_leave9 cc' vl hV cb.1 _ (by omega)).1 _ (pz_idx z)
      obtain ⟨h', y1, y2, y3⟩ := ih (i + 1) (v + 1) _ _ h1 fu (by omega) (by omega) (by omega) x2 (pz_CB_era cb' (pz_idx z))
      refine ⟨h', ?_, y2, fun a q => by rw [y3 a q, x3 a (by omega) (by omega), fg a (by omega)]⟩
      rw [x1, pz_b, if_neg (by decide), nI_1, nI_1, y1]
      congr 2; omega
    · rw [if_neg z]
      obtain ⟨h', y1, y2, y3⟩ := ih (i + 1) v _ _ g fu (by omega) (by omega) (by omega) cc' cb'
      refine ⟨h', ?_, y2, fun a q => by rw [y3 a q, fg a (by omega)]⟩
      rw [(pz_leave9 cc' vl hV cb.1 _ (by omega)).2 z, pz_b, if_pos rfl, nI_1, y1]
theorem pz_fire10 (c n : Nat) (hn : n ≤ 8) (hc : c < 2147483648) (C : Int32 → kv_H → Option (Int32 × kv_H)) : ∀ (k i v : Nat) (V : List Nat) (X : Nat → Int32) (h : kv_H) (fu : Nat), i + k = c → v ≤ i → k < fu → pz_CM (h 112) n V X → pz_CB n V X → ∃ h', f_X10_fire_L19 (nI c) fu (nI v) (nI i) h C = C (nI (v + (pz_fi k V X).1)) h' ∧ pz_CM (h' 112) n (pz_fi k V X).2.1 (pz_fi k V X).2.2 ∧ (∀ a, a ≠ 112 → h' a = h a) ∧ ∀ b, pz_sb b → h' 112 b = h 112 b := by
  intro k
  induction k with
  | zero =>
    intro i v V X h fu e1 e2 e3 cm cb
    obtain ⟨fu, rfl⟩ : ∃ f, fu = f + 1 := ⟨fu - 1, by omega⟩
    refine ⟨h, ?_, cm, fun _ _ => rfl, fun _ _ => rfl⟩
    rw [f_X10_fire_L19, if_pos (nI_le (by omega) (by omega))]; rfl
  | succ k ih =>
    intro i v V X h fu e1 e2 e3 cm cb
    obtain ⟨fu, rfl⟩ : ∃ f, fu = f + 1 := ⟨fu - 1, by omega⟩
    have vl := pz_vlen cb hn
    have hV : ∀ v, v ∈ V → v < 8 := fun v hv => by have := cb.2.1 v hv; omega
    have cb' := pz_Xu_CB cb (pz_zn (X 2)) (j := 2) 0 (by omega) hn
    have md := Nat.mod_lt (pz_dz (pz_zn (X 2))) (show 0 < 8 from by omega)
    obtain ⟨g, eg⟩ : ∃ g, g = kv_up h 112 9 (pz_zn (X 2)) := ⟨_, rfl⟩
    have cm' : pz_CM (g 112) n V (pz_Xu X 2 (pz_zn (X 2))) := by rw [eg]; exact pz_Xu_CM hn vl cm 9 2 0 _ (by omega) (by omega) pz_upeq
    have fg : ∀ a, a ≠ 112 → g a = h a := fun a q => by rw [eg]; exact pz_upne q
    have fs : ∀ b, pz_sb b → g 112 b = h 112 b := fun b q => by unfold pz_sb at q; rw [eg, pz_upeq, pz_upd, if_neg (by omega)]
    rw [f_X10_fire_L19, if_neg (nI_ge (by omega) (by omega)), pz_draw10 cm.2.2.2.1, pz_b, ← eg, show (8 : Int32) = nI 8 from rfl, pz_mod _ (by omega) (by omega), pz_fi]
    by_cases z : pz_dz (pz_zn (X 2)) % 8 ∈ V
    · rw [if_pos z]
      have jl := pz_iLt (pz_idx z)
      obtain ⟨h1, x1, x2, x3, x4⟩ := pz_leave10 cm' hn vl jl
      obtain ⟨h', y1, y2, y3, y4⟩ := ih (i + 1) (v + 1) _ _ h1 fu (by omega) (by omega) (by omega) x2 (pz_CB_era cb' (pz_idx z))
      refine ⟨h', ?_, y2, fun a q => by rw [y3 a q, x3 a q, fg a q], fun b q => by rw [y4 b q, x4 b (by unfold pz_sb at q; omega) (by unfold pz_sb at q; omega), fs b q]⟩
      rw [(pz_place10 cm' vl hV _ (by omega)).1 _ (pz_idx z) cb.1, pz_b, if_neg (pz_ng (by omega)), x1, pz_b, nI_1, nI_1, y1]
      congr 2; omega
    · rw [if_neg z]
      obtain ⟨h', y1, y2, y3, y4⟩ := ih (i + 1) v _ _ g fu (by omega) (by omega) (by omega) cm' cb'
      refine ⟨h', ?_, y2, fun a q => by rw [y3 a q, fg a q], fun b q => by rw [y4 b q, fs b q]⟩
      rw [(pz_place10 cm' vl hV _ (by omega)).2 z, pz_b, if_pos (by decide), nI_1, y1]
theorem pz_rng9 {β : Type} {x : Int32} {a b : Nat} (q : x < nI a ∨ nI b < x) (P Q : Option β) : (if x < nI a then P else if x ≤ nI b then Q else P) = P := by
  by_cases y : x < nI a
  · rw [if_pos y]
  · rw [if_neg y]
    rcases q with z | z
    · exact absurd z y
    · rw [if_neg (Int32.not_le.mpr z)]
theorem pz_rng9G {β : Type} {k a b : Nat} (q1 : a ≤ k) (q2 : k ≤ b) (hb : b < 2147483648) (P Q : Option β) : (if nI k < nI a then P else if nI k ≤ nI b then Q else P) = Q := by
  rw [if_neg (nI_nlt q1 (by omega)), if_pos (nI_le q2 hb)]
theorem pz_fire (x : Int32) (h : kv_H) (c : pz_c5 h) : pz_op [5] pz_c5 (f_X9_fire x) (f_X10_fire x) h := by
  obtain ⟨n, D, t, TX, ch, V, X, sp, ru, ca, R, w⟩ := c
  have c : pz_c5 h := ⟨n, D, t, TX, ch, V, X, sp, ru, ca, R, w⟩
  have w' := w
  obtain ⟨g1, ⟨cc, cm, cb⟩, g3, g4⟩ := w
  have cc : pz_CC h 91 V X := cc
  have hn := g1.2.1.2.1.1
  rcases pz_rng x 1 20 (by omega) with q | ⟨k, s1, s2, rfl⟩
  · refine pz_op_same (-1000000001) c ?_ ?_
    · rw [f_X9_fire]; exact pz_rng9 q _ _
    · rw [f_X10_fire, pz_in_1_20, if_pos (show x < 1 ∨ 20 < x from q)]; rfl
  obtain ⟨h1, x1, x2, x3⟩ := pz_fire9 k n hn (by omega) (fun z5 h6 => some (z5, h6)) k 0 0 V X h kv_fu (by omega) (by omega) (by rw [show kv_fu = 5000 from rfl]; omega) cc cb
  have s112 : h1 112 = h 112 := x3 112 (by omega)
  obtain ⟨h2, y1, y2, y3, y4⟩ := pz_fire10 k n hn (by omega) (fun z8 h9 => some (z8, h9)) k 0 0 V X h1 kv_fu (by omega) (by omega) (by rw [show kv_fu = 5000 from rfl]; omega) (by rw [s112]; exact cm) cb
  refine pz_close w' _ _ (nI (0 + (pz_fi k V X).1)) h1 h2 ?_ ?_ (pz_fiB hn k V X cb).1 x2 y2 (fun a q1 q2 => x3 a q2) (fun a q1 q2 => y3 a q2) y4
  · rw [f_X9_fire]; exact (pz_rng9G s1 s2 (by omega) _ _).trans x1
  · rw [f_X10_fire, pz_in_1_20G s1 (by omega), pz_b, if_neg (by decide)]; exact y1
/-- a row of askings -/
noncomputable def pz_runS (n : Nat) (D : Nat → Nat → Nat) (t : Nat) (TX : Nat → pz_T) (sp ru ca : Nat) : List Nat → List Nat → (Nat → Int32) → List Nat × (Nat → Int32)
  | [], V, X => (V, X)
  | u :: r, V, X => pz_runS n D t TX sp ru ca r (pz_askS n D t TX sp ru ca V X u).2.1 (pz_askS n D t TX sp ru ca V X u).2.2
theorem pz_runB {n : Nat} {D : Nat → Nat → Nat} {t : Nat} {TX : Nat → pz_T} {sp ru ca : Nat} (b : pz_LB n D) : ∀ (L V : List Nat) (X : Nat → Int32), (∀ u, u ∈ L → u < n) → pz_CB n V X → pz_CB n (pz_runS n D t TX sp ru ca L V X).1 (pz_runS n D t TX sp ru ca L V X).2 := by
  intro L
  induction L with
  | nil => intro V X _ cb; exact cb
  | cons u r ih =>
    intro V X hL cb
    rw [pz_runS]
    exact ih _ _ (fun v hv => hL v (List.mem_cons_of_mem _ hv)) (pz_askB b cb (hL u (List.mem_cons_self ..))).1
theorem pz_mk9 {w c q2 nq2 n : Nat} {D : Nat → Nat → Nat} {t : Nat} {TX : Nat → pz_T} {ch : Nat → Nat} {sp ru ca : Nat} {L : List Nat} {h0 : kv_H} (hw : 50 < w) (hc : (c + 3 < 49 ∨ 78 < c)) (hcw : c + 3 < w ∨ w + 11 < c) (hq : (q2 ≠ 49 ∧ q2 ≠ 50) ∧ (q2 < c ∨ c + 3 < q2)) (hl : L.length ≤ nq2) (hq2 : nq2 < 4000) (row : ∀ i u, L[i]? = some u → h0 q2 i = nI u) (hL : ∀ u, u ∈ L → u < n) (eb : pz_EB n D t TX ch sp ru ca) (e4 : Int32) (C : kv_H → Option (Int32 × kv_H)) : ∀ (r : List Nat) (i : Nat) (V : List Nat) (X : Nat → Int32) (h : kv_H) (fu : Nat), L.drop i = r → i ≤ L.length → r.length < fu → pz_E9 h w n D t TX ch sp ru ca → h q2 = h0 q2 → pz_CC h c V X → pz_CB n V X → ∃ h', f_X8_makeAskings_L9 w c q2 nq2 (nI L.length) e4 fu (nI i) h C = C h' ∧ pz_CC h' c (pz_runS n D t TX sp ru ca r V X).1 (pz_runS n D t TX sp ru ca r V X).2 ∧ ∀ a, a ≠ 49 → a ≠ 50 → (a < c ∨ c + 3 < a) → h' a = h a := by
  have ht := eb.2.1.1
  intro r
  induction r with
  | nil =>
    intro i V X h fu e1 e2 e3 e eq cc cb
    obtain ⟨fu, rfl⟩ : ∃ f, fu = f + 1 := ⟨fu - 1, by omega⟩
    have := List.drop_eq_nil_iff.mp e1
    refine ⟨h, ?_, cc, fun _ _ _ _ => rfl⟩
    rw [f_X8_makeAskings_L9, if_pos (nI_le (by omega) (by omega))]
  | cons u r ih =>
    intro i V X h fu e1 e2 e3 e eq cc cb
    obtain ⟨fu, rfl⟩ : ∃ f, fu = f + 1 := ⟨fu - 1, by omega⟩
    rw [List.length_cons] at e3
    obtain ⟨d1, d2, d3⟩ := pz_dropC e1
    have un := hL u (pz_mem_of_get d1)
    obtain ⟨h1, x1, x2, x3⟩ := pz_ask9 hw hc hcw e eb cc cb un
    obtain ⟨h', y1, y2, y3⟩ := ih (i + 1) _ _ h1 fu d2 (by omega) (by omega) (pz_E9_fr e ht (fun a q1 q2 => x3 a (by omega) (by omega) (by omega)) (fun a q1 q2 => x3 a (by omega) (by omega) (by omega))) (by rw [x3 q2 (by omega) (by omega) (by omega)]; exact eq) x2 (pz_askB eb.1 cb un).1
    refine ⟨h', ?_, y2, fun a q1 q2 q3 => (y3 a q1 q2 q3).trans (x3 a q1 q2 q3)⟩
    rw [f_X8_makeAskings_L9, if_neg (nI_ge d3 (by omega)), if_neg (nI_ge (by omega) (by omega)), pz_kN (by omega) (by omega), pz_cl (by omega), eq, row i u d1, x1, pz_b, nI_1, y1]
theorem pz_run10 {n : Nat} {D : Nat → Nat → Nat} {t : Nat} {TX : Nat → pz_T} {sp ru ca : Nat} {L : List Nat} (hsp : sp ≤ 60) (hru : ru ≤ 4) (hca : ca ≤ 1) (hl : L.length ≤ 24) (hL : ∀ u, u ∈ L → u < n) (e4 : Int32) (C : kv_H → Option (Int32 × kv_H)) : ∀ (r : List Nat) (i : Nat) (V : List Nat) (X : Nat → Int32) (h : kv_H) (fu : Nat), L.drop i = r → i ≤ L.length → r.length < fu → pz_E10 h n D t TX sp ru ca → (∀ i u, L[i]? = some u → h 112 (74 + i) = nI u) → pz_CM (h 112) n V X → pz_CB n V X → ∃ h', f_X10_run_L43 (nI L.length) e4 fu (nI i) h C = C h' ∧ pz_CM (h' 112) n (pz_runS n D t TX sp ru ca r V X).1 (pz_runS n D t TX sp ru ca r V X).2 ∧ (∀ a, a ≠ 131 → a ≠ 132 → a ≠ 112 → h' a = h a) ∧ ∀ b, pz_sb b → h' 112 b = h 112 b := by
  intro r
  induction r with
  | nil =>
    intro i V X h fu e1 e2 e3 e row cm cb
    obtain ⟨fu, rfl⟩ : ∃ f, fu = f + 1 := ⟨fu - 1, by omega⟩
    have := List.drop_eq_nil_iff.mp e1
    refine ⟨h, ?_, cm, fun _ _ _ _ => rfl, fun _ _ => rfl⟩
    rw [f_X10_run_L43, if_pos (nI_le (by omega) (by omega))]
  | cons u r ih =>
    intro i V X h fu e1 e2 e3 e row cm cb
    obtain ⟨fu, rfl⟩ : ∃ f, fu = f + 1 := ⟨fu - 1, by omega⟩
    rw [List.length_cons] at e3
    obtain ⟨d1, d2, d3⟩ := pz_dropC e1
    have un := hL u (pz_mem_of_get d1)
    obtain ⟨h1, x1, x2, x3, x4⟩ := pz_ask10 e hsp hru hca cm cb un
    obtain ⟨h', y1, y2, y3, y4⟩ := ih (i + 1) _ _ h1 fu d2 (by omega) (by omega) (pz_E10_fr e x4 (x3 _ (by omega) (by omega) (by omega)) (x3 _ (by omega) (by omega) (by omega))) (fun j v hv => by rw [x4 _ (by unfold pz_sb; omega)]; exact row j v hv) x2 (pz_askB e.1.2.1 cb un).1
    refine ⟨h', ?_, y2, fun a q1 q2 q3 => (y3 a q1 q2 q3).trans (x3 a q1 q2 q3), fun b q => (y4 b q).trans (x4 b q)⟩
    rw [f_X10_run_L43, if_neg (nI_ge d3 (by omega)), show (74 : Int32) + nI i = nI (74 + i) from pz_add 74 i, pz_kN (by omega) (by omega), pz_cl (by omega), row i u d1, x1, pz_b, nI_1, y1]
theorem pz_run (x : Int32) (h : kv_H) (c : pz_c5 h) : pz_op [5] pz_c5 (f_X9_run x) (f_X10_run x) h := by
  obtain ⟨n, D, t, TX, ch, V, X, sp, ru, ca, R, w⟩ := c
  have c : pz_c5 h := ⟨n, D, t, TX, ch, V, X, sp, ru, ca, R, w⟩
  have w' := w
  obtain ⟨g1, ⟨cc, cm, cb⟩, g3, g4⟩ := w
  have cc : pz_CC h 91 V X := cc
  have hn := g1.2.1.2.1.1
  obtain ⟨e9, eb⟩ := pz_toE9 g1 g3
  rcases pz_rng x 1 24 (by omega) with q | ⟨k, s1, s2, rfl⟩
  · refine pz_op_same (-1000000001) c ?_ ?_
    · rw [f_X9_run]; exact pz_rng9 q _ _
    · rw [f_X10_run, pz_in_1_24, if_pos (show x < 1 ∨ 24 < x from q)]; rfl
  have A9 : f_X9_run (nI k) h = (if nI k ≤ (h 79 5) then (kv_b (f_X8_makeAskings 79 91 80 24 (nI k) h) (fun r2 h1 => some (r2, h1))) else (some ((-1000000002), h))) := by
    rw [f_X9_run]; exact pz_rng9G s1 s2 (by omega) _ _
  have A10 : ∀ g, f_X10_run (nI k) g = (if nI k ≤ (g 112 8) then (kv_b (f_X10_knows g) (fun _ h3 =>
      kv_vl (h3 112 7) (fun e4 =>
      f_X10_run_L43 (nI k) e4 kv_fu 0 h3 (fun  h7 =>
      some (((h7 112 7) - e4), h7)))))
    else (some ((-1000000002), g))) := fun g => by
    rw [f_X10_run, pz_in_1_24G s1 (by omega), pz_b, if_neg (by decide)]
  have rl := g4.2.2.1
  by_cases z : k ≤ R.length
  · obtain ⟨L, eL⟩ : ∃ L, L = R.take k := ⟨_, rfl⟩
    have ll : L.length = k := by rw [eL, List.length_take]; omega
    have lg : ∀ i u, L[i]? = some u → R[i]? = some u := fun i u hi => by
      have il := pz_iLt hi
      rw [eL, List.getElem?_take, if_pos (by omega)] at hi; exact hi
    have hL : ∀ u, u ∈ L → u < n := fun u hu => by
      obtain ⟨i, hi⟩ := pz_get_of_mem hu
      exact (g4.2.2.2 i u (lg i u hi)).2.2
    obtain ⟨h1, x1, x2, x3⟩ := pz_mk9 (w := 79) (c := 91) (q2 := 80) (nq2 := 24) (h0 := h) (L := L) (by omega) (by omega) (by omega) (by omega) (by omega) (by omega) (fun i u hi => (g4.2.2.2 i u (lg i u hi)).1) hL eb (X 1) (fun h4 => some (((h4 91 6) - X 1), h4)) L 0 V X h kv_fu rfl (by omega) (by rw [show kv_fu = 5000 from rfl]; omega) e9 rfl cc cb
    have s112 : h1 112 = h 112 := x3 112 (by omega) (by omega) (by omega)
    obtain ⟨ha, a1, a2, a3, a4⟩ := pz_toE10 (h := h1) (sp := sp) (ru := ru) (ca := ca) (by rw [s112]; exact g1.2.1) (by rw [s112]; exact g3.2.2.2.1) (by rw [s112]; exact g3.2.2.2.2.1) (by rw [s112]; exact g3.2.2.2.2.2.1)
    have cma : pz_CM (ha 112) n V X := by rw [a3, s112]; exact cm
    obtain ⟨h2, y1, y2, y3, y4⟩ := pz_run10 (L := L) eb.2.2.2.1 eb.2.2.2.2.1 eb.2.2.2.2.2 (by omega) hL (X 1) (fun h7 => some (((h7 112 7) - X 1), h7)) L 0 V X ha kv_fu rfl (by omega) (by rw [show kv_fu = 5000 from rfl]; omega) a2 (fun i u hi => by rw [a3, s112]; exact (g4.2.2.2 i u (lg i u hi)).2.1) cma cb
    rw [ll] at x1 y1
    refine pz_close w' _ _ ((pz_runS n D t TX sp ru ca L V X).2 1 - X 1) h1 h2 ?_ ?_ (pz_runB g1.2.1.2.1 L V X hL cb) x2 y2 (fun a q1 q2 => x3 a (by unfold pz_sc at q1; omega) (by unfold pz_sc at q1; omega) q2) (fun a q1 q2 => (y3 a (by unfold pz_sc at q1; omega) (by unfold pz_sc at q1; omega) q2).trans (a4 a q1)) (fun b q => by rw [y4 b q, a3])
    · rw [A9, g4.1, if_pos (nI_le z (by omega)), f_X8_makeAskings, cc.2.2.2.1, pz_vl, show (0 : Int32) = nI 0 from rfl, x1, pz_b, x2.2.2.2.1]
    · rw [A10, s112, g4.2.1, if_pos (nI_le z (by omega)), a1, pz_b, cma.2.2.1, pz_vl, show (0 : Int32) = nI 0 from rfl, y1, y2.2.2.1]
  · refine pz_op_same (-1000000002) c ?_ ?_
    · rw [A9, g4.1, if_neg (nI_ge (by omega) (by omega))]
    · rw [A10, g4.2.1, if_neg (nI_ge (by omega) (by omega))]

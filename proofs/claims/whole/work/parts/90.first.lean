/-! PURE PART: what goes first, by the reference: loops -/
theorem pz_am10 {n : Nat} {D : Nat → Nat → Nat} {t : Nat} {TX : Nat → pz_T} {sp ru ca : Nat} {V : List Nat} {X : Nat → Int32} {h0 : kv_H} (C : Int32 → kv_H → Option (Int32 × kv_H)) (e : pz_E10 h0 n D t TX sp ru ca) (hru : ru ≤ 4) (hca : ca ≤ 1) (r3 : ru ≠ 3) (cm : pz_CM (h0 112) n V X) (vl : V.length ≤ 8) (hV : ∀ v, v ∈ V → v < n) : ∀ (r : List Nat) (i : Nat) (b : Option (Nat × Int32)) (v2 : Int32) (h : kv_H) (fu : Nat), V.drop i = r → i ≤ V.length → r.length < fu → (∀ q, b = some q → q.1 < 8) → (∀ a, a ≠ 131 → a ≠ 132 → h a = h0 a) → ∃ h', f_X10_goesFirst_L69 fu v2 (pz_pl10 (b.map Prod.fst)) (pz_bU b) (nI i) h C = C (pz_pl10 ((pz_am (pz_may D ca V) (pz_ur TX t (pz_rm TX t D) ru X) r i b).map Prod.fst)) h' ∧ ∀ a, a ≠ 131 → a ≠ 132 → h' a = h0 a := by
  intro r
  induction r with
  | nil =>
    intro i b v2 h fu e1 il e2 hb fr
    obtain ⟨fu, rfl⟩ : ∃ f, fu = f + 1 := ⟨fu - 1, by omega⟩
    refine ⟨h, ?_, fr⟩
    have := List.drop_eq_nil_iff.mp e1
    rw [f_X10_goesFirst_L69, fr 112 (by omega) (by omega), cm.1, if_pos (nI_le this (by omega))]; rfl
  | cons u r ih =>
    intro i b v2 h fu e1 il e2 hb fr
    obtain ⟨fu, rfl⟩ : ∃ f, fu = f + 1 := ⟨fu - 1, by omega⟩
    rw [List.length_cons] at e2
    obtain ⟨d1, d2, d3⟩ := pz_dropC e1
    have s112 : h 112 = h0 112 := fr 112 (by omega) (by omega)
    have cm' : pz_CM (h 112) n V X := by rw [s112]; exact cm
    have e' : pz_E10 h n D t TX sp ru ca := pz_E10_fr e (fun b _ => by rw [s112]) (fr _ (by omega) (by omega)) (fr _ (by omega) (by omega))
    rw [f_X10_goesFirst_L69, cm'.1, if_neg (nI_ge d3 (by omega)), pz_mayGo10 e'.1 cm' vl hV e'.2.2.2.2 hca d1, pz_b, pz_am]
    by_cases z : pz_may D ca V u = true
    · rw [if_pos z, if_neg (by decide), if_pos z, pz_jn, e'.2.2.2.1, if_neg (show ¬ nI ru = (3 : Int32) from fun y => r3 ((nI_eq (b := 3) (by omega) (by omega)).mp y))]
      obtain ⟨g, x1, x2⟩ := pz_ur10 e' hru cm' vl hV d1
      have gr : ∀ a, a ≠ 131 → a ≠ 132 → g a = h0 a := fun a q1 q2 => (x2 a q1 q2).trans (fr a q1 q2)
      rw [x1, pz_b]
      dsimp only
      rw [pz_jn, nI_1]
      match b, hb with
      | none, _ =>
        rw [if_pos (show pz_pl10 (Option.map Prod.fst none) < 0 from by decide)]
        exact ih (i + 1) (some (i, pz_ur TX t (pz_rm TX t D) ru X u)) (v2 + (-1)) g fu d2 (by omega) (by omega) (fun q hq => by cases hq; show i < 8; omega) gr
      | some (j, y), hb =>
        have j8 : j < 8 := hb (j, y) rfl
        rw [if_neg (show ¬ pz_pl10 (Option.map Prod.fst (some (j, y))) < 0 from pz_ng (by omega)), pz_am1]
        by_cases q : pz_ur TX t (pz_rm TX t D) ru X u ≤ y
        · rw [if_pos (show pz_ur TX t (pz_rm TX t D) ru X u ≤ pz_bU (some (j, y)) from q), if_pos q]
          exact ih (i + 1) (some (j, y)) (v2 + (-1)) g fu d2 (by omega) (by omega) hb gr
        · rw [if_neg (show ¬ pz_ur TX t (pz_rm TX t D) ru X u ≤ pz_bU (some (j, y)) from q), if_neg q]
          exact ih (i + 1) (some (i, pz_ur TX t (pz_rm TX t D) ru X u)) (v2 + (-1)) g fu d2 (by omega) (by omega) (fun q hq => by cases hq; show i < 8; omega) gr
    · rw [if_neg z, if_pos rfl, if_neg z, nI_1]
      exact ih (i + 1) b v2 h fu d2 (by omega) (by omega) hb fr
/-- by lot, once it is found -/
theorem pz_lot10A {n : Nat} {D : Nat → Nat → Nat} {t : Nat} {TX : Nat → pz_T} {sp ca : Nat} {V : List Nat} {X : Nat → Int32} {h : kv_H} (C : Int32 → kv_H → Option (Int32 × kv_H)) (e : pz_E10 h n D t TX sp 3 ca) (hca : ca ≤ 1) (cm : pz_CM (h 112) n V X) (vl : V.length ≤ 8) (hV : ∀ v, v ∈ V → v < n) (j : Nat) (hj : j < 8) : ∀ (r : List Nat) (i m : Nat) (fu : Nat), V.drop i = r → i ≤ V.length → r.length < fu → m + r.length < 2147483640 → f_X10_goesFirst_L69 fu (-nI (m + 1)) (nI j) 1 (nI i) h C = C (nI j) h := by
  intro r
  induction r with
  | nil =>
    intro i m fu e1 il e2 e3
    obtain ⟨fu, rfl⟩ : ∃ f, fu = f + 1 := ⟨fu - 1, by omega⟩
    have := List.drop_eq_nil_iff.mp e1
    rw [f_X10_goesFirst_L69, cm.1, if_pos (nI_le this (by omega))]
  | cons u r ih =>
    intro i m fu e1 il e2 e3
    obtain ⟨fu, rfl⟩ : ∃ f, fu = f + 1 := ⟨fu - 1, by omega⟩
    rw [List.length_cons] at e2 e3
    obtain ⟨d1, d2, d3⟩ := pz_dropC e1
    rw [f_X10_goesFirst_L69, cm.1, if_neg (nI_ge d3 (by omega)), pz_mayGo10 e.1 cm vl hV e.2.2.2.2 hca d1, pz_b]
    have ng : -nI (m + 1) + (-1) = -nI (m + 1 + 1) := by
      rw [show (-1 : Int32) = -nI 1 from rfl, ← Int32.sub_eq_add_neg, ← Int32.neg_add, pz_add]
    by_cases z : pz_may D ca V u = true
    · rw [if_pos z, if_neg (by decide), pz_jn, e.2.2.2.1, if_pos (show nI 3 = (3 : Int32) from rfl), if_neg (show ¬ -nI (m + 1) = (0 : Int32) from of_eq_false (pz_neq (a := m + 1) (b := 0) (by omega) (by omega) (by omega)))]
      dsimp only
      rw [pz_jn, if_neg (pz_ng (by omega)), if_pos (by decide), nI_1, ng]
      exact ih (i + 1) (m + 1) fu d2 (by omega) (by omega) (by omega)
    · rw [if_neg z, if_pos rfl, nI_1]
      exact ih (i + 1) m fu d2 (by omega) (by omega) (by omega)
theorem pz_lot10 {n : Nat} {D : Nat → Nat → Nat} {t : Nat} {TX : Nat → pz_T} {sp ca : Nat} {V : List Nat} {X : Nat → Int32} {h : kv_H} (C : Int32 → kv_H → Option (Int32 × kv_H)) (e : pz_E10 h n D t TX sp 3 ca) (hca : ca ≤ 1) (cm : pz_CM (h 112) n V X) (vl : V.length ≤ 8) (hV : ∀ v, v ∈ V → v < n) : ∀ (r : List Nat) (i k : Nat) (v3 : Int32) (fu : Nat), V.drop i = r → i ≤ V.length → r.length < fu → k < (r.filter (pz_may D ca V)).length → f_X10_goesFirst_L69 fu (nI k) v3 0 (nI i) h C = C (pz_pl10 (pz_nth (pz_may D ca V) r i k)) h := by
  intro r
  induction r with
  | nil =>
    intro i k v3 fu e1 il e2 e3
    exact absurd e3 (by simp)
  | cons u r ih =>
    intro i k v3 fu e1 il e2 e3
    obtain ⟨fu, rfl⟩ : ∃ f, fu = f + 1 := ⟨fu - 1, by omega⟩
    have fl : ((u :: r).filter (pz_may D ca V)).length ≤ (u :: r).length := List.length_filter_le ..
    have rl : (u :: r).length ≤ V.length := by rw [← e1, List.length_drop]; omega
    rw [List.length_cons] at e2 fl rl
    obtain ⟨d1, d2, d3⟩ := pz_dropC e1
    rw [f_X10_goesFirst_L69, cm.1, if_neg (nI_ge d3 (by omega)), pz_mayGo10 e.1 cm vl hV e.2.2.2.2 hca d1, pz_b, pz_nth]
    by_cases z : pz_may D ca V u = true
    · rw [List.filter_cons_of_pos z, List.length_cons] at e3 fl
      rw [if_pos z, if_neg (by decide), pz_jn, e.2.2.2.1, if_pos (show nI 3 = (3 : Int32) from rfl), if_pos z]
      by_cases k0 : k = 0
      · rw [if_pos (show nI k = (0 : Int32) from by rw [k0]; rfl), if_pos k0]
        dsimp only
        rw [pz_jn]
        have st : f_X10_goesFirst_L69 fu (nI k + (-1)) (nI i) 1 (nI (i + 1)) h C = C (nI i) h := by
          rw [k0, show nI 0 + (-1) = -nI (0 + 1) from rfl]
          exact pz_lot10A C e hca cm vl hV i (by omega) r (i + 1) 0 fu d2 (by omega) (by omega) (by omega)
        rw [nI_1]
        by_cases q : v3 < 0
        · rw [if_pos q]; exact st
        · rw [if_neg q, if_neg (by decide)]; exact st
      · obtain ⟨k', rfl⟩ : ∃ k', k = k' + 1 := ⟨k - 1, by omega⟩
        rw [if_neg (show ¬ nI (k' + 1) = (0 : Int32) from fun y => k0 ((nI_eq (b := 0) (by omega) (by omega)).mp y)), if_neg k0]
        dsimp only
        rw [pz_jn, show nI (k' + 1) + (-1) = nI k' from (Int32.sub_eq_add_neg (nI (k' + 1)) 1).symm.trans (pz_sub (a := k' + 1) (b := 1) (by omega)), show k' + 1 - 1 = k' from by omega]
        rw [nI_1]
        by_cases q : v3 < 0
        · rw [if_pos q]; exact ih (i + 1) k' _ fu d2 (by omega) (by omega) (by omega)
        · rw [if_neg q, if_pos (by decide)]; exact ih (i + 1) k' _ fu d2 (by omega) (by omega) (by omega)
    · rw [List.filter_cons_of_neg z] at e3
      rw [if_neg z, if_pos rfl, if_neg z, nI_1]
      exact ih (i + 1) k v3 fu d2 (by omega) (by omega) e3
theorem pz_fst10 {h : kv_H} {n : Nat} {D : Nat → Nat → Nat} {t : Nat} {TX : Nat → pz_T} {sp ru ca : Nat} {V : List Nat} {X : Nat → Int32} (e : pz_E10 h n D t TX sp ru ca) (hru : ru ≤ 4) (hca : ca ≤ 1) (cm : pz_CM (h 112) n V X) (cb : pz_CB n V X) : ∃ h', f_X10_goesFirst h = some (pz_pl10 (pz_fst (pz_may D ca V) (pz_ur TX t (pz_rm TX t D) ru X) ru V (X 2)).1, h') ∧ h' 112 9 = (pz_fst (pz_may D ca V) (pz_ur TX t (pz_rm TX t D) ru X) ru V (X 2)).2 ∧ (∀ a, a ≠ 131 → a ≠ 132 → a ≠ 112 → h' a = h a) ∧ (∀ b, b ≠ 9 → h' 112 b = h 112 b) := by
  have hn := e.1.2.1.1
  have vl := pz_vlen cb hn
  have hV := cb.2.1
  have fl : (V.filter (pz_may D ca V)).length ≤ V.length := List.length_filter_le ..
  have cnt : ∀ C : Int32 → kv_H → Option (Int32 × kv_H), f_X10_goesFirst_L4 kv_fu 0 0 h C = C (nI (V.filter (pz_may D ca V)).length) h := by
    intro C
    refine pz_for (fun f k (v : Int32) => f_X10_goesFirst_L4 f v (nI k) h C) (fun k v => v = nI ((V.take k).filter (pz_may D ca V)).length) (fun R => R = C (nI (V.filter (pz_may D ca V)).length) h) V.length ?_ ?_ kv_fu 0 _ (by omega) (by rw [show kv_fu = 5000 from rfl]; omega) rfl
    · intro f v hv
      show f_X10_goesFirst_L4 (f + 1) v (nI V.length) h _ = _
      rw [f_X10_goesFirst_L4, cm.1, if_pos (nI_le (Nat.le_refl _) (by omega)), hv, List.take_length]
    · intro f k v hk hv
      right
      obtain ⟨w, hw⟩ : ∃ w, V[k]? = some w := ⟨V[k]'(by omega), List.getElem?_eq_getElem _⟩
      refine ⟨nI ((V.take (k + 1)).filter (pz_may D ca V)).length, rfl, ?_⟩
      show f_X10_goesFirst_L4 (f + 1) v (nI k) h _ = _
      rw [f_X10_goesFirst_L4, cm.1, if_neg (nI_ge hk (by omega)), pz_mayGo10 e.1 cm vl hV e.2.2.2.2 hca hw, pz_b, hv, List.take_add_one, hw, Option.toList_some, List.filter_append, List.length_append, nI_1]
      by_cases z : pz_may D ca V w = true
      · rw [if_pos z, if_neg (by decide), List.filter_cons_of_pos z, pz_vl, nI_1]; rfl
      · rw [if_neg z, if_pos rfl, List.filter_cons_of_neg z, pz_vl, show (0 : Int32) = nI 0 from rfl, pz_add]; rfl
  rw [f_X10_goesFirst, cnt, pz_jn, pz_jn, e.2.2.2.1]
  unfold pz_fst
  by_cases r3 : ru = 3
  · subst r3
    rw [if_pos (show nI 3 = (3 : Int32) from rfl)]
    by_cases z0 : (V.filter (pz_may D ca V)).length = 0
    · rw [if_pos z0, if_pos (by rw [z0]; decide)]
      have nil : V.filter (pz_may D ca V) = [] := List.eq_nil_of_length_eq_zero z0
      have main : ∀ (r : List Nat) (i : Nat) (fu : Nat), V.drop i = r → i ≤ V.length → r.length < fu → f_X10_goesFirst_L69 fu 0 (-1) 0 (nI i) h (fun z16 h17 => some (z16, h17)) = some (-1, h) := by
        intro r
        induction r with
        | nil =>
          intro i fu e1 il e2
          obtain ⟨fu, rfl⟩ : ∃ f, fu = f + 1 := ⟨fu - 1, by omega⟩
          have := List.drop_eq_nil_iff.mp e1
          rw [f_X10_goesFirst_L69, cm.1, if_pos (nI_le this (by omega))]
        | cons u r ih =>
          intro i fu e1 il e2
          obtain ⟨fu, rfl⟩ : ∃ f, fu = f + 1 := ⟨fu - 1, by omega⟩
          rw [List.length_cons] at e2
          obtain ⟨d1, d2, d3⟩ := pz_dropC e1
          have z : ¬ pz_may D ca V u = true := fun y => absurd (nil ▸ List.mem_filter.mpr ⟨pz_mem_of_get d1, y⟩) (by simp)
          rw [f_X10_goesFirst_L69, cm.1, if_neg (nI_ge d3 (by omega)), pz_mayGo10 e.1 cm vl hV e.2.2.2.2 hca d1, pz_b, if_neg z, if_pos rfl, nI_1]
          exact ih (i + 1) fu d2 (by omega) (by omega)
      exact ⟨h, main V 0 kv_fu rfl (by omega) (by rw [show kv_fu = 5000 from rfl]; omega), cm.2.2.2.1, fun _ _ _ _ => rfl, fun _ _ => rfl⟩
    · rw [if_neg z0, if_neg (show ¬ nI (V.filter (pz_may D ca V)).length ≤ (0 : Int32) from nI_ge (a := 0) (by omega) (by omega)), pz_draw10 cm.2.2.2.1, pz_b, pz_z (show ¬ nI (V.filter (pz_may D ca V)).length = (0 : Int32) from fun y => z0 ((nI_eq (b := 0) (by omega) (by omega)).mp y)), pz_mod _ (by omega) (by omega), if_pos (show (3 : Nat) = 3 from rfl)]
      have g1 : ∀ b, b ≠ 9 → kv_up h 112 9 (pz_zn (X 2)) 112 b = h 112 b := fun b q => by simp (disch := omega) only [pz_upne, pz_upeq, pz_upd, if_neg, if_pos, if_true, if_false]
      have e' : pz_E10 (kv_up h 112 9 (pz_zn (X 2))) n D t TX sp 3 ca := pz_E10_fr e (fun b q => g1 b (by unfold pz_sb at q; omega)) (pz_upne (by omega)) (pz_upne (by omega))
      have cm' : pz_CM (kv_up h 112 9 (pz_zn (X 2)) 112) n V (pz_Xu X 2 (pz_zn (X 2))) := pz_Xu_CM hn vl cm 9 2 0 _ (by omega) (by omega) pz_upeq
      refine ⟨_, pz_lot10 _ e' hca cm' vl hV V 0 _ (-1) kv_fu rfl (by omega) (by rw [show kv_fu = 5000 from rfl]; omega) (Nat.mod_lt _ (by omega)), ?_, ?_, g1⟩
      · simp (disch := omega) only [pz_upne, pz_upeq, pz_upd, if_neg, if_pos, if_true, if_false]
      · intro a q1 q2 q3; exact pz_upne q3
  · rw [if_neg r3, if_neg (show ¬ nI ru = (3 : Int32) from fun y => r3 ((nI_eq (b := 3) (by omega) (by omega)).mp y))]
    obtain ⟨g, x1, x2⟩ := pz_am10 (fun z16 h17 => some (z16, h17)) e hru hca r3 cm vl hV V 0 none 0 h kv_fu rfl (by omega) (by rw [show kv_fu = 5000 from rfl]; omega) (fun q hq => by cases hq) (fun _ _ _ => rfl)
    by_cases z0 : (V.filter (pz_may D ca V)).length = 0
    · rw [if_pos z0]
      have nil : V.filter (pz_may D ca V) = [] := List.eq_nil_of_length_eq_zero z0
      have none' : ∀ (r : List Nat) (i : Nat), (∀ u, u ∈ r → u ∈ V) → pz_am (pz_may D ca V) (pz_ur TX t (pz_rm TX t D) ru X) r i none = none := by
        intro r
        induction r with
        | nil => intro i _; rfl
        | cons u r ih =>
          intro i hr
          have z : ¬ pz_may D ca V u = true := fun y => absurd (nil ▸ List.mem_filter.mpr ⟨hr u (List.mem_cons_self ..), y⟩) (by simp)
          rw [pz_am, if_neg z]; exact ih (i + 1) (fun v hv => hr v (List.mem_cons_of_mem _ hv))
      rw [none' V 0 (fun _ q => q)] at x1
      exact ⟨g, x1, by rw [x2 112 (by omega) (by omega)]; exact cm.2.2.2.1, fun a q1 q2 q3 => x2 a q1 q2, fun b _ => by rw [x2 112 (by omega) (by omega)]⟩
    · rw [if_neg z0]
      exact ⟨g, x1, by rw [x2 112 (by omega) (by omega)]; exact cm.2.2.2.1, fun a q1 q2 q3 => x2 a q1 q2, fun b _ => by rw [x2 112 (by omega) (by omega)]⟩

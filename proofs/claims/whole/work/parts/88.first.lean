/-! PURE PART: what goes first, by the class -/
theorem pz_dropC {V r : List Nat} {i u : Nat} (e : V.drop i = u :: r) : V[i]? = some u ∧ V.drop (i + 1) = r ∧ i < V.length := by
  have a : V[i]? = some u := by
    have := List.getElem?_drop (xs := V) (i := i) (j := 0)
    rw [e, Nat.add_zero] at this
    rw [← this]; rfl
  refine ⟨a, ?_, pz_iLt a⟩
  rw [← List.drop_drop (i := 1) (j := i), e]; rfl
theorem pz_am9 {w c m : Nat} {V : List Nat} {p : Nat → Bool} {f : Nat → Int32} {h0 : kv_H} (C : Int32 → kv_H → Option (Int32 × kv_H)) (hV : ∀ v, v ∈ V → v < 8) (vl : V.length ≤ 8) (hm : m < 256) (hc : c + 1 < 49 ∨ 50 < c) (ec : h0 c 3 = nI V.length) (ev : ∀ i v, V[i]? = some v → h0 (c + 1) i = nI v) (hp : ∀ u, u ∈ V → m.testBit u = p u) (hU : ∀ g : kv_H, (∀ a, a ≠ 49 → a ≠ 50 → g a = h0 a) → ∀ u, u ∈ V → ∃ g', f_X8_urgeToThrow w c (nI u) g = some (f u, g') ∧ ∀ a, a ≠ 49 → a ≠ 50 → g' a = g a) : ∀ (r : List Nat) (i : Nat) (b : Option (Nat × Int32)) (h : kv_H) (fu : Nat), V.drop i = r → i ≤ V.length → r.length < fu → (∀ q, b = some q → q.1 < 8) → (∀ a, a ≠ 49 → a ≠ 50 → h a = h0 a) → ∃ h', f_X8_thrownPlace_L69 w c (nI m) fu 0 (pz_bU b) (pz_pl9 (b.map Prod.fst)) (nI i) h C = C (pz_pl9 ((pz_am p f r i b).map Prod.fst)) h' ∧ ∀ a, a ≠ 49 → a ≠ 50 → h' a = h0 a := by
  intro r
  induction r with
  | nil =>
    intro i b h fu e1 il e2 hb fr
    obtain ⟨fu, rfl⟩ : ∃ f, fu = f + 1 := ⟨fu - 1, by omega⟩
    refine ⟨h, ?_, fr⟩
    have := List.drop_eq_nil_iff.mp e1
    rw [f_X8_thrownPlace_L69, fr c (by omega) (by omega), ec, if_pos (nI_le this (by omega))]; rfl
  | cons u r ih =>
    intro i b h fu e1 il e2 hb fr
    obtain ⟨fu, rfl⟩ : ∃ f, fu = f + 1 := ⟨fu - 1, by omega⟩
    rw [List.length_cons] at e2
    obtain ⟨d1, d2, d3⟩ := pz_dropC e1
    have uV := pz_mem_of_get d1
    have u8 := hV u uV
    rw [f_X8_thrownPlace_L69, fr c (by omega) (by omega), ec, if_neg (nI_ge d3 (by omega)), pz_kN (by omega) (by omega), pz_cl (by omega), fr (c + 1) (by omega) (by omega), ev i u d1, pz_am]
    by_cases z : p u = true
    · rw [if_neg (fun y => by have y' := (pz_tbF (by omega) u8).mp y; rw [hp u uV, z] at y'; cases y'), if_pos (by decide), pz_kN (by omega) (by omega), if_pos z]
      obtain ⟨g, x1, x2⟩ := hU h fr u uV
      have gr : ∀ a, a ≠ 49 → a ≠ 50 → g a = h0 a := fun a q1 q2 => (x2 a q1 q2).trans (fr a q1 q2)
      rw [x1, pz_b, pz_jn, nI_1]
      match b, hb with
      | none, _ =>
        rw [if_pos (show pz_pl9 (Option.map Prod.fst none) = -1000000005 from rfl)]
        exact ih (i + 1) (some (i, f u)) g fu d2 (by omega) (by omega) (fun q hq => by cases hq; show i < 8; omega) gr
      | some (j, y), hb =>
        have j8 : j < 8 := hb (j, y) rfl
        rw [if_neg (show ¬ pz_pl9 (Option.map Prod.fst (some (j, y))) = -1000000005 from of_eq_false (pz_neq1 (a := 1000000005) (by omega) (by omega) (by omega)))]
        rw [pz_am1]
        by_cases q : f u ≤ y
        · rw [if_pos (show f u ≤ pz_bU (some (j, y)) from q), if_pos q]
          exact ih (i + 1) (some (j, y)) g fu d2 (by omega) (by omega) hb gr
        · rw [if_neg (show ¬ f u ≤ pz_bU (some (j, y)) from q), if_neg q]
          exact ih (i + 1) (some (i, f u)) g fu d2 (by omega) (by omega) (fun q hq => by cases hq; show i < 8; omega) gr
    · rw [if_pos ((pz_tbF (by omega) u8).mpr (by rw [hp u uV]; simpa using z)), if_neg z, nI_1]
      exact ih (i + 1) b h fu d2 (by omega) (by omega) hb fr
theorem pz_nth9 {w c m : Nat} {V : List Nat} {p : Nat → Bool} {f : Nat → Int32} {h0 : kv_H} (C : Int32 → kv_H → Option (Int32 × kv_H)) (hV : ∀ v, v ∈ V → v < 8) (vl : V.length ≤ 8) (hm : m < 256) (hc : c + 1 < 49 ∨ 50 < c) (ec : h0 c 3 = nI V.length) (ev : ∀ i v, V[i]? = some v → h0 (c + 1) i = nI v) (hp : ∀ u, u ∈ V → m.testBit u = p u) (hU : ∀ g : kv_H, (∀ a, a ≠ 49 → a ≠ 50 → g a = h0 a) → ∀ u, u ∈ V → ∃ g', f_X8_urgeToThrow w c (nI u) g = some (f u, g') ∧ ∀ a, a ≠ 49 → a ≠ 50 → g' a = g a) (f0 : ∀ u, f u = 0) : ∀ (r : List Nat) (i k : Nat) (h : kv_H) (fu : Nat), V.drop i = r → i ≤ V.length → r.length < fu → k < 2147483648 → (∀ a, a ≠ 49 → a ≠ 50 → h a = h0 a) → ∃ h', f_X8_thrownPlace_L69 w c (nI m) fu (nI k) 0 (-1000000005) (nI i) h C = C (pz_pl9 (pz_nth p r i k)) h' ∧ ∀ a, a ≠ 49 → a ≠ 50 → h' a = h0 a := by
  intro r
  induction r with
  | nil =>
    intro i k h fu e1 il e2 hk fr
    obtain ⟨fu, rfl⟩ : ∃ f, fu = f + 1 := ⟨fu - 1, by omega⟩
    refine ⟨h, ?_, fr⟩
    have := List.drop_eq_nil_iff.mp e1
    rw [f_X8_thrownPlace_L69, fr c (by omega) (by omega), ec, if_pos (nI_le this (by omega))]; rfl
  | cons u r ih =>
    intro i k h fu e1 il e2 hk fr
    obtain ⟨fu, rfl⟩ : ∃ f, fu = f + 1 := ⟨fu - 1, by omega⟩
    rw [List.length_cons] at e2
    obtain ⟨d1, d2, d3⟩ := pz_dropC e1
    have uV := pz_mem_of_get d1
    have u8 := hV u uV
    rw [f_X8_thrownPlace_L69, fr c (by omega) (by omega), ec, if_neg (nI_ge d3 (by omega)), pz_kN (by omega) (by omega), pz_cl (by omega), fr (c + 1) (by omega) (by omega), ev i u d1, pz_nth]
    by_cases z : p u = true
    · rw [if_neg (fun y => by have y' := (pz_tbF (by omega) u8).mp y; rw [hp u uV, z] at y'; cases y'), if_pos z]
      match k, hk with
      | 0, _ =>
        rw [if_pos (by decide), pz_kN (by omega) (by omega)]
        obtain ⟨g, x1, x2⟩ := hU h fr u uV
        have gr : ∀ a, a ≠ 49 → a ≠ 50 → g a = h0 a := fun a q1 q2 => (x2 a q1 q2).trans (fr a q1 q2)
        rw [x1, pz_b, pz_jn, nI_1, if_pos rfl]
        have := pz_am9 C hV vl hm hc ec ev hp hU r (i + 1) (some (i, f u)) g fu d2 (by omega) (by omega) (fun q hq => by cases hq; show i < 8; omega) gr
        rw [pz_am0 p f (f u) (fun v => by rw [f0, f0]; exact Int32.le_refl 0) r (i + 1) i] at this
        exact this
      | k + 1, hk =>
        rw [if_neg (show ¬ k + 1 = 0 from by omega), show k + 1 - 1 = k from by omega]
        rw [if_neg (show ¬ nI (k + 1) ≤ (0 : Int32) from nI_ge (b := k + 1) (a := 0) (by omega) (by omega))]
        rw [show nI (k + 1) + (-1) = nI k from (Int32.sub_eq_add_neg (nI (k + 1)) 1).symm.trans (pz_sub (a := k + 1) (b := 1) (by omega)), nI_1]
        exact ih (i + 1) k h fu d2 (by omega) (by omega) (by omega) fr
    · rw [if_pos ((pz_tbF (by omega) u8).mpr (by rw [hp u uV]; simpa using z)), if_neg z, nI_1]
      exact ih (i + 1) k h fu d2 (by omega) (by omega) hk fr
theorem pz_fst9 {h : kv_H} {w c n : Nat} {D : Nat → Nat → Nat} {t : Nat} {TX : Nat → pz_T} {ch : Nat → Nat} {sp ru ca : Nat} {V : List Nat} {X : Nat → Int32} (hw : 50 < w) (hc : (c + 3 < 49 ∨ 78 < c)) (hcw : c + 3 < w ∨ w + 11 < c) (e : pz_E9 h w n D t TX ch sp ru ca) (eb : pz_EB n D t TX ch sp ru ca) (cc : pz_CC h c V X) (cb : pz_CB n V X) : ∃ h', f_X8_thrownPlace w c h = some (pz_pl9 (pz_fst (pz_may D ca V) (pz_ur TX t (pz_rm TX t D) ru X) ru V (X 2)).1, h') ∧ pz_CC h' c V (pz_Xu X 2 (pz_fst (pz_may D ca V) (pz_ur TX t (pz_rm TX t D) ru X) ru V (X 2)).2) ∧ ∀ a, a ≠ 49 → a ≠ 50 → a ≠ c → h' a = h a := by
  have hn := eb.1.1
  have ht := eb.2.1.1
  have vl := pz_vlen cb hn
  have hV : ∀ v, v ∈ V → v < 8 := fun v hv => by have := cb.2.1 v hv; omega
  obtain ⟨m, m1, m2, m3⟩ := pz_cand9 e eb cc cb (fun (y1 : Int32) (h2 : kv_H) =>
    kv_b (f_J6_bitCount_0f7a4 y1 h2) (fun r4 h3 =>
    if r4 = 0 then (some ((-1000000005), h3))
    else (kv_jn (fun (y5 : Int32) (h6 : kv_H) =>
      f_X8_thrownPlace_L69 w c y1 kv_fu y5 0 (-1000000005) 0 h6 (fun z10 h11 =>
        some (z10, h11))) (fun (J57 : Int32 → kv_H → Option (Int32 × kv_H)) =>
      if (h3 w 8) = (3 : Int32) then (kv_b (f_X0_draw c h3) (fun r13 h12 =>
        kv_z r4 (J57 (r13 - r13 / r4 * r4) h12)))
      else (J57 0 h3)))))
  have hpc := pz_pcV cb.1 hV m2
  have hp : ∀ u, u ∈ V → m.testBit u = pz_may D ca V u := fun u hu => by rw [m2 u (hV u hu), decide_eq_true hu, Bool.true_and]
  have fl : (V.filter (pz_may D ca V)).length ≤ V.length := List.length_filter_le ..
  rw [f_X8_thrownPlace, pz_jn, m3, pz_bc m m1, pz_b, hpc]
  have hX : pz_Xu X 2 (X 2) = X := by
    funext i; unfold pz_Xu; by_cases q : i = 2
    · rw [if_pos q, q]
    · rw [if_neg q]
  unfold pz_fst
  by_cases z0 : (V.filter (pz_may D ca V)).length = 0
  · rw [if_pos z0, if_pos (by rw [z0]; rfl)]
    exact ⟨h, rfl, by rw [hX]; exact cc, fun _ _ _ _ => rfl⟩
  rw [if_neg z0, if_neg (show ¬ nI (V.filter (pz_may D ca V)).length = (0 : Int32) from fun y => z0 ((nI_eq (b := 0) (by omega) (by omega)).mp y)), pz_jn, e.2.2.2.2.2.1]
  by_cases z3 : ru = 3
  · subst z3
    rw [if_pos (show (3 : Nat) = 3 from rfl), if_pos (show nI 3 = (3 : Int32) from rfl), pz_draw9 cc.2.2.2.2.1, pz_b, pz_z (show ¬ nI (V.filter (pz_may D ca V)).length = (0 : Int32) from fun y => z0 ((nI_eq (b := 0) (by omega) (by omega)).mp y)), pz_mod _ (by omega) (by omega)]
    have cc' := pz_Xu_CC0 cc 2 (by omega) (pz_zn (X 2))
    have fr0 : ∀ a, a ≠ c → kv_up h c 7 (pz_zn (X 2)) a = h a := fun a q => pz_upne q
    have e' : pz_E9 (kv_up h c 7 (pz_zn (X 2))) w n D t TX ch sp 3 ca := pz_E9_fr e ht (fun a q1 q2 => fr0 a (by omega)) (fun a q1 q2 => fr0 a (by omega))
    obtain ⟨g, g1, g2⟩ := pz_nth9 (w := w) (c := c) (m := m) (V := V) (p := pz_may D ca V) (f := fun _ => 0) (h0 := kv_up h c 7 (pz_zn (X 2))) (fun z10 h11 => some (z10, h11)) hV vl m1 (by omega) cc'.1 cc'.2.2.2.2.2.1 hp (by
      intro g gr u hu
      obtain ⟨g', y1, y2⟩ := pz_ur9 (pz_E9_fr e' ht (fun a q1 q2 => gr a (by omega) (by omega)) (fun a q1 q2 => gr a (by omega) (by omega))) eb (pz_CC_fr cc' (fun a q1 q2 => gr a (by omega) (by omega))) u (cb.2.1 u hu)
      exact ⟨g', y1, y2⟩) (fun _ => rfl) V 0 (pz_dz (pz_zn (X 2)) % (V.filter (pz_may D ca V)).length) (kv_up h c 7 (pz_zn (X 2))) kv_fu rfl (by omega) (by rw [show kv_fu = 5000 from rfl]; omega) (Nat.lt_trans (Nat.mod_lt _ (by omega)) (by omega)) (fun _ _ _ => rfl)
    refine ⟨g, g1, pz_CC_fr cc' (fun a q1 q2 => g2 a (by omega) (by omega)), fun a q1 q2 q3 => by rw [g2 a q1 q2, fr0 a q3]⟩
  · rw [if_neg z3, if_neg (show ¬ nI ru = (3 : Int32) from fun y => z3 ((nI_eq (b := 3) (by have := eb.2.2.2.2.1; omega) (by omega)).mp y))]
    obtain ⟨g, g1, g2⟩ := pz_am9 (w := w) (c := c) (m := m) (V := V) (p := pz_may D ca V) (f := pz_ur TX t (pz_rm TX t D) ru X) (h0 := h) (fun z10 h11 => some (z10, h11)) hV vl m1 (by omega) cc.1 cc.2.2.2.2.2.1 hp (by
      intro g gr u hu
      exact pz_ur9 (pz_E9_fr e ht (fun a q1 q2 => gr a (by omega) (by omega)) (fun a q1 q2 => gr a (by omega) (by omega))) eb (pz_CC_fr cc (fun a q1 q2 => gr a (by omega) (by omega))) u (cb.2.1 u hu)) V 0 none h kv_fu rfl (by omega) (by rw [show kv_fu = 5000 from rfl]; omega) (fun q hq => by cases hq) (fun _ _ _ => rfl)
    refine ⟨g, g1, ?_, fun a q1 q2 q3 => g2 a q1 q2⟩
    rw [hX]; exact pz_CC_fr cc (fun a q1 q2 => g2 a (by omega) (by omega))

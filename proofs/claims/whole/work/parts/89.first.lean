/-! PURE PART: what goes first, by the reference -/
def pz_E10 (h : kv_H) (n : Nat) (D : Nat → Nat → Nat) (t : Nat) (TX : Nat → pz_T) (sp ru ca : Nat) : Prop := pz_M (h 112) n D t TX ∧ pz_K h n (pz_rm TX t D) (pz_ms TX t n D) ∧ h 112 3 = nI sp ∧ h 112 4 = nI ru ∧ h 112 5 = nI ca
theorem pz_E10_fr {h h' : kv_H} {n : Nat} {D : Nat → Nat → Nat} {t : Nat} {TX : Nat → pz_T} {sp ru ca : Nat} (e : pz_E10 h n D t TX sp ru ca) (f : ∀ b, pz_sb b → h' 112 b = h 112 b) (f1 : h' 123 = h 123) (f2 : h' 124 = h 124) : pz_E10 h' n D t TX sp ru ca := by
  obtain ⟨m, k, e3, e4, e5⟩ := e
  refine ⟨pz_M_fr m (f 0 (by unfold pz_sb; omega)) (f 1 (by unfold pz_sb; omega)) (fun i j q1 q2 => f _ (by unfold pz_sb; omega)) (fun b q1 q2 => f _ (by unfold pz_sb; omega)), ?_, ?_, ?_, ?_⟩
  · intro i hi; rw [f1, f2]; exact k i hi
  · rw [f 3 (by unfold pz_sb; omega)]; exact e3
  · rw [f 4 (by unfold pz_sb; omega)]; exact e4
  · rw [f 5 (by unfold pz_sb; omega)]; exact e5
theorem pz_onI {d u : Nat} (hd : d < 2147483648) (hu : u < 2147483648) : pz_on d = nI u ↔ d = u + 1 := by
  match d, hd with
  | 0, _ => exact ⟨fun z => absurd z (of_eq_false (pz_neq (a := 1) (by omega) (by omega) hu)), fun z => by omega⟩
  | d + 1, hd =>
    rw [show pz_on (d + 1) = nI d from rfl, nI_eq (by omega) hu]
    omega
theorem pz_leafK (u c : Nat) : (10 : Int32) + 7 * nI u + nI c = nI (10 + 7 * u + c) := by
  rw [show (7 : Int32) = nI 7 from rfl, pz_mul, show (10 : Int32) = nI 10 from rfl, pz_add, pz_add]
theorem pz_leaned10 {h : kv_H} {n : Nat} {D : Nat → Nat → Nat} {t : Nat} {TX : Nat → pz_T} {V : List Nat} {X : Nat → Int32} (m : pz_M (h 112) n D t TX) (cm : pz_CM (h 112) n V X) (vl : V.length ≤ 8) (hV : ∀ v, v ∈ V → v < n) (u : Nat) (hu : u < 8) : f_X10_isLeaned (nI u) h = some (if V.any (fun v => decide (D 4 v = u + 1)) then 1 else 0, h) := by
  have hn := m.2.1.1
  have e66 : ∀ k : Nat, (66 : Int32) + nI k = nI (66 + k) := fun k => pz_add 66 k
  unfold f_X10_isLeaned
  refine pz_for (fun f k (v : Int32) => f_X10_isLeaned_L4 (nI u) f v (nI k) h (fun z3 h4 => kv_t .boolean z3 (some (z3, h4)))) (fun k v => v = if (V.take k).any (fun v => decide (D 4 v = u + 1)) then 1 else 0) (fun R => R = some (if V.any (fun v => decide (D 4 v = u + 1)) then 1 else 0, h)) V.length ?_ ?_ kv_fu 0 _ (by omega) (by rw [show kv_fu = 5000 from rfl]; omega) rfl
  · intro f v hv
    show f_X10_isLeaned_L4 (nI u) (f + 1) v (nI V.length) h _ = _
    rw [f_X10_isLeaned_L4, cm.1, if_pos (nI_le (Nat.le_refl _) (by omega)), hv, List.take_length]
    by_cases z : V.any (fun v => decide (D 4 v = u + 1)) = true
    · rw [if_pos z]; rfl
    · rw [if_neg z]; rfl
  · intro f k v hk hv
    right
    obtain ⟨w, hw⟩ : ∃ w, V[k]? = some w := ⟨V[k]'(by omega), List.getElem?_eq_getElem _⟩
    have wn := hV w (pz_mem_of_get hw)
    have bb := (m.2.1.2 w wn).2.2.2.2.2
    refine ⟨if (V.take (k + 1)).any (fun v => decide (D 4 v = u + 1)) then 1 else 0, rfl, ?_⟩
    show f_X10_isLeaned_L4 (nI u) (f + 1) v (nI k) h _ = _
    rw [f_X10_isLeaned_L4, cm.1, if_neg (nI_ge hk (by omega)), hv, List.take_add_one, hw, Option.toList_some, List.any_append, List.any_cons, List.any_nil, Bool.or_false, nI_1]
    by_cases z : (V.take k).any (fun v => decide (D 4 v = u + 1)) = true
    · rw [if_pos z, if_neg (by decide), z, Bool.true_or, if_pos rfl]
    · rw [if_neg z, if_pos rfl, e66, pz_kN (by omega) (by omega), pz_cl (by omega), cm.2.2.2.2.1 k w hw, pz_leafAtU, pz_b, show (4 : Int32) = nI 4 from rfl, pz_leafK, pz_kN (by omega) (by omega), pz_cl (by omega), show 10 + 7 * w + 4 = 14 + 7 * w from by omega, (m.1.2 w wn).2.2.2.2]
      have z' : (V.take k).any (fun v => decide (D 4 v = u + 1)) = false := by simpa using z
      rw [z', Bool.false_or]
      by_cases y : D 4 w = u + 1
      · rw [if_pos ((pz_onI (by omega) (by omega)).mpr y), decide_eq_true y]; rfl
      · rw [if_neg (fun x => y ((pz_onI (by omega) (by omega)).mp x)), decide_eq_false y]; rfl
theorem pz_mayGo10 {h : kv_H} {n : Nat} {D : Nat → Nat → Nat} {t : Nat} {TX : Nat → pz_T} {V : List Nat} {X : Nat → Int32} {ca : Nat} (m : pz_M (h 112) n D t TX) (cm : pz_CM (h 112) n V X) (vl : V.length ≤ 8) (hV : ∀ v, v ∈ V → v < n) (e5 : h 112 5 = nI ca) (hca : ca ≤ 1) {i u : Nat} (hi : V[i]? = some u) : f_X10_mayGo (nI i) h = some (if pz_may D ca V u then 1 else 0, h) := by
  have hn := m.2.1.1
  have il := pz_iLt hi
  have un := hV u (pz_mem_of_get hi)
  unfold pz_may
  by_cases z : ca = 0
  · rw [f_X10_mayGo, e5, if_pos (by rw [z]; rfl), decide_eq_true z, Bool.true_or]; rfl
  · rw [f_X10_mayGo, e5, if_neg (show ¬ nI ca = (0 : Int32) from fun y => z ((nI_eq (b := 0) (by omega) (by omega)).mp y)), show (66 : Int32) + nI i = nI (66 + i) from pz_add 66 i, pz_kN (by omega) (by omega), pz_cl (by omega), cm.2.2.2.2.1 i u hi, pz_leaned10 m cm vl hV u (by omega), pz_b, decide_eq_false z, Bool.false_or]
    by_cases y : V.any (fun v => decide (D 4 v = u + 1)) = true
    · rw [if_pos y, if_neg (by decide), y]; rfl
    · rw [if_neg y, if_pos rfl, show V.any (fun v => decide (D 4 v = u + 1)) = false from by simpa using y]; rfl
theorem pz_ur10 {h : kv_H} {n : Nat} {D : Nat → Nat → Nat} {t : Nat} {TX : Nat → pz_T} {sp ru ca : Nat} {V : List Nat} {X : Nat → Int32} (e : pz_E10 h n D t TX sp ru ca) (hru : ru ≤ 4) (cm : pz_CM (h 112) n V X) (vl : V.length ≤ 8) (hV : ∀ v, v ∈ V → v < n) {i u : Nat} (hi : V[i]? = some u) : ∃ h', f_X10_speaks (nI i) h = some (pz_ur TX t (pz_rm TX t D) ru X u, h') ∧ ∀ a, a ≠ 131 → a ≠ 132 → h' a = h a := by
  obtain ⟨m, kk, e3, e4, e5⟩ := e
  have hn := m.2.1.1
  have il := pz_iLt hi
  have un := hV u (pz_mem_of_get hi)
  have c6 := cm.2.2.2.2.2 u un
  have tb := m.2.2.2.1
  have cn := pz_counts m.2.2.1 tb m.2.2.2.2 2 (by omega)
  have le := (pz_law_le TX 2 t)
  have ht := tb.1
  have k6 : (10 : Int32) + 7 * nI u + 6 = nI (16 + 7 * u) := by rw [show (6 : Int32) = nI 6 from rfl, pz_leafK]; congr 1; omega
  have k5 : (10 : Int32) + 7 * nI u + 5 = nI (15 + 7 * u) := by rw [show (5 : Int32) = nI 5 from rfl, pz_leafK]; congr 1; omega
  have start : f_X10_speaks (nI i) h = (if (h 112 4) = (1 : Int32) then (some ((-(X (10 + u))), h))
    else (if (h 112 4) = (2 : Int32) then (some ((-(X (20 + u))), h))
    else (if (h 112 4) < (4 : Int32) then (some (0, h))
      else (if 0 ≤ pz_on (pz_law TX t 2) then (kv_hl (kv_up h 131 97 (X 0 - X (10 + u))) (fun h6 =>
          kv_hl (kv_up h6 131 116 (h6 112 (15 + 7 * u))) (fun h7 =>
          kv_hl (kv_up h7 131 114 (h7 123 u)) (fun h8 =>
          kv_hl (kv_up h8 131 110 (nI u)) (fun h9 =>
          kv_b (f_X10_worked (pz_on (pz_law TX t 2)) h9) (fun r11 h10 =>
          some (r11, h10)))))))
        else (some (0, h)))))) := by
    rw [f_X10_speaks, show (66 : Int32) + nI i = nI (66 + i) from pz_add 66 i, pz_kN (by omega) (by omega), pz_cl (by omega), cm.2.2.2.2.1 i u hi, pz_vl, pz_leafAtU, pz_b, show f_X10_counts 2 h = _ from cn, pz_b, k6, k5, pz_kN (by omega) (by omega), pz_kN (by omega) (by omega), pz_cl (by omega), pz_cl (by omega), c6.1, c6.2, cm.2.1, pz_kN (by omega) (by omega)]
    simp (disch := omega) only [pz_kN, pz_cl]
  unfold pz_ur
  have cs : ru = 1 ∨ ru = 2 ∨ ru = 4 ∨ (ru = 0 ∨ ru = 3) := by omega
  rcases cs with z | z | z | z
  · refine ⟨h, ?_, fun _ _ _ => rfl⟩
    rw [start, e4, if_pos (by rw [z]; rfl), if_pos z]
  · refine ⟨h, ?_, fun _ _ _ => rfl⟩
    rw [start, e4, if_neg (by rw [z]; decide), if_pos (by rw [z]; rfl), if_neg (by omega), if_pos z]
  · by_cases q : pz_law TX t 2 = 0
    · refine ⟨h, ?_, fun _ _ _ => rfl⟩
      rw [start, e4, if_neg (by rw [z]; decide), if_neg (by rw [z]; decide), if_neg (by rw [z]; decide), q, if_neg (by decide), if_neg (by omega), if_neg (by omega), if_pos z, if_pos rfl]
    · obtain ⟨p, hp⟩ : ∃ p, pz_law TX t 2 = p + 1 := ⟨pz_law TX t 2 - 1, by omega⟩
      have pk := le.2 (by omega)
      rw [hp] at pk
      have pk' : (TX p).1 = 2 := pk
      obtain ⟨g, eg⟩ : ∃ g, g = kv_up (kv_up (kv_up (kv_up h 131 97 (X 0 - X (10 + u))) 131 116 (X (20 + u))) 131 114 (nI (pz_rm TX t D u))) 131 110 (nI u) := ⟨_, rfl⟩
      have g1 : ∀ a, a ≠ 131 → g a = h a := fun a qa => by rw [eg, pz_upne qa, pz_upne qa, pz_upne qa, pz_upne qa]
      obtain ⟨h', x1, x2⟩ := pz_val10 (h := g) (by rw [g1 112 (by omega)]; exact m.2.2.1) tb p (by omega) (pz_nm4 (X 0 - X (10 + u)) (X (20 + u)) (nI (pz_rm TX t D u)) (nI u)) (by
        intro j hj
        rw [pk'] at hj ⊢
        have : j = 0 ∨ j = 1 ∨ j = 2 ∨ j = 3 := by have : j < 4 := hj
                                                   omega
        rw [eg]
        rcases this with rfl | rfl | rfl | rfl <;> rfl)
      refine ⟨h', ?_, fun a q1 q2 => by rw [x2 a q2, g1 a q1]⟩
      rw [start, e4, if_neg (by rw [z]; decide), if_neg (by rw [z]; decide), if_neg (by rw [z]; decide), hp, if_pos (show (0 : Int32) ≤ pz_on (p + 1) from pz_g0 (by omega)), pz_hl, pz_hl, pz_hl, pz_hl, pz_upne (by omega), c6.2, pz_upne (by omega), pz_upne (by omega), (kk u un).1, ← eg, show pz_on (p + 1) = nI p from rfl, x1, pz_b, if_neg (by omega), if_neg (by omega), if_pos z, if_neg (by omega), show p + 1 - 1 = p from by omega]
  · refine ⟨h, ?_, fun _ _ _ => rfl⟩
    rw [start, e4, if_neg (by rcases z with z | z <;> rw [z] <;> decide), if_neg (by rcases z with z | z <;> rw [z] <;> decide), if_pos (by rcases z with z | z <;> rw [z] <;> decide), if_neg (by omega), if_neg (by omega), if_neg (by omega)]

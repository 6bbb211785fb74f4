/-! PURE PART: reading, asking -/
def pz_rd (D : Nat → Nat → Nat) (m : Nat) : Nat → Nat → Bool
  | 0, _ => true
  | _, 0 => true
  | k + 1, u + 1 => m.testBit u && pz_rd D m k (D 4 u)
theorem pz_andOr {m a b : Nat} : m &&& (a ||| b) = (a ||| b) ↔ m &&& a = a ∧ m &&& b = b := by
  constructor
  · intro h
    have k : ∀ i, (m.testBit i && (a.testBit i || b.testBit i)) = (a.testBit i || b.testBit i) := fun i => by
      have := congrArg (fun x => Nat.testBit x i) h
      simpa [Nat.testBit_and, Nat.testBit_or] using this
    constructor
    · apply Nat.eq_of_testBit_eq; intro i
      have := k i
      rw [Nat.testBit_and]
      revert this
      cases m.testBit i <;> cases a.testBit i <;> cases b.testBit i <;> decide
    · apply Nat.eq_of_testBit_eq; intro i
      have := k i
      rw [Nat.testBit_and]
      revert this
      cases m.testBit i <;> cases a.testBit i <;> cases b.testBit i <;> decide
  · rintro ⟨h1, h2⟩
    rw [Nat.and_or_distrib_left, h1, h2]
theorem pz_and2 {m u : Nat} : m &&& 2 ^ u = 2 ^ u ↔ m.testBit u = true := by
  constructor
  · intro h
    have := congrArg (fun x => Nat.testBit x u) h
    simpa [Nat.testBit_and, Nat.testBit_two_pow] using this
  · intro h
    apply Nat.eq_of_testBit_eq; intro i
    rw [Nat.testBit_and, Nat.testBit_two_pow]
    by_cases q : u = i
    · subst q; rw [h]; rfl
    · simp [q]
theorem pz_rdC {n : Nat} {D : Nat → Nat → Nat} {ch : Nat → Nat} (b : pz_LB n D) (c : pz_CH n D ch) (m : Nat) : ∀ (k u : Nat), u < n → u < k → (pz_rd D m k (u + 1) = true ↔ m &&& ch u = ch u) := by
  intro k
  induction k with
  | zero => intro u _ q; omega
  | succ k ih =>
    intro u hu q
    have bb := (b.2 u hu).2.2.2.2.2
    rw [pz_rd, (c u hu).1, pz_andOr, pz_and2, Bool.and_eq_true]
    by_cases z : D 4 u = 0
    · rw [if_pos z, z]
      cases k <;> simp [pz_rd]
    · rw [if_neg z]
      obtain ⟨o, ho⟩ : ∃ o, D 4 u = o + 1 := ⟨D 4 u - 1, by omega⟩
      rw [ho, show o + 1 - 1 = o from by omega, ih o (by omega) (by omega)]
theorem pz_read9 {h : kv_H} {q n : Nat} {D : Nat → Nat → Nat} {rm ms ch : Nat → Nat} (lx : pz_LX h q n rm ms ch) (b : pz_LB n D) (c : pz_CH n D ch) {m u : Nat} (hm : m < 256) (hu : u < n) : f_X1_isRead q (nI m) (nI u) h = some (if pz_rd D m 8 (u + 1) then 1 else 0, h) := by
  have hn := b.1
  have cl := (c u hu).2
  rw [f_X1_isRead, pz_kN (by omega) (by omega), pz_kN (by omega) (by omega), pz_cl (by omega), (lx u hu).2.2, pz_and]
  by_cases z : pz_rd D m 8 (u + 1) = true
  · rw [if_pos z, if_pos (by rw [(pz_rdC b c m 8 u hu (by omega)).mp z])]
  · have : m &&& ch u ≤ m := Nat.and_le_left
    rw [if_neg z, if_neg (fun y => z ((pz_rdC b c m 8 u hu (by omega)).mpr ((nI_eq (by omega) (by omega)).mp y)))]
theorem pz_read10L {h : kv_H} {n : Nat} {D : Nat → Nat → Nat} {t : Nat} {TX : Nat → pz_T} (mm : pz_M (h 112) n D t TX) {m : Nat} (hm : m < 256) (C : Int32 → kv_H → Option (Int32 × kv_H)) : ∀ (k c fu : Nat), c ≤ n → c ≤ k → c < fu → ∃ z, f_X10_isRead_L2 (nI m) fu (pz_on c) h C = C z h ∧ (0 ≤ z ↔ pz_rd D m k c = false) := by
  have hn := mm.2.1.1
  intro k
  induction k with
  | zero =>
    intro c fu h1 h2 h3
    obtain ⟨fu, rfl⟩ : ∃ f, fu = f + 1 := ⟨fu - 1, by omega⟩
    obtain rfl : c = 0 := by omega
    refine ⟨-1, ?_, ⟨fun z => absurd z (by decide), fun z => by simp [pz_rd] at z⟩⟩
    rw [f_X10_isRead_L2, if_pos (by decide)]; rfl
  | succ k ih =>
    intro c fu h1 h2 h3
    obtain ⟨fu, rfl⟩ : ∃ f, fu = f + 1 := ⟨fu - 1, by omega⟩
    match c, h1, h2, h3 with
    | 0, _, _, _ =>
      refine ⟨-1, ?_, ⟨fun z => absurd z (by decide), fun z => by simp [pz_rd] at z⟩⟩
      rw [f_X10_isRead_L2, if_pos (by decide)]; rfl
    | u + 1, h1, h2, h3 =>
      have bb := (mm.2.1.2 u (by omega)).2.2.2.2.2
      rw [f_X10_isRead_L2, show pz_on (u + 1) = nI u from rfl, if_neg (pz_ng (by omega)), pz_rd]
      by_cases z : m.testBit u = true
      · rw [if_pos ((pz_tbT (by omega) (by omega)).mpr z), pz_leafAtU, pz_b, show (4 : Int32) = nI 4 from rfl, pz_leafK, pz_kN (by omega) (by omega), pz_cl (by omega), show 10 + 7 * u + 4 = 14 + 7 * u from by omega, (mm.1.2 u (by omega)).2.2.2.2, pz_vl, z, Bool.true_and]
        exact ih (D 4 u) fu (by omega) (by omega) (by omega)
      · rw [if_neg (fun y => z ((pz_tbT (by omega) (by omega)).mp y)), show m.testBit u = false from by simpa using z, Bool.false_and]
        exact ⟨nI u, rfl, ⟨fun _ => rfl, fun _ => pz_g0 (by omega)⟩⟩
theorem pz_read10 {h : kv_H} {n : Nat} {D : Nat → Nat → Nat} {t : Nat} {TX : Nat → pz_T} (mm : pz_M (h 112) n D t TX) {m u : Nat} (hm : m < 256) (hu : u < n) : f_X10_isRead (nI m) (nI u) h = some (if pz_rd D m 8 (u + 1) then 1 else 0, h) := by
  have hn := mm.2.1.1
  obtain ⟨z, e1, e2⟩ := pz_read10L mm hm (fun z4 h5 => if 0 ≤ z4 then (some (0, h5)) else (some (1, h5))) 8 (u + 1) kv_fu (by omega) (by omega) (by rw [show kv_fu = 5000 from rfl]; omega)
  rw [f_X10_isRead, show nI u = pz_on (u + 1) from rfl, e1]
  by_cases q : pz_rd D m 8 (u + 1) = true
  · rw [if_pos q, if_neg (fun y => by have := e2.mp y; rw [q] at this; cases this)]
  · rw [if_neg q, if_pos (e2.mpr (by simpa using q))]
/-- the last turn of a leaf and of all under it becomes this turn -/
def pz_tch (D : Nat → Nat → Nat) : Nat → Nat → (Nat → Int32) → Nat → Int32
  | 0, _, X => X
  | _, 0, X => X
  | k + 1, u + 1, X => pz_tch D k (D 4 u) (pz_Xu X (10 + u) (X 0))
theorem pz_tchB {n : Nat} {D : Nat → Nat → Nat} (b : pz_LB n D) : ∀ (k c : Nat) (V : List Nat) (X : Nat → Int32), c ≤ n → pz_CB n V X → pz_CB n V (pz_tch D k c X) := by
  intro k
  induction k with
  | zero => intro c V X _ cb; exact cb
  | succ k ih =>
    intro c V X hc cb
    match c, hc with
    | 0, _ => exact cb
    | u + 1, hc =>
      have bb := (b.2 u (by omega)).2.2.2.2.2
      rw [pz_tch]
      exact ih (D 4 u) V _ (by omega) (pz_Xu_CB cb _ u (by omega) b.1)
theorem pz_tch9 {w c n : Nat} {D : Nat → Nat → Nat} {V : List Nat} (b : pz_LB n D) (hcw : c + 3 < w ∨ w + 11 < c) (C : kv_H → Option (Int32 × kv_H)) : ∀ (k q v4 : Nat) (X : Nat → Int32) (h : kv_H) (fu : Nat), q ≤ k → q ≤ n → v4 + q ≤ 8 → q < fu → pz_LC h (w + 3) n D → pz_CC h c V X → ∃ h', f_X8_asking_L40 w c fu (pz_on q) (nI v4) h C = C h' ∧ pz_CC h' c V (pz_tch D k q X) ∧ ∀ a, a ≠ c + 2 → h' a = h a := by
  have hn := b.1
  intro k
  induction k with
  | zero =>
    intro q v4 X h fu h1 h2 h3 h4 lc cc
    obtain ⟨fu, rfl⟩ : ∃ f, fu = f + 1 := ⟨fu - 1, by omega⟩
    obtain rfl : q = 0 := by omega
    refine ⟨h, ?_, cc, fun _ _ => rfl⟩
    rw [f_X8_asking_L40]
    by_cases z : (8 : Int32) ≤ nI v4
    · rw [if_pos z]
    · rw [if_neg z, if_pos (by decide)]
  | succ k ih =>
    intro q v4 X h fu h1 h2 h3 h4 lc cc
    obtain ⟨fu, rfl⟩ : ∃ f, fu = f + 1 := ⟨fu - 1, by omega⟩
    match q, h1, h2, h3, h4 with
    | 0, _, _, _, _ =>
      refine ⟨h, ?_, cc, fun _ _ => rfl⟩
      rw [f_X8_asking_L40]
      by_cases z : (8 : Int32) ≤ nI v4
      · rw [if_pos z]
      · rw [if_neg z, if_pos (by decide)]
    | u + 1, h1, h2, h3, h4 =>
      have bb := (b.2 u (by omega)).2.2.2.2.2
      obtain ⟨g, eg⟩ : ∃ g, g = kv_up h (c + 2) u (X 0) := ⟨_, rfl⟩
      have fr : ∀ a, a ≠ c + 2 → g a = h a := fun a q => by rw [eg]; exact pz_upne q
      have lg : pz_LC g (w + 3) n D := by
        refine ⟨by rw [fr _ (by omega)]; exact lc.1, fun i hi => ?_⟩
        rw [fr _ (by omega), fr _ (by omega), fr _ (by omega), fr _ (by omega), fr _ (by omega)]; exact lc.2 i hi
      obtain ⟨h', x1, x2, x3⟩ := ih (D 4 u) (v4 + 1) (pz_Xu X (10 + u) (X 0)) g fu (by omega) (by omega) (by omega) (by omega) lg (by rw [eg]; exact pz_Xu_CCl cc (by omega) _)
      refine ⟨h', ?_, x2, fun a q => (x3 a q).trans (fr a q)⟩
      rw [f_X8_asking_L40, if_neg (show ¬ (8 : Int32) ≤ nI v4 from nI_ge (b := 8) (by omega) (by omega)), show pz_on (u + 1) = nI u from rfl, if_neg (pz_ng (by omega)), pz_kN (by omega) (by omega), pz_hl, pz_kN (by omega) (by omega), pz_cl (by omega), cc.2.2.1, ← eg, (lg.2 u (by omega)).2.2.2.2, pz_vl, nI_1]; exact x1
theorem pz_tch10 {n : Nat} {D : Nat → Nat → Nat} {t : Nat} {TX : Nat → pz_T} {V : List Nat} (vl : V.length ≤ 8) (C : kv_H → Option (Int32 × kv_H)) : ∀ (k q : Nat) (X : Nat → Int32) (h : kv_H) (fu : Nat), q ≤ k → q ≤ n → q < fu → pz_M (h 112) n D t TX → pz_CM (h 112) n V X → ∃ h', f_X10_asks_L43 fu (pz_on q) h C = C h' ∧ pz_CM (h' 112) n V (pz_tch D k q X) ∧ (∀ a, a ≠ 112 → h' a = h a) ∧ ∀ b, pz_sb b → h' 112 b = h 112 b := by
  intro k
  induction k with
  | zero =>
    intro q X h fu h1 h2 h4 mm cm
    obtain ⟨fu, rfl⟩ : ∃ f, fu = f + 1 := ⟨fu - 1, by omega⟩
    obtain rfl : q = 0 := by omega
    refine ⟨h, ?_, cm, fun _ _ => rfl, fun _ _ => rfl⟩
    rw [f_X10_asks_L43, if_pos (by decide)]
  | succ k ih =>
    intro q X h fu h1 h2 h4 mm cm
    obtain ⟨fu, rfl⟩ : ∃ f, fu = f + 1 := ⟨fu - 1, by omega⟩
    have hn := mm.2.1.1
    match q, h1, h2, h4 with
    | 0, _, _, _ =>
      refine ⟨h, ?_, cm, fun _ _ => rfl, fun _ _ => rfl⟩
      rw [f_X10_asks_L43, if_pos (by decide)]
    | u + 1, h1, h2, h4 =>
      have bb := (mm.2.1.2 u (by omega)).2.2.2.2.2
      obtain ⟨g, eg⟩ : ∃ g, g = kv_up h 112 (10 + 7 * u + 6) (X 0) := ⟨_, rfl⟩
      have fr : ∀ a, a ≠ 112 → g a = h a := fun a q => by rw [eg]; exact pz_upne q
      have fs : ∀ b, pz_sb b → g 112 b = h 112 b := fun b q => by unfold pz_sb at q; rw [eg, pz_upeq, pz_upd, if_neg (by omega)]
      have mg : pz_M (g 112) n D t TX := pz_M_fr mm (fs 0 (by unfold pz_sb; omega)) (fs 1 (by unfold pz_sb; omega)) (fun i j q1 q2 => fs _ (by unfold pz_sb; omega)) (fun b q1 q2 => fs _ (by unfold pz_sb; omega))
      obtain ⟨h', x1, x2, x3, x4⟩ := ih (D 4 u) (pz_Xu X (10 + u) (X 0)) g fu (by omega) (by omega) (by omega) mg (by rw [eg]; exact pz_Xu_CM hn vl cm (10 + 7 * u + 6) (10 + u) u _ (by omega) (by omega) pz_upeq)
      refine ⟨h', ?_, x2, fun a q => (x3 a q).trans (fr a q), fun b q => (x4 b q).trans (fs b q)⟩
      rw [f_X10_asks_L43, show pz_on (u + 1) = nI u from rfl, if_neg (pz_ng (by omega)), pz_leafAtU, pz_b, show (10 : Int32) + 7 * nI u + 6 = nI (10 + 7 * u + 6) from pz_leafK u 6, pz_kN (by omega) (by omega), pz_hl, pz_cl (by omega), cm.2.1, ← eg, pz_leafAtU, pz_b, show (10 : Int32) + 7 * nI u + 4 = nI (10 + 7 * u + 4) from pz_leafK u 4, pz_kN (by omega) (by omega), pz_cl (by omega), show 10 + 7 * u + 4 = 14 + 7 * u from by omega, (mg.1.2 u (by omega)).2.2.2.2, pz_vl]; exact x1

/-! PURE PART: check -/
noncomputable def pz_cu (n : Nat) (X : Nat → Int32) : Nat := pz_dz (pz_zn (X 2)) % n
noncomputable def pz_c1s (n : Nat) (D : Nat → Nat → Nat) (t : Nat) (TX : Nat → pz_T) (sp ru ca : Nat) (s : List Nat × (Nat → Int32)) : Nat × List Nat × (Nat → Int32) := pz_askS n D t TX sp ru ca s.1 (pz_Xu s.2 2 (pz_zn (s.2 2))) (pz_cu n s.2)
noncomputable def pz_cs (n : Nat) (D : Nat → Nat → Nat) (t : Nat) (TX : Nat → pz_T) (sp ru ca : Nat) (s : List Nat × (Nat → Int32)) : Nat → List Nat × (Nat → Int32)
  | 0 => s
  | k + 1 => (pz_c1s n D t TX sp ru ca (pz_cs n D t TX sp ru ca s k)).2
noncomputable def pz_cW (n : Nat) (D : Nat → Nat → Nat) (t : Nat) (TX : Nat → pz_T) (sp ru ca : Nat) (s : List Nat × (Nat → Int32)) (j : Nat) : Int32 := if j % 2 = 0 then nI (10 * pz_cu n (pz_cs n D t TX sp ru ca s (j / 2)).2 + (pz_c1s n D t TX sp ru ca (pz_cs n D t TX sp ru ca s (j / 2))).1) else nI (pz_bits (pz_cs n D t TX sp ru ca s (j / 2 + 1)).1)
theorem pz_csB {n : Nat} {D : Nat → Nat → Nat} {t : Nat} {TX : Nat → pz_T} {sp ru ca : Nat} {s : List Nat × (Nat → Int32)} (b : pz_LB n D) (n0 : 0 < n) (cb : pz_CB n s.1 s.2) : ∀ k, pz_CB n (pz_cs n D t TX sp ru ca s k).1 (pz_cs n D t TX sp ru ca s k).2 := by
  intro k
  induction k with
  | zero => exact cb
  | succ k ih =>
    rw [pz_cs, pz_c1s]
    exact (pz_askB b (pz_Xu_CB ih _ 0 (by omega) b.1) (Nat.mod_lt _ n0)).1
def pz_isJ (k0 x : Nat) (w W : Nat → Int32) (J : Nat) : Prop := J ≤ 2 * x ∧ (∀ j, j < J → j < k0 ∧ w j = W j) ∧ (J < 2 * x → ¬ (J < k0 ∧ w J = W J))
def pz_resJ (k0 x J : Nat) : Int32 := if J = 2 * x ∧ k0 = 2 * x then 0 else nI (1 + J)
theorem pz_isW {h : kv_H} {j k0 : Nat} (hj : j < 60) (hk : k0 ≤ 60) (v : Int32) : f_X9_isWaiting (nI j) (nI k0) v h = some (if j < k0 ∧ h 5 j = v then 1 else 0, h) := by
  rw [f_X9_isWaiting]
  by_cases z : k0 ≤ j
  · rw [if_pos (nI_le z (by omega)), if_neg (by omega)]
  · rw [if_neg (nI_ge (by omega) (by omega)), if_neg (show ¬ (60 : Int32) ≤ nI j from nI_ge (b := 60) hj (by omega)), pz_kN hj (by omega), pz_cl (by omega)]
    by_cases y : h 5 j = v
    · rw [if_pos y, if_pos ⟨by omega, y⟩]
    · rw [if_neg y, if_neg (fun q => y q.2)]
theorem pz_check9 {n : Nat} {D : Nat → Nat → Nat} {t : Nat} {TX : Nat → pz_T} {ch : Nat → Nat} {sp ru ca k0 x : Nat} {s : List Nat × (Nat → Int32)} {w : Nat → Int32} (eb : pz_EB n D t TX ch sp ru ca) (n0 : 0 < n) (hk : k0 ≤ 60) (hx : x ≤ 30) (cb : pz_CB n s.1 s.2) : ∀ (m i : Nat) (h : kv_H) (fu : Nat), i + m = x → m < fu → (∀ j, j < 2 * i → j < k0 ∧ w j = pz_cW n D t TX sp ru ca s j) → h 5 = w → pz_E9 h 95 n D t TX ch sp ru ca → pz_CC h 6 (pz_cs n D t TX sp ru ca s i).1 (pz_cs n D t TX sp ru ca s i).2 → ∃ J h', pz_isJ k0 x w (pz_cW n D t TX sp ru ca s) J ∧ f_X9_check_L73 (nI x) (nI k0) (nI n) fu (nI i) h (fun h14 => if (nI k0) ≤ (2 * nI x) then (some (0, h14)) else (some ((1 + (2 * nI x)), h14))) = some (pz_resJ k0 x J, h') ∧ ∀ a, a ≠ 49 → a ≠ 50 → (a < 6 ∨ 9 < a) → h' a = h a := by
  have hn := eb.1.1
  have ht := eb.2.1.1
  have e2x : (2 : Int32) * nI x = nI (2 * x) := pz_mul 2 x
  intro m
  induction m with
  | zero =>
    intro i h fu e1 e2 hq hw e cc
    obtain ⟨fu, rfl⟩ : ∃ f, fu = f + 1 := ⟨fu - 1, by omega⟩
    obtain rfl : i = x := by omega
    refine ⟨2 * i, h, ⟨Nat.le_refl _, hq, fun y => absurd y (Nat.lt_irrefl _)⟩, ?_, fun _ _ _ _ => rfl⟩
    have k2 : 2 * i ≤ k0 := by
      rcases Nat.eq_zero_or_pos (2 * i) with z | z
      · omega
      · have := (hq (2 * i - 1) (by omega)).1; omega
    rw [f_X9_check_L73, if_pos (nI_le (Nat.le_refl _) (by omega)), e2x]
    unfold pz_resJ
    by_cases z : k0 = 2 * i
    · rw [if_pos (nI_le (by omega) (by omega)), if_pos ⟨rfl, z⟩]
    · rw [if_neg (nI_ge (by omega) (by omega)), if_neg (fun y => z y.2), show (1 : Int32) = nI 1 from rfl, pz_add]
  | succ m ih =>
    intro i h fu e1 e2 hq hw e cc
    obtain ⟨fu, rfl⟩ : ∃ f, fu = f + 1 := ⟨fu - 1, by omega⟩
    have cbi := pz_csB (t := t) (TX := TX) (sp := sp) (ru := ru) (ca := ca) eb.1 n0 cb i
    obtain ⟨S, eS⟩ : ∃ S, S = pz_cs n D t TX sp ru ca s i := ⟨_, rfl⟩
    rw [← eS] at cc cbi
    have mdn : pz_cu n S.2 < n := Nat.mod_lt _ n0
    obtain ⟨g, eg⟩ : ∃ g, g = kv_up h 6 7 (pz_zn (S.2 2)) := ⟨_, rfl⟩
    have cg : pz_CC g 6 S.1 (pz_Xu S.2 2 (pz_zn (S.2 2))) := by rw [eg]; exact pz_Xu_CC0 cc 2 (by omega) _
    have fg : ∀ a, a ≠ 6 → g a = h a := fun a q => by rw [eg]; exact pz_upne q
    have cbg := pz_Xu_CB cbi (pz_zn (S.2 2)) (j := 2) 0 (by omega) hn
    obtain ⟨h1, x1, x2, x3⟩ := pz_ask9 (w := 95) (c := 6) (by omega) (by omega) (by omega) (pz_E9_fr e ht (fun a q1 q2 => fg a (by omega)) (fun a q1 q2 => fg a (by omega))) eb cg cbg mdn
    have f1 : ∀ a, a ≠ 49 → a ≠ 50 → (a < 6 ∨ 9 < a) → h1 a = h a := fun a q1 q2 q3 => (x3 a q1 q2 (by omega)).trans (fg a (by omega))
    have hw1 : h1 5 = w := (f1 5 (by omega) (by omega) (by omega)).trans hw
    have ab := pz_askB (t := t) (TX := TX) (sp := sp) (ru := ru) (ca := ca) eb.1 cbg mdn
    have eA : pz_askS n D t TX sp ru ca S.1 (pz_Xu S.2 2 (pz_zn (S.2 2))) (pz_cu n S.2) = pz_c1s n D t TX sp ru ca S := rfl
    rw [eA] at x1 x2 ab
    have W0 : pz_cW n D t TX sp ru ca s (2 * i) = nI (10 * pz_cu n S.2 + (pz_c1s n D t TX sp ru ca S).1) := by
      unfold pz_cW
      rw [if_pos (by omega), show 2 * i / 2 = i from by omega, ← eS]
    have eS1 : pz_cs n D t TX sp ru ca s (i + 1) = (pz_c1s n D t TX sp ru ca S).2 := by rw [pz_cs, ← eS]
    have W1 : pz_cW n D t TX sp ru ca s (2 * i + 1) = nI (pz_bits (pz_c1s n D t TX sp ru ca S).2.1) := by
      unfold pz_cW
      rw [if_neg (by omega), show (2 * i + 1) / 2 = i from by omega, eS1]
    have e2i : (2 : Int32) * nI i = nI (2 * i) := pz_mul 2 i
    have st : f_X9_check_L73 (nI x) (nI k0) (nI n) (fu + 1) (nI i) h (fun h14 => if (nI k0) ≤ (2 * nI x) then (some (0, h14)) else (some ((1 + (2 * nI x)), h14))) = (if (if 2 * i < k0 ∧ w (2 * i) = pz_cW n D t TX sp ru ca s (2 * i) then (1 : Int32) else 0) = 0 then some (nI (1 + 2 * i), h1) else if (if 2 * i + 1 < k0 ∧ w (2 * i + 1) = pz_cW n D t TX sp ru ca s (2 * i + 1) then (1 : Int32) else 0) = 0 then some (nI (2 + 2 * i), h1) else f_X9_check_L73 (nI x) (nI k0) (nI n) fu (nI (i + 1)) h1 (fun h14 => if (nI k0) ≤ (2 * nI x) then (some (0, h14)) else (some ((1 + (2 * nI x)), h14)))) := by
      rw [f_X9_check_L73, if_neg (nI_ge (by omega) (by omega)), pz_draw9 cc.2.2.2.2.1, pz_b, ← eg, pz_z (show ¬ nI n = (0 : Int32) from fun y => absurd ((nI_eq (b := 0) (by omega) (by omega)).mp y) (by omega)), pz_mod _ (by omega) (by omega), pz_vl, show pz_dz (pz_zn (S.2 2)) % n = pz_cu n S.2 from rfl, x1, pz_b, e2i, show (10 : Int32) = nI 10 from rfl, pz_mul, pz_add, ← W0, pz_isW (by omega) hk, pz_b, hw1, show nI (2 * i) + (1 : Int32) = nI (2 * i + 1) from pz_add _ 1, x2.2.1, ← W1, pz_isW (by omega) hk, pz_b, hw1, nI_1, show (1 : Int32) + nI (2 * i) = nI (1 + 2 * i) from pz_add 1 _, show (2 : Int32) + nI (2 * i) = nI (2 + 2 * i) from pz_add 2 _]
    rw [st]
    by_cases q0 : 2 * i < k0 ∧ w (2 * i) = pz_cW n D t TX sp ru ca s (2 * i)
    · rw [if_pos q0, if_neg (by decide)]
      by_cases q1 : 2 * i + 1 < k0 ∧ w (2 * i + 1) = pz_cW n D t TX sp ru ca s (2 * i + 1)
      · rw [if_pos q1, if_neg (by decide)]
        obtain ⟨J, h', y1, y2, y3⟩ := ih (i + 1) h1 fu (by omega) (by omega) (fun j hj => by
          by_cases z : j < 2 * i
          · exact hq j z
          · rcases (show j = 2 * i ∨ j = 2 * i + 1 by omega) with y | y
            · rw [y]; exact q0
            · rw [y]; exact q1) hw1 (pz_E9_fr e ht (fun a q1 q2 => f1 a (by omega) (by omega) (by omega)) (fun a q1 q2 => f1 a (by omega) (by omega) (by omega))) (by rw [eS1]; exact x2)
        exact ⟨J, h', y1, y2, fun a q1 q2 q3 => (y3 a q1 q2 q3).trans (f1 a q1 q2 q3)⟩
      · rw [if_neg q1, if_pos rfl]
        refine ⟨2 * i + 1, h1, ⟨by omega, fun j hj => ?_, fun _ => q1⟩, ?_, f1⟩
        · by_cases z : j < 2 * i
          · exact hq j z
          · rw [show j = 2 * i from by omega]; exact q0
        · unfold pz_resJ; rw [if_neg (by omega), show 1 + (2 * i + 1) = 2 + 2 * i from by omega]
    · rw [if_neg q0, if_pos rfl]
      refine ⟨2 * i, h1, ⟨by omega, hq, fun _ => q0⟩, ?_, f1⟩
      unfold pz_resJ; rw [if_neg (by omega)]
theorem pz_check10 {n : Nat} {D : Nat → Nat → Nat} {t : Nat} {TX : Nat → pz_T} {sp ru ca x : Nat} {s : List Nat × (Nat → Int32)} (hsp : sp ≤ 60) (hru : ru ≤ 4) (hca : ca ≤ 1) (n0 : 0 < n) (hx : x ≤ 30) (cb : pz_CB n s.1 s.2) (e1 : Int32) (C : kv_H → Option (Int32 × kv_H)) : ∀ (m i : Nat) (h : kv_H) (fu : Nat), i + m = x → m < fu → (∀ j, j < 2 * i → h 135 j = pz_cW n D t TX sp ru ca s j) → pz_E10 h n D t TX sp ru ca → pz_CM (h 112) n (pz_cs n D t TX sp ru ca s i).1 (pz_cs n D t TX sp ru ca s i).2 → ∃ h', f_X10_check_L74 (nI x) e1 fu (nI i) h C = C h' ∧ (∀ j, j < 2 * x → h' 135 j = pz_cW n D t TX sp ru ca s j) ∧ (∀ a, a ≠ 131 → a ≠ 132 → a ≠ 112 → a ≠ 135 → h' a = h a) ∧ ∀ b, pz_sb b → h' 112 b = h 112 b := by
  intro m
  induction m with
  | zero =>
    intro i h fu e1' e2 hq e cm
    obtain ⟨fu, rfl⟩ : ∃ f, fu = f + 1 := ⟨fu - 1, by omega⟩
    obtain rfl : i = x := by omega
    refine ⟨h, ?_, hq, fun _ _ _ _ _ => rfl, fun _ _ => rfl⟩
    rw [f_X10_check_L74, if_pos (nI_le (Nat.le_refl _) (by omega))]
  | succ m ih =>
    intro i h fu e1' e2 hq e cm
    obtain ⟨fu, rfl⟩ : ∃ f, fu = f + 1 := ⟨fu - 1, by omega⟩
    have hn := e.1.2.1.1
    have cbi := pz_csB (t := t) (TX := TX) (sp := sp) (ru := ru) (ca := ca) e.1.2.1 n0 cb i
    obtain ⟨S, eS⟩ : ∃ S, S = pz_cs n D t TX sp ru ca s i := ⟨_, rfl⟩
    rw [← eS] at cm cbi
    have vl := pz_vlen cbi hn
    have mdn : pz_cu n S.2 < n := Nat.mod_lt _ n0
    obtain ⟨g, eg⟩ : ∃ g, g = kv_up h 112 9 (pz_zn (S.2 2)) := ⟨_, rfl⟩
    have cg : pz_CM (g 112) n S.1 (pz_Xu S.2 2 (pz_zn (S.2 2))) := by rw [eg]; exact pz_Xu_CM hn vl cm 9 2 0 _ (by omega) (by omega) pz_upeq
    have fg : ∀ a, a ≠ 112 → g a = h a := fun a q => by rw [eg]; exact pz_upne q
    have fs : ∀ b, pz_sb b → g 112 b = h 112 b := fun b q => by unfold pz_sb at q; rw [eg, pz_upeq, pz_upd, if_neg (by omega)]
    have cbg := pz_Xu_CB cbi (pz_zn (S.2 2)) (j := 2) 0 (by omega) hn
    have eG := pz_E10_fr e fs (fg _ (by omega)) (fg _ (by omega))
    obtain ⟨h1, x1, x2, x3, x4⟩ := pz_ask10 eG hsp hru hca cg cbg mdn
    have ab := pz_askB (t := t) (TX := TX) (sp := sp) (ru := ru) (ca := ca) e.1.2.1 cbg mdn
    have eA : pz_askS n D t TX sp ru ca S.1 (pz_Xu S.2 2 (pz_zn (S.2 2))) (pz_cu n S.2) = pz_c1s n D t TX sp ru ca S := rfl
    rw [eA] at x1 x2 ab
    have W0 : pz_cW n D t TX sp ru ca s (2 * i) = nI (10 * pz_cu n S.2 + (pz_c1s n D t TX sp ru ca S).1) := by
      unfold pz_cW
      rw [if_pos (by omega), show 2 * i / 2 = i from by omega, ← eS]
    have eS1 : pz_cs n D t TX sp ru ca s (i + 1) = (pz_c1s n D t TX sp ru ca S).2 := by rw [pz_cs, ← eS]
    have W1 : pz_cW n D t TX sp ru ca s (2 * i + 1) = nI (pz_bits (pz_c1s n D t TX sp ru ca S).2.1) := by
      unfold pz_cW
      rw [if_neg (by omega), show (2 * i + 1) / 2 = i from by omega, eS1]
    have vl1 := pz_vlen ab.1 hn
    have hV1 : ∀ v, v ∈ (pz_c1s n D t TX sp ru ca S).2.1 → v < 8 := fun v hv => by have := ab.1.2.1 v hv; omega
    obtain ⟨k1, ek1⟩ : ∃ k, k = kv_up h1 135 (2 * i) (pz_cW n D t TX sp ru ca s (2 * i)) := ⟨_, rfl⟩
    obtain ⟨k2, ek2⟩ : ∃ k, k = kv_up k1 135 (2 * i + 1) (pz_cW n D t TX sp ru ca s (2 * i + 1)) := ⟨_, rfl⟩
    have fk : ∀ a, a ≠ 135 → k2 a = h1 a := fun a q => by rw [ek2, pz_upne q, ek1, pz_upne q]
    have e2i : (2 : Int32) * nI i = nI (2 * i) := pz_mul 2 i
    obtain ⟨h', y1, y2, y3, y4⟩ := ih (i + 1) k2 fu (by omega) (by omega) (fun j hj => by
      rw [ek2, pz_upeq, pz_upd]
      by_cases z : j = 2 * i + 1
      · rw [if_pos z, z]
      · rw [if_neg z, ek1, pz_upeq, pz_upd]
        by_cases y : j = 2 * i
        · rw [if_pos y, y]
        · rw [if_neg y, x3 135 (by omega) (by omega) (by omega), fg 135 (by omega)]; exact hq j (by omega)) (pz_E10_fr eG (fun b q => by rw [fk 112 (by omega)]; exact x4 b q) (by rw [fk _ (by omega)]; exact x3 _ (by omega) (by omega) (by omega)) (by rw [fk _ (by omega)]; exact x3 _ (by omega) (by omega) (by omega))) (by rw [fk 112 (by omega), eS1]; exact x2)
    refine ⟨h', ?_, y2, fun a q1 q2 q3 q4 => by rw [y3 a q1 q2 q3 q4, fk a q4, x3 a q1 q2 q3, fg a q3], fun b q => by rw [y4 b q, fk 112 (by omega), x4 b q, fs b q]⟩
    rw [f_X10_check_L74, if_neg (nI_ge (by omega) (by omega)), pz_draw10 cm.2.2.2.1, pz_b, ← eg, eG.1.1.1, pz_z (show ¬ nI n = (0 : Int32) from fun y => absurd ((nI_eq (b := 0) (by omega) (by omega)).mp y) (by omega)), pz_mod _ (by omega) (by omega), pz_vl, show pz_dz (pz_zn (S.2 2)) % n = pz_cu n S.2 from rfl, x1, pz_b, pz_jn]
    have st : ∀ y13 : Int32, y13 = nI (pz_c1s n D t TX sp ru ca S).1 → (kv_k (2 * nI i) 60 (kv_hl (kv_up h1 135 (2 * nI i).toNatClampNeg ((10 * nI (pz_cu n S.2)) + y13)) (fun h15 =>
        kv_b (f_X10_vaultBits h15) (fun r17 h16 =>
        kv_k ((2 * nI i) + 1) 60 (kv_hl (kv_up h16 135 ((2 * nI i) + 1).toNatClampNeg r17) (fun h18 =>
        f_X10_check_L74 (nI x) e1 fu (nI i + 1) h18 C)))))) = C h' := by
      intro y13 hy
      rw [hy, e2i, pz_kN (by omega) (by omega), pz_hl, pz_cl (by omega), show (10 : Int32) = nI 10 from rfl, pz_mul, pz_add, ← W0, ← ek1, pz_vb10 (V := (pz_c1s n D t TX sp ru ca S).2.1) (X := (pz_c1s n D t TX sp ru ca S).2.2) (n := n) (by rw [ek1, pz_upne (by omega)]; exact x2) vl1 hV1, pz_b, show nI (2 * i) + (1 : Int32) = nI (2 * i + 1) from pz_add _ 1, pz_kN (by omega) (by omega), pz_hl, pz_cl (by omega), ← W1, ← ek2, nI_1, y1]
    rcases (show (pz_c1s n D t TX sp ru ca S).1 = 0 ∨ (pz_c1s n D t TX sp ru ca S).1 = 1 by omega) with z | z
    · rw [if_pos (by rw [z]; rfl)]; exact st 0 (by rw [z]; rfl)
    · rw [if_neg (by rw [z]; decide)]; exact st 1 (by rw [z]; rfl)
theorem pz_cmp10 {k0 x J : Nat} {h : kv_H} {w W : Nat → Int32} (hx : x ≤ 30) (hk : k0 ≤ 60) (hw : ∀ j, j < k0 → h 134 j = w j) (hW : ∀ j, j < 2 * x → h 135 j = W j) (hJ : pz_isJ k0 x w W J) (C : Int32 → kv_H → Option (Int32 × kv_H)) : f_X10_check_L154 (nI x) (nI k0) kv_fu 0 h C = C (nI J) h := by
  have e2x : (2 : Int32) * nI x = nI (2 * x) := pz_mul 2 x
  obtain ⟨j1, j2, j3⟩ := hJ
  refine pz_for (fun f k (_ : Unit) => f_X10_check_L154 (nI x) (nI k0) f (nI k) h C) (fun k _ => k ≤ J) (fun R => R = C (nI J) h) J ?_ ?_ kv_fu 0 () (by omega) (by rw [show kv_fu = 5000 from rfl]; omega) (Nat.zero_le J)
  · intro f _ _
    show f_X10_check_L154 (nI x) (nI k0) (f + 1) (nI J) h C = _
    rw [f_X10_check_L154]
    by_cases z1 : k0 ≤ J
    · rw [if_pos (nI_le z1 (by omega))]
    · rw [if_neg (nI_ge (by omega) (by omega)), e2x]
      by_cases z2 : 2 * x ≤ J
      · rw [if_pos (nI_le z2 (by omega))]
      · have := j3 (by omega)
        rw [if_neg (nI_ge (by omega) (by omega)), pz_kN (by omega) (by omega), pz_kN (by omega) (by omega), pz_cl (by omega), hw J (by omega), hW J (by omega), if_neg (fun y => this ⟨by omega, y⟩)]
  · intro f k _ hk' _
    right
    refine ⟨(), by omega, ?_⟩
    have := j2 k hk'
    show f_X10_check_L154 (nI x) (nI k0) (f + 1) (nI k) h C = _
    rw [f_X10_check_L154, if_neg (nI_ge (by omega) (by omega)), e2x, if_neg (nI_ge (by omega) (by omega)), pz_kN (by omega) (by omega), pz_kN (by omega) (by omega), pz_cl (by omega), hw k (by omega), hW k (by omega), if_pos this.2, nI_1]

/-! PURE PART: asking -/
def pz_XA (X : Nat → Int32) (u : Nat) : Nat → Int32 := pz_Xu (pz_Xu X 0 (X 0 + 1)) (20 + u) (X (20 + u) + 1)
def pz_XB (X : Nat → Int32) (v : Int32) : Nat → Int32 := pz_Xu X 1 (X 1 + v)
def pz_XL (X : Nat → Int32) (u : Nat) : Nat → Int32 := pz_Xu X (10 + u) (X 0)
noncomputable def pz_thrF (D : Nat → Nat → Nat) (t : Nat) (TX : Nat → pz_T) (sp ru ca : Nat) (V : List Nat) (X : Nat → Int32) (u : Nat) : Nat × List Nat × (Nat → Int32) := pz_thr D t TX ru ca (sp - pz_rm TX t D u) V.length V X
noncomputable def pz_askS (n : Nat) (D : Nat → Nat → Nat) (t : Nat) (TX : Nat → pz_T) (sp ru ca : Nat) (V : List Nat) (X : Nat → Int32) (u : Nat) : Nat × List Nat × (Nat → Int32) :=
  if pz_rd D (pz_bits V) 8 (u + 1) then (1, V, pz_tch D 8 (u + 1) (pz_XA X u))
  else if u ∈ V then (0, V, pz_XL (pz_XB (pz_XA X u) (nI (pz_ms TX t n D u))) u)
  else if sp < pz_rm TX t D u then (0, V, pz_XB (pz_XA X u) (nI (pz_ms TX t n D u)))
  else (0, (pz_thrF D t TX sp ru ca V (pz_XB (pz_XA X u) (nI (pz_ms TX t n D u))) u).2.1 ++ [u], pz_XL (pz_thrF D t TX sp ru ca V (pz_XB (pz_XA X u) (nI (pz_ms TX t n D u))) u).2.2 u)
theorem pz_XA_CB {n : Nat} {V : List Nat} {X : Nat → Int32} (cb : pz_CB n V X) (hn : n ≤ 8) {u : Nat} (hu : u < n) : pz_CB n V (pz_XA X u) := pz_Xu_CB (pz_Xu_CB cb _ 0 (by omega) hn) _ u (by omega) hn
theorem pz_XB_CB {n : Nat} {V : List Nat} {X : Nat → Int32} (cb : pz_CB n V X) (hn : n ≤ 8) (v : Int32) : pz_CB n V (pz_XB X v) := pz_Xu_CB cb _ 0 (by omega) hn
theorem pz_XL_CB {n : Nat} {V : List Nat} {X : Nat → Int32} (cb : pz_CB n V X) (hn : n ≤ 8) {u : Nat} (hu : u < n) : pz_CB n V (pz_XL X u) := pz_Xu_CB cb _ u (by omega) hn
theorem pz_askB {n : Nat} {D : Nat → Nat → Nat} {t : Nat} {TX : Nat → pz_T} {sp ru ca : Nat} {V : List Nat} {X : Nat → Int32} {u : Nat} (b : pz_LB n D) (cb : pz_CB n V X) (hu : u < n) : pz_CB n (pz_askS n D t TX sp ru ca V X u).2.1 (pz_askS n D t TX sp ru ca V X u).2.2 ∧ (pz_askS n D t TX sp ru ca V X u).1 ≤ 1 := by
  have hn := b.1
  have cba := pz_XA_CB cb hn hu
  unfold pz_askS
  by_cases z1 : pz_rd D (pz_bits V) 8 (u + 1) = true
  · rw [if_pos z1]; exact ⟨pz_tchB b 8 (u + 1) V _ (by omega) cba, Nat.le_refl 1⟩
  rw [if_neg z1]
  have cb2 := pz_XB_CB cba hn (nI (pz_ms TX t n D u))
  by_cases z2 : u ∈ V
  · rw [if_pos z2]; exact ⟨pz_XL_CB cb2 hn hu, Nat.zero_le 1⟩
  rw [if_neg z2]
  by_cases z3 : sp < pz_rm TX t D u
  · rw [if_pos z3]; exact ⟨cb2, Nat.zero_le 1⟩
  rw [if_neg z3]
  obtain ⟨t1, t2, t3, t4⟩ := pz_thrB (t := t) (TX := TX) (ru := ru) (ca := ca) (lim := sp - pz_rm TX t D u) b V.length V _ rfl cb2
  exact ⟨pz_CB_add (pz_XL_CB t1 hn hu) hu (fun y => z2 (t2 u y)), Nat.zero_le 1⟩
theorem pz_ask9 {h : kv_H} {w c n : Nat} {D : Nat → Nat → Nat} {t : Nat} {TX : Nat → pz_T} {ch : Nat → Nat} {sp ru ca : Nat} {V : List Nat} {X : Nat → Int32} (hw : 50 < w) (hc : (c + 3 < 49 ∨ 78 < c)) (hcw : c + 3 < w ∨ w + 11 < c) (e : pz_E9 h w n D t TX ch sp ru ca) (eb : pz_EB n D t TX ch sp ru ca) (cc : pz_CC h c V X) (cb : pz_CB n V X) {u : Nat} (hu : u < n) : ∃ h', f_X8_asking w c (nI u) h = some (nI (pz_askS n D t TX sp ru ca V X u).1, h') ∧ pz_CC h' c (pz_askS n D t TX sp ru ca V X u).2.1 (pz_askS n D t TX sp ru ca V X u).2.2 ∧ ∀ a, a ≠ 49 → a ≠ 50 → (a < c ∨ c + 3 < a) → h' a = h a := by
  have hn := eb.1.1
  have ht := eb.2.1.1
  have vl := pz_vlen cb hn
  have hV : ∀ v, v ∈ V → v < 8 := fun v hv => by have := cb.2.1 v hv; omega
  have bl := pz_bitsL V hV
  have rb := pz_rmB eb.1 TX t u hu
  have hsp := eb.2.2.2.1
  obtain ⟨g, eg⟩ : ∃ g, g = kv_up (kv_up h c 5 (X 0 + 1)) (c + 3) u (X (20 + u) + 1) := ⟨_, rfl⟩
  have cg : pz_CC g c V (pz_XA X u) := by rw [eg]; exact pz_Xu_CCt (pz_Xu_CC0 cc 0 (by omega) _) (by omega) _
  have fg : ∀ a, (a < c ∨ c + 3 < a) → g a = h a := fun a q => by rw [eg, pz_upne (by omega), pz_upne (by omega)]
  have eG : pz_E9 g w n D t TX ch sp ru ca := pz_E9_fr e ht (fun a q1 q2 => fg a (by omega)) (fun a q1 q2 => fg a (by omega))
  have cba := pz_XA_CB cb hn hu
  rw [f_X8_asking, cc.2.2.1, pz_hl, pz_kN (by omega) (by omega), pz_kN (by omega) (by omega), pz_hl, pz_cl (by omega), show kv_up h c 5 (X 0 + 1) (c + 3) u = X (20 + u) from by rw [pz_upne (by omega)]; exact (cc.2.2.2.2.2.2 u (by omega)).2, ← eg, cg.2.1, pz_read9 eG.2.1 eb.1 eb.2.2.1 bl hu, pz_b]
  unfold pz_askS
  by_cases z1 : pz_rd D (pz_bits V) 8 (u + 1) = true
  · rw [if_pos z1, if_pos z1, if_neg (by decide)]
    obtain ⟨h', x1, x2, x3⟩ := pz_tch9 eb.1 hcw (fun h13 => some ((1 : Int32), h13)) 8 (u + 1) 0 (pz_XA X u) g kv_fu (by omega) (by omega) (by omega) (by rw [show kv_fu = 5000 from rfl]; omega) eG.1 cg
    exact ⟨h', x1, x2, fun a q1 q2 q3 => (x3 a (by omega)).trans (fg a q3)⟩
  rw [if_neg z1, if_neg z1, if_pos rfl, pz_kN (by omega) (by omega), pz_hl, cg.2.2.2.1, (eG.2.1 u hu).2.1]
  obtain ⟨k, ek⟩ : ∃ k, k = kv_up g c 6 (pz_XA X u 1 + nI (pz_ms TX t n D u)) := ⟨_, rfl⟩
  have ck : pz_CC k c V (pz_XB (pz_XA X u) (nI (pz_ms TX t n D u))) := by rw [ek]; exact pz_Xu_CC0 cg 1 (by omega) _
  have fk : ∀ a, (a < c ∨ c + 3 < a) → k a = h a := fun a q => by rw [ek, pz_upne (by omega)]; exact fg a q
  have eK : pz_E9 k w n D t TX ch sp ru ca := pz_E9_fr e ht (fun a q1 q2 => fk a (by omega)) (fun a q1 q2 => fk a (by omega))
  have cbk := pz_XB_CB cba hn (nI (pz_ms TX t n D u))
  rw [← ek, ck.2.1]
  by_cases z2 : u ∈ V
  · rw [if_pos z2, if_pos ((pz_tbT (by omega) (by omega)).mpr (by rw [pz_bitsT]; simpa using z2)), pz_kN (by omega) (by omega), pz_hl, ck.2.2.1]
    refine ⟨_, rfl, pz_Xu_CCl ck (by omega) _, fun a q1 q2 q3 => ?_⟩
    rw [pz_upne (by omega)]; exact fk a q3
  rw [if_neg z2, if_neg (fun y => z2 (by have := (pz_tbT (by omega) (by omega)).mp y; rw [pz_bitsT] at this; simpa using this)), pz_kN (by omega) (by omega), eK.2.2.2.2.1, (eK.2.1 u hu).1]
  by_cases z3 : sp < pz_rm TX t D u
  · rw [if_pos z3, if_pos (nI_lt z3 (by omega))]
    exact ⟨k, rfl, ck, fun a q1 q2 q3 => fk a q3⟩
  rw [if_neg z3, if_neg (nI_nlt (by omega) (by omega)), pz_kN (by omega) (by omega), pz_sub (by omega), f_X8_throwDownTo]
  obtain ⟨h1, x1, x2, x3⟩ := pz_thr9 (lim := sp - pz_rm TX t D u) (fun z9 h10 => some (z9, h10)) hw hc hcw eb (by omega) V.length V (pz_XB (pz_XA X u) (nI (pz_ms TX t n D u))) k 0 0 kv_fu rfl (by omega) (by rw [show kv_fu = 5000 from rfl]; omega) (by omega) eK ck cbk
  obtain ⟨t1, t2, t3, t4⟩ := pz_thrB (t := t) (TX := TX) (ru := ru) (ca := ca) (lim := sp - pz_rm TX t D u) eb.1 V.length V _ rfl cbk
  have nu : u ∉ (pz_thrF D t TX sp ru ca V (pz_XB (pz_XA X u) (nI (pz_ms TX t n D u))) u).2.1 := fun y => z2 (t2 u y)
  have cba' := pz_CB_add t1 hu nu
  have vl' := pz_vlen cba' hn
  rw [List.length_append, List.length_singleton] at vl'
  obtain ⟨h2, y1, y2, y3⟩ := pz_enter9 x2 (by omega) (show u < 8 by omega)
  rw [show (0 : Int32) = nI 0 from rfl, x1, pz_b, y1, pz_b, pz_kN (by omega) (by omega), pz_hl, y2.2.2.1]
  refine ⟨_, rfl, pz_Xu_CCl y2 (by omega) _, fun a q1 q2 q3 => ?_⟩
  rw [pz_upne (by omega), y3 a (by omega) (by omega), x3 a q1 q2 (by omega) (by omega)]; exact fk a q3
theorem pz_ask10 {h : kv_H} {n : Nat} {D : Nat → Nat → Nat} {t : Nat} {TX : Nat → pz_T} {sp ru ca : Nat} {V : List Nat} {X : Nat → Int32} (e : pz_E10 h n D t TX sp ru ca) (hsp : sp ≤ 60) (hru : ru ≤ 4) (hca : ca ≤ 1) (cm : pz_CM (h 112) n V X) (cb : pz_CB n V X) {u : Nat} (hu : u < n) : ∃ h', f_X10_asks (nI u) h = some (nI (pz_askS n D t TX sp ru ca V X u).1, h') ∧ pz_CM (h' 112) n (pz_askS n D t TX sp ru ca V X u).2.1 (pz_askS n D t TX sp ru ca V X u).2.2 ∧ (∀ a, a ≠ 131 → a ≠ 132 → a ≠ 112 → h' a = h a) ∧ ∀ b, pz_sb b → h' 112 b = h 112 b := by
  have hn := e.1.2.1.1
  have vl := pz_vlen cb hn
  have hV : ∀ v, v ∈ V → v < 8 := fun v hv => by have := cb.2.1 v hv; omega
  have bl := pz_bitsL V hV
  have rb := pz_rmB e.1.2.1 TX t u hu
  obtain ⟨g, eg⟩ : ∃ g, g = kv_up (kv_up h 112 6 (X 0 + 1)) 112 (10 + 7 * u + 5) (X (20 + u) + 1) := ⟨_, rfl⟩
  have cg : pz_CM (g 112) n V (pz_XA X u) := by rw [eg]; exact pz_Xu_CM hn vl (pz_Xu_CM (s' := kv_up h 112 6 (X 0 + 1) 112) hn vl cm 6 0 0 _ (by omega) (by omega) pz_upeq) (10 + 7 * u + 5) (20 + u) u _ (by omega) (by omega) pz_upeq
  have fg : ∀ a, a ≠ 112 → g a = h a := fun a q => by rw [eg, pz_upne q, pz_upne q]
  have fs : ∀ b, pz_sb b → g 112 b = h 112 b := fun b q => by unfold pz_sb at q; rw [eg, pz_upeq, pz_upd, if_neg (by omega), pz_upeq, pz_upd, if_neg (by omega)]
  have eG : pz_E10 g n D t TX sp ru ca := pz_E10_fr e fs (fg _ (by omega)) (fg _ (by omega))
  have cba := pz_XA_CB cb hn hu
  rw [f_X10_asks, pz_leafAtU, pz_b, cm.2.1, pz_hl, show (10 : Int32) + 7 * nI u + 5 = nI (10 + 7 * u + 5) from pz_leafK u 5, show (10 : Int32) + 7 * nI u + 6 = nI (10 + 7 * u + 6) from pz_leafK u 6, pz_kN (by omega) (by omega), pz_kN (by omega) (by omega), pz_hl, pz_cl (by omega), show kv_up h 112 6 (X 0 + 1) 112 (10 + 7 * u + 5) = X (20 + u) from by rw [pz_upeq, pz_upd, if_neg (by omega), show 10 + 7 * u + 5 = 15 + 7 * u from by omega]; exact (cm.2.2.2.2.2 u hu).2, ← eg, pz_vb10 cg vl hV, pz_b, pz_read10 eG.1 bl hu, pz_b]
  unfold pz_askS
  by_cases z1 : pz_rd D (pz_bits V) 8 (u + 1) = true
  · rw [if_pos z1, if_pos z1, if_neg (by decide)]
    obtain ⟨h', x1, x2, x3, x4⟩ := pz_tch10 vl (fun h28 => some ((1 : Int32), h28)) 8 (u + 1) (pz_XA X u) g kv_fu (by omega) (by omega) (by rw [show kv_fu = 5000 from rfl]; omega) eG.1 cg
    exact ⟨h', x1, x2, fun a q1 q2 q3 => (x3 a q3).trans (fg a q3), fun b q => (x4 b q).trans (fs b q)⟩
  rw [if_neg z1, if_neg z1, if_pos rfl, pz_kN (by omega) (by omega), pz_hl, cg.2.2.1, pz_cl (by omega), (eG.2.1 u hu).2]
  obtain ⟨k, ek⟩ : ∃ k, k = kv_up g 112 7 (pz_XA X u 1 + nI (pz_ms TX t n D u)) := ⟨_, rfl⟩
  have ck : pz_CM (k 112) n V (pz_XB (pz_XA X u) (nI (pz_ms TX t n D u))) := by rw [ek]; exact pz_Xu_CM hn vl cg 7 1 0 _ (by omega) (by omega) pz_upeq
  have fk : ∀ a, a ≠ 112 → k a = h a := fun a q => by rw [ek, pz_upne q]; exact fg a q
  have fks : ∀ b, pz_sb b → k 112 b = h 112 b := fun b q => by
    rw [← fs b q]; unfold pz_sb at q; rw [ek, pz_upeq, pz_upd, if_neg (by omega)]
  have eK : pz_E10 k n D t TX sp ru ca := pz_E10_fr e fks (fk _ (by omega)) (fk _ (by omega))
  have cbk := pz_XB_CB cba hn (nI (pz_ms TX t n D u))
  rw [← ek]
  have tail0 : ∀ g : kv_H, kv_up g 112 (10 + 7 * u + 6) (g 112 (10 + 7 * u + 6)) = g := by
    intro g; funext a b; rw [pz_up]
    by_cases q1 : a = 112
    · by_cases q2 : b = 10 + 7 * u + 6
      · rw [if_pos q1, if_pos q2, q1, q2]
      · rw [if_pos q1, if_neg q2]
    · rw [if_neg q1]
  by_cases z2 : u ∈ V
  · obtain ⟨j, hj⟩ := pz_get_of_mem z2
    have jl := pz_iLt hj
    rw [if_pos z2, (pz_place10 ck vl hV u (by omega)).1 j hj cb.1, pz_b, pz_jn, if_neg (pz_ng (by omega))]
    dsimp only
    rw [pz_jn, if_neg (by decide)]
    dsimp only
    rw [if_neg (by decide), pz_kN (by omega) (by omega), pz_hl, pz_cl (by omega), ck.2.1]
    refine ⟨_, rfl, pz_Xu_CM hn vl ck (10 + 7 * u + 6) (10 + u) u _ (by omega) (by omega) pz_upeq, fun a q1 q2 q3 => ?_, fun b q => ?_⟩
    · rw [pz_upne q3]; exact fk a q3
    · rw [← fks b q]; unfold pz_sb at q; rw [pz_upeq, pz_upd, if_neg (by omega)]
  rw [if_neg z2, (pz_place10 ck vl hV u (by omega)).2 z2, pz_b, pz_jn, if_pos (by decide)]
  dsimp only
  rw [pz_jn, if_pos rfl, pz_kN (by omega) (by omega), eK.2.2.1, (eK.2.1 u hu).1]
  by_cases z3 : sp < pz_rm TX t D u
  · rw [if_pos z3, if_pos (nI_lt z3 (by omega))]
    dsimp only
    rw [if_pos rfl, pz_kN (by omega) (by omega), pz_kN (by omega) (by omega), pz_hl, pz_cl (by omega), tail0]
    exact ⟨k, rfl, ck, fun a q1 q2 q3 => fk a q3, fks⟩
  rw [if_neg z3, if_neg (nI_nlt (by omega) (by omega)), pz_kN (by omega) (by omega), f_X10_throwsFor]
  obtain ⟨h1, x1, x2, x3, x4⟩ := pz_thr10 (lim := sp - pz_rm TX t D u) (rr := pz_rm TX t D u) (fun z9 h10 => some (z9, h10)) hsp hru hca (by omega) V.length V (pz_XB (pz_XA X u) (nI (pz_ms TX t n D u))) k 0 kv_fu rfl (by rw [show kv_fu = 5000 from rfl]; omega) (by omega) eK ck cbk
  obtain ⟨t1, t2, t3, t4⟩ := pz_thrB (t := t) (TX := TX) (ru := ru) (ca := ca) (lim := sp - pz_rm TX t D u) e.1.2.1 V.length V _ rfl cbk
  have nu : u ∉ (pz_thrF D t TX sp ru ca V (pz_XB (pz_XA X u) (nI (pz_ms TX t n D u))) u).2.1 := fun y => z2 (t2 u y)
  have cba' := pz_CB_add t1 hu nu
  have vl' := pz_vlen cba' hn
  have vl2 := vl'
  rw [List.length_append, List.length_singleton] at vl'
  have y2 := pz_enter10 (u := u) x2 hn (by omega)
  obtain ⟨l, el⟩ : ∃ l, l = (pz_thr D t TX ru ca (sp - pz_rm TX t D u) V.length V (pz_XB (pz_XA X u) (nI (pz_ms TX t n D u)))).2.1.length := ⟨_, rfl⟩
  have x21 : h1 112 2 = nI l := by rw [el]; exact x2.1
  have vl3 : l + 1 ≤ 8 := by rw [el]; exact vl'
  rw [← el] at y2
  rw [show (0 : Int32) = nI 0 from rfl, x1, pz_b, x21, show (66 : Int32) + nI l = nI (66 + l) from pz_add 66 _, pz_kN (by omega) (by omega), pz_hl, pz_hl, show (nI (66 + l)).toNatClampNeg = 66 + l from pz_cl (by omega), show kv_up h1 112 (66 + l) (nI u) 112 2 = nI l from by rw [pz_upeq, pz_upd, if_neg (by omega)]; exact x21, nI_1]
  obtain ⟨q, eq⟩ : ∃ q, q = kv_up (kv_up h1 112 (66 + l) (nI u)) 112 2 (nI (l + 1)) := ⟨_, rfl⟩
  have q112 : q 112 = upd (upd (h1 112) (66 + l) (nI u)) 2 (nI (l + 1)) := by rw [eq, pz_upeq, pz_upeq]
  rw [← q112] at y2
  rw [← eq]
  dsimp only
  rw [if_neg (by decide), pz_kN (by omega) (by omega), pz_hl, pz_cl (by omega), y2.2.1]
  refine ⟨_, rfl, pz_Xu_CM hn vl2 y2 (10 + 7 * u + 6) (10 + u) u _ (by omega) (by omega) pz_upeq, fun a q1 q2 q3 => ?_, fun b qb => ?_⟩
  · rw [pz_upne q3, eq, pz_upne q3, pz_upne q3, x3 a q1 q2 q3]; exact fk a q3
  · rw [← fks b qb, ← x4 b qb]; unfold pz_sb at qb; rw [pz_upeq, pz_upd, if_neg (by omega), q112, pz_upd, if_neg (by omega), pz_upd, if_neg (by omega)]

/-! PURE PART: count, told -/
def pz_all2 {β γ : Type} (Rel : Option β → Option γ → Prop) : List (Option β) → List (Option γ) → Prop
  | a :: as, b :: bs => Rel a b ∧ pz_all2 Rel as bs
  | [], [] => True
  | _, _ => False
theorem pz_sw2 {β γ : Type} (Rel : Option β → Option γ → Prop) (x : Int32) : ∀ (ks : List Int32) (rs : List (Option β)) (rs' : List (Option γ)) (d : Option β) (d' : Option γ), Rel d d' → pz_all2 Rel rs rs' → Rel (kv_sw x ks rs d) (kv_sw x ks rs' d') := by
  intro ks
  induction ks with
  | nil =>
    intro rs rs' d d' h1 h2
    cases rs <;> cases rs' <;> exact h1
  | cons k ks ih =>
    intro rs rs' d d' h1 h2
    match rs, rs', h2 with
    | [], [], _ => exact h1
    | a :: as, b :: bs, h2 =>
      rw [kv_sw, kv_sw]
      by_cases q : x = k
      · rw [if_pos q, if_pos q]; exact h2.1
      · rw [if_neg q, if_neg q]; exact ih as bs d d' h1 h2.2
def pz_rel (h : kv_H) (a b : Option (Int32 × kv_H)) : Prop := ∃ r h2, a = some (r, h) ∧ b = some (r, h2) ∧ ∀ c, ¬ pz_sc c → h2 c = h c
theorem pz_rel_op {h : kv_H} {F F2 : kv_H → Option (Int32 × kv_H)} (q : pz_rel h (F h) (F2 h)) : pz_op [] (fun _ => True) F F2 h := by
  obtain ⟨r, h2, e1, e2, e3⟩ := q
  refine ⟨r, h, h2, e1, e2, trivial, fun a b q1 q2 => ?_⟩
  by_cases z : pz_sc a
  · exact absurd (pz_scR z) q2
  · rw [e3 a z]
theorem pz_rel_s {h : kv_H} (r r' : Int32) (e : r = r') : pz_rel h (some (r, h)) (some (r', h)) := ⟨r, h, rfl, by rw [e], fun _ _ => rfl⟩
theorem pz_count (x : Int32) (h : kv_H) (c1 : pz_c1 h) (c2 : pz_c2 h) (c5 : pz_c5 h) : pz_op [] (fun _ => True) (f_X9_count x) (f_X10_count x) h := by
  obtain ⟨k1, _, a1, a2, _⟩ := c1
  obtain ⟨k2, B, _, b1, b2, _⟩ := c2
  obtain ⟨n, D, t, TX, ch, V, X, sp, ru, ca, R, g1, ⟨cc, cm, cb⟩, g3, g4⟩ := c5
  have cc : pz_CC h 91 V X := cc
  have hn := g1.2.1.2.1.1
  have vl := pz_vlen cb hn
  have hV : ∀ v, v ∈ V → v < 8 := fun v hv => by have := cb.2.1 v hv; omega
  have bl := pz_bitsL V hV
  have ht := g1.2.1.2.2.2.2
  apply pz_rel_op
  rw [f_X9_count, f_X10_count]
  refine pz_sw2 (pz_rel h) x _ _ _ _ _ (pz_rel_s _ _ rfl) ⟨pz_rel_s _ _ ?_, pz_rel_s _ _ ?_, ?_, ?_, pz_rel_s _ _ ?_, pz_rel_s _ _ ?_, pz_rel_s _ _ ?_, pz_rel_s _ _ ?_, pz_rel_s _ _ ?_, pz_rel_s _ _ ?_, pz_rel_s _ _ ?_, pz_rel_s _ _ ?_, pz_rel_s _ _ ?_, pz_rel_s _ _ ?_, trivial⟩
  · exact g1.1.1.trans g1.2.1.1.1.symm
  · exact cc.1.trans cm.1.symm
  · rw [pz_vb10 cm vl hV, pz_b]; exact pz_rel_s _ _ cc.2.1
  · obtain ⟨h', x1, x2, x3⟩ := pz_knows g1.2.1
    have s := x3 112 (by omega) (by omega) (by omega) (by omega)
    rw [cc.2.1, pz_rooms9 (q := 82) g1.1 g1.2.2.1 hn (by omega), pz_b, x1, pz_b, pz_full10 (by rw [s]; exact cm) x2 hn vl cb.2.1, pz_b, pz_rmb_V _ cb.1 cb.2.1]
    exact ⟨_, h', rfl, rfl, fun c q => x3 c (by unfold pz_sc at q; omega) (by unfold pz_sc at q; omega) (by unfold pz_sc at q; omega) (by unfold pz_sc at q; omega)⟩
  · exact g3.1.trans g3.2.2.2.1.symm
  · exact g3.2.1.trans g3.2.2.2.2.1.symm
  · exact g3.2.2.1.trans g3.2.2.2.2.2.1.symm
  · exact cc.2.2.1.trans cm.2.1.symm
  · exact cc.2.2.2.1.trans cm.2.2.1.symm
  · exact g4.1.trans g4.2.1.symm
  · exact g1.2.2.2.2.2.2.trans ht.symm
  · exact a1.trans a2.symm
  · exact b1.trans b2.symm
  · exact cc.2.2.2.2.1.trans cm.2.2.2.1.symm
theorem pz_told (x1 x2 : Int32) (h : kv_H) (c5 : pz_c5 h) : pz_op [] (fun _ => True) (f_X9_told x1 x2) (f_X10_told x1 x2) h := by
  obtain ⟨n, D, t, TX, ch, V, X, sp, ru, ca, R, g1, ⟨cc, cm, cb⟩, g3, g4⟩ := c5
  have cc : pz_CC h 91 V X := cc
  have hn := g1.2.1.2.1.1
  have vl := pz_vlen cb hn
  have hV : ∀ v, v ∈ V → v < 8 := fun v hv => by have := cb.2.1 v hv; omega
  have bl := pz_bitsL V hV
  have l9 : h 82 8 = nI n := g1.1.1
  have l10 : h 112 0 = nI n := g1.2.1.1.1
  rcases pz_cases x1 n (by omega) with q | ⟨u, hu, rfl⟩
  · exact pz_op_same (-1000000001) trivial (by rw [f_X9_told, pz_leaf9B l9 (by omega) q]; rfl) (by rw [f_X10_told, pz_leaf10B l10 (by omega) q]; rfl)
  have a : h 83 u = nI (D 0 u) ∧ h 84 u = nI (D 1 u) ∧ h 85 u = nI (D 2 u) ∧ h 86 u = nI (D 3 u) ∧ h 87 u = pz_on (D 4 u) := g1.1.2 u hu
  have lx : h 88 u = nI (pz_rm TX t D u) ∧ h 89 u = nI (pz_ms TX t n D u) ∧ h 90 u = nI (ch u) := g1.2.2.1 u hu
  have b := g1.2.1.1.2 u hu
  have lb := g1.2.1.2.1.2 u hu
  have cl := cc.2.2.2.2.2.2 u (by omega)
  have cl9 : h 93 u = X (10 + u) ∧ h 94 u = X (20 + u) := cl
  have cl10 := cm.2.2.2.2.2 u hu
  apply pz_rel_op
  have e0 : (10 : Int32) + 7 * nI u = nI (10 + 7 * u) := by rw [show (7 : Int32) = nI 7 from rfl, pz_mul, show (10 : Int32) = nI 10 from rfl, pz_add]
  have ea : ∀ k : Nat, nI (10 + 7 * u) + nI k = nI (10 + 7 * u + k) := fun k => pz_add _ _
  have ea1 : nI (10 + 7 * u) + 1 = nI (11 + 7 * u) := (ea 1).trans (by congr 1; omega)
  have ea2 : nI (10 + 7 * u) + 2 = nI (12 + 7 * u) := (ea 2).trans (by congr 1; omega)
  have ea3 : nI (10 + 7 * u) + 3 = nI (13 + 7 * u) := (ea 3).trans (by congr 1; omega)
  have ea4 : nI (10 + 7 * u) + 4 = nI (14 + 7 * u) := (ea 4).trans (by congr 1; omega)
  have ea5 : nI (10 + 7 * u) + 5 = nI (15 + 7 * u) := (ea 5).trans (by congr 1; omega)
  have ea6 : nI (10 + 7 * u) + 6 = nI (16 + 7 * u) := (ea 6).trans (by congr 1; omega)
  rw [f_X9_told, pz_leaf9G l9 (by omega) hu, pz_b, if_neg (by decide), f_X10_told, pz_leaf10G l10 (by omega) hu, pz_b, if_neg (by decide), pz_leafAtU, pz_b, e0, ea1, ea2, ea3, ea4, ea5, ea6]
  refine pz_sw2 (pz_rel h) x2 _ _ _ _ _ (pz_rel_s _ _ rfl) ⟨?_, ?_, ?_, ?_, ?_, ?_, ?_, ?_, ?_, ?_, ?_, ?_, trivial⟩
  · rw [pz_kN (by omega) (by omega), pz_kN (by omega) (by omega), pz_cl (by omega), pz_cl (by omega)]; exact pz_rel_s _ _ (a.1.trans b.1.symm)
  · rw [pz_kN (by omega) (by omega), pz_kN (by omega) (by omega), pz_cl (by omega), pz_cl (by omega)]; exact pz_rel_s _ _ (a.2.1.trans b.2.1.symm)
  · rw [pz_kN (by omega) (by omega), pz_kN (by omega) (by omega), pz_cl (by omega), pz_cl (by omega)]; exact pz_rel_s _ _ (a.2.2.1.trans b.2.2.1.symm)
  · rw [pz_kN (by omega) (by omega), pz_kN (by omega) (by omega), pz_cl (by omega), pz_cl (by omega)]; exact pz_rel_s _ _ (a.2.2.2.1.trans b.2.2.2.1.symm)
  · rw [pz_kN (by omega) (by omega), pz_kN (by omega) (by omega), pz_cl (by omega), pz_cl (by omega), a.2.2.2.2, b.2.2.2.2, pz_orNoneU, pz_b, f_X9_leanOutside]
    by_cases q : 0 ≤ pz_on (D 4 u)
    · rw [if_pos q, pz_b, if_pos q]; exact pz_rel_s _ _ rfl
    · rw [if_neg q, pz_b, if_neg q]; exact pz_rel_s _ _ rfl
  · obtain ⟨h', x1, x2⟩ := pz_room10 g1.2.1 u hu
    rw [pz_kN (by omega) (by omega), pz_cl (by omega), x1, pz_b, lx.1]
    exact ⟨_, h', rfl, rfl, fun c q => x2 c (by unfold pz_sc at q; omega) (by unfold pz_sc at q; omega)⟩
  · obtain ⟨h', x1, x2⟩ := pz_miss10 g1.2.1 u hu
    rw [pz_kN (by omega) (by omega), pz_cl (by omega), x1, pz_b, lx.2.1]
    exact ⟨_, h', rfl, rfl, fun c q => x2 c (by unfold pz_sc at q; omega) (by unfold pz_sc at q; omega)⟩
  · rw [pz_kN (by omega) (by omega), pz_kN (by omega) (by omega), pz_cl (by omega), pz_cl (by omega)]; exact pz_rel_s _ _ (cl9.1.trans cl10.1.symm)
  · rw [pz_kN (by omega) (by omega), pz_kN (by omega) (by omega), pz_cl (by omega), pz_cl (by omega)]; exact pz_rel_s _ _ (cl9.2.trans cl10.2.symm)
  · by_cases z : u ∈ V
    · obtain ⟨j, hj⟩ := pz_get_of_mem z
      have jl := pz_iLt hj
      rw [(pz_place9 cc vl hV u (by omega)).1 j hj cb.1, pz_b, (pz_place10 cm vl hV u (by omega)).1 j hj cb.1, pz_b, pz_orNoneU, pz_b, if_pos (pz_g0 (by omega))]; exact pz_rel_s _ _ rfl
    · rw [(pz_place9 cc vl hV u (by omega)).2 z, pz_b, (pz_place10 cm vl hV u (by omega)).2 z, pz_b, pz_orNoneU, pz_b, if_neg (by decide)]; exact pz_rel_s _ _ rfl
  · rw [cc.2.1, pz_read9 (q := 82) g1.2.2.1 g1.2.1.2.1 g1.2.2.2.1 bl hu, pz_b, pz_vb10 cm vl hV, pz_b, pz_read10 g1.2.1 bl hu, pz_b]
    by_cases q : (if pz_rd D (pz_bits V) 8 (u + 1) then (1 : Int32) else 0) = 0
    · rw [if_pos q]; exact pz_rel_s _ _ rfl
    · rw [if_neg q]; exact pz_rel_s _ _ rfl
  · rw [pz_kN (by omega) (by omega), pz_kN (by omega) (by omega), pz_kN (by omega) (by omega), pz_kN (by omega) (by omega), pz_worth9, pz_b, pz_worth10 g1.2.1.1 hn u hu, pz_b, pz_cl (by omega), a.1, a.2.1, a.2.2.1, a.2.2.2.1]; exact pz_rel_s _ _ rfl

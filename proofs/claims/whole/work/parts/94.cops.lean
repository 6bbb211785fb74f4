/-! PURE PART: the course's calls: out, next, want -/
def pz_sc (a : Nat) : Prop := a = 2 ∨ (6 ≤ a ∧ a ≤ 17) ∨ (44 ≤ a ∧ a ≤ 50) ∨ a = 114 ∨ (123 ≤ a ∧ a ≤ 129) ∨ a = 131 ∨ a = 132 ∨ a = 133 ∨ a = 135
theorem pz_scR {a b : Nat} (q : pz_sc a) : pz_reg a b = 7 := by
  unfold pz_sc at q
  unfold pz_reg
  rw [if_neg (by omega), if_neg (by omega), if_neg (by omega), if_neg (by omega), if_neg (by omega), if_neg (by omega), if_neg (by omega), if_neg (by omega), if_neg (by omega)]
theorem pz_toE9 {w : Nat} {h : kv_H} {s : Nat → Int32} {n : Nat} {D : Nat → Nat → Nat} {t : Nat} {TX : Nat → pz_T} {ch : Nat → Nat} {sp ru ca : Nat} (g1 : pz_G1 w h s n D t TX ch) (g3 : pz_G3 w h s sp ru ca) : pz_E9 h w n D t TX ch sp ru ca ∧ pz_EB n D t TX ch sp ru ca :=
  ⟨⟨g1.1, g1.2.2.1, g1.2.2.2.2.1, g1.2.2.2.2.2.1, g3.1, g3.2.1, g3.2.2.1⟩, g1.2.1.2.1, g1.2.1.2.2.2.1, g1.2.2.2.1, g3.2.2.2.2.2.2.1, g3.2.2.2.2.2.2.2.1, g3.2.2.2.2.2.2.2.2⟩
theorem pz_toE10 {h : kv_H} {n : Nat} {D : Nat → Nat → Nat} {t : Nat} {TX : Nat → pz_T} {sp ru ca : Nat} (m : pz_M (h 112) n D t TX) (e3 : h 112 3 = nI sp) (e4 : h 112 4 = nI ru) (e5 : h 112 5 = nI ca) : ∃ h', f_X10_knows h = some ((), h') ∧ pz_E10 h' n D t TX sp ru ca ∧ h' 112 = h 112 ∧ ∀ a, ¬ pz_sc a → h' a = h a := by
  obtain ⟨h', x1, x2, x3⟩ := pz_knows m
  have s := x3 112 (by omega) (by omega) (by omega) (by omega)
  refine ⟨h', x1, ⟨by rw [s]; exact m, x2, by rw [s]; exact e3, by rw [s]; exact e4, by rw [s]; exact e5⟩, s, fun a q => ?_⟩
  unfold pz_sc at q
  exact x3 a (by omega) (by omega) (by omega) (by omega)
theorem pz_close {h : kv_H} {n : Nat} {D : Nat → Nat → Nat} {t : Nat} {TX : Nat → pz_T} {ch : Nat → Nat} {V : List Nat} {X : Nat → Int32} {sp ru ca : Nat} {R : List Nat} {F F2 : kv_H → Option (Int32 × kv_H)} (g : pz_world 79 h (h 112) n D t TX ch V X sp ru ca R) (V' : List Nat) (X' : Nat → Int32) (r : Int32) (h1 h2 : kv_H) (F1 : F h = some (r, h1)) (F3 : F2 h1 = some (r, h2)) (cb' : pz_CB n V' X') (c1 : pz_CC h1 91 V' X') (c2 : pz_CM (h2 112) n V' X') (fr1 : ∀ a, ¬ pz_sc a → (a < 91 ∨ 94 < a) → h1 a = h a) (fr2 : ∀ a, ¬ pz_sc a → a ≠ 112 → h2 a = h1 a) (fs : ∀ b, pz_sb b → h2 112 b = h1 112 b) : pz_op [5] pz_c5 F F2 h := by
  obtain ⟨g1, g2, g3, g4⟩ := g
  have s112 : h1 112 = h 112 := fr1 112 (by unfold pz_sc; omega) (by omega)
  have f2 : ∀ a, ¬ pz_sc a → (a < 91 ∨ 94 < a) → a ≠ 112 → h2 a = h a := fun a q1 q2 q3 => (fr2 a q1 q3).trans (fr1 a q1 q2)
  have fs' : ∀ b, pz_sb b → h2 112 b = h 112 b := fun b q => by rw [fs b q, s112]
  refine ⟨r, h1, h2, F1, F3, ⟨n, D, t, TX, ch, V', X', sp, ru, ca, R, ?_, ⟨?_, c2, cb'⟩, ?_, ?_⟩, ?_⟩
  · exact pz_G1_fr g1 (fun a q1 q2 => f2 a (by unfold pz_sc; omega) (by omega) (by omega)) (fun a q1 q2 => f2 a (by unfold pz_sc; omega) (by omega) (by omega)) (by rw [f2 79 (by unfold pz_sc; omega) (by omega) (by omega)]) (fs' _ (by unfold pz_sb; omega)) (fs' _ (by unfold pz_sb; omega)) (fun i j q1 q2 => fs' _ (by unfold pz_sb; omega)) (fun b q1 q2 => fs' _ (by unfold pz_sb; omega))
  · exact pz_CC_fr c1 (fun a q1 q2 => fr2 a (by unfold pz_sc; omega) (by omega))
  · exact pz_G3_fr g3 (by rw [f2 79 (by unfold pz_sc; omega) (by omega) (by omega)]) (by rw [f2 79 (by unfold pz_sc; omega) (by omega) (by omega)]) (by rw [f2 79 (by unfold pz_sc; omega) (by omega) (by omega)]) (fs' _ (by unfold pz_sb; omega)) (fs' _ (by unfold pz_sb; omega)) (fs' _ (by unfold pz_sb; omega))
  · exact pz_G4_fr g4 (by rw [f2 79 (by unfold pz_sc; omega) (by omega) (by omega)]) (f2 _ (by unfold pz_sc; omega) (by omega) (by omega)) (fs' _ (by unfold pz_sb; omega)) (fun i _ => fs' _ (by unfold pz_sb; omega))
  · intro a b q1 q2
    by_cases z : pz_sc a
    · exact absurd (pz_scR z) q2
    · by_cases y : (91 ≤ a ∧ a ≤ 94) ∨ a = 112
      · exfalso; apply q1; rw [pz_reg5 (by omega) (by omega)]; decide
      · rw [f2 a z (by omega) (by omega)]
theorem pz_out (x : Int32) (h : kv_H) (c : pz_c5 h) : pz_op [5] pz_c5 (f_X9_out x) (f_X10_out x) h := by
  obtain ⟨n, D, t, TX, ch, V, X, sp, ru, ca, R, w⟩ := c
  have c : pz_c5 h := ⟨n, D, t, TX, ch, V, X, sp, ru, ca, R, w⟩
  have w' := w
  obtain ⟨g1, ⟨cc, cm, cb⟩, g3, g4⟩ := w
  have cc : pz_CC h 91 V X := cc
  have hn := g1.2.1.2.1.1
  have vl := pz_vlen cb hn
  have hV : ∀ v, v ∈ V → v < 8 := fun v hv => by have := cb.2.1 v hv; omega
  have l9 : h 82 8 = nI n := g1.1.1
  have l10 : h 112 0 = nI n := g1.2.1.1.1
  rcases pz_cases x n (by omega) with q | ⟨u, hu, rfl⟩
  · exact pz_op_same (-1000000001) c (by rw [f_X9_out, pz_leaf9B l9 (by omega) q]; rfl) (by rw [f_X10_out, pz_leaf10B l10 (by omega) q]; rfl)
  by_cases z : u ∈ V
  · obtain ⟨j, hj⟩ := pz_get_of_mem z
    have jl := pz_iLt hj
    obtain ⟨h1, x1, x2, x3⟩ := (pz_leave9 cc vl hV cb.1 u (by omega)).1 j hj
    have s112 : h1 112 = h 112 := x3 112 (by omega) (by omega)
    have cm1 : pz_CM (h1 112) n V X := by rw [s112]; exact cm
    obtain ⟨h2, y1, y2, y3, y4⟩ := pz_leave10 cm1 hn vl jl
    refine pz_close w' (V.eraseIdx j) X 1 h1 h2 ?_ ?_ (pz_CB_era cb hj) x2 y2 (fun a q1 q2 => x3 a (by omega) (by omega)) (fun a q1 q2 => y3 a q2) (fun b q => by unfold pz_sb at q; exact y4 b (by omega) (by omega))
    · rw [f_X9_out, pz_leaf9G l9 (by omega) hu, pz_b, if_neg (by decide), x1, pz_b, if_neg (by decide)]
    · rw [f_X10_out, pz_leaf10G (by rw [s112]; exact l10) (by omega) hu, pz_b, if_neg (by decide), (pz_place10 cm1 vl hV u (by omega)).1 j hj cb.1, pz_b, pz_jn, if_neg (pz_ng (by omega)), y1, pz_b]
      dsimp only
      rw [if_pos (pz_g0 (by omega))]
  · refine pz_op_same 0 c ?_ ?_
    · rw [f_X9_out, pz_leaf9G l9 (by omega) hu, pz_b, if_neg (by decide), (pz_leave9 cc vl hV cb.1 u (by omega)).2 z, pz_b, if_pos rfl]
    · rw [f_X10_out, pz_leaf10G l10 (by omega) hu, pz_b, if_neg (by decide), (pz_place10 cm vl hV u (by omega)).2 z, pz_b, pz_jn, if_pos (by decide)]
      dsimp only
      rw [if_neg (by decide)]
theorem pz_want (x : Int32) (h : kv_H) (c : pz_c5 h) : pz_op [5] pz_c5 (f_X9_want x) (f_X10_want x) h := by
  obtain ⟨n, D, t, TX, ch, V, X, sp, ru, ca, R, w⟩ := c
  have c : pz_c5 h := ⟨n, D, t, TX, ch, V, X, sp, ru, ca, R, w⟩
  have w' := w
  obtain ⟨g1, ⟨cc, cm, cb⟩, g3, g4⟩ := w
  have cc : pz_CC h 91 V X := cc
  have hn := g1.2.1.2.1.1
  have l9 : h 82 8 = nI n := g1.1.1
  have l10 : h 112 0 = nI n := g1.2.1.1.1
  obtain ⟨e9, eb⟩ := pz_toE9 g1 g3
  rcases pz_cases x n (by omega) with q | ⟨u, hu, rfl⟩
  · exact pz_op_same (-1000000001) c (by rw [f_X9_want, pz_leaf9B l9 (by omega) q]; rfl) (by rw [f_X10_want, pz_leaf10B l10 (by omega) q]; rfl)
  obtain ⟨h1, x1, x2, x3⟩ := pz_ask9 (w := 79) (c := 91) (by omega) (by omega) (by omega) e9 eb cc cb hu
  have s112 : h1 112 = h 112 := x3 112 (by omega) (by omega) (by omega)
  obtain ⟨ha, a1, a2, a3, a4⟩ := pz_toE10 (h := h1) (sp := sp) (ru := ru) (ca := ca) (by rw [s112]; exact g1.2.1) (by rw [s112]; exact g3.2.2.2.1) (by rw [s112]; exact g3.2.2.2.2.1) (by rw [s112]; exact g3.2.2.2.2.2.1)
  obtain ⟨h2, y1, y2, y3, y4⟩ := pz_ask10 a2 eb.2.2.2.1 eb.2.2.2.2.1 eb.2.2.2.2.2 (by rw [a3, s112]; exact cm) cb hu
  have ab := pz_askB (t := t) (TX := TX) (sp := sp) (ru := ru) (ca := ca) g1.2.1.2.1 cb hu
  refine pz_close w' _ _ (nI (pz_askS n D t TX sp ru ca V X u).1) h1 h2 ?_ ?_ ab.1 x2 y2 (fun a q1 q2 => x3 a (by unfold pz_sc at q1; omega) (by unfold pz_sc at q1; omega) q2) (fun a q1 q2 => (y3 a (by unfold pz_sc at q1; omega) (by unfold pz_sc at q1; omega) q2).trans (a4 a q1)) (fun b q => by rw [y4 b q, a3])
  · rw [f_X9_want, pz_leaf9G l9 (by omega) hu, pz_b, if_neg (by decide), x1, pz_b]
  · rw [f_X10_want, pz_leaf10G (by rw [s112]; exact l10) (by omega) hu, pz_b, if_neg (by decide), a1, pz_b, y1, pz_b]
    have cs : (pz_askS n D t TX sp ru ca V X u).1 = 0 ∨ (pz_askS n D t TX sp ru ca V X u).1 = 1 := by omega
    rcases cs with z | z
    · rw [z, if_pos (show nI 0 = (0 : Int32) from rfl)]; rfl
    · rw [z, if_neg (by decide)]; rfl
theorem pz_next (h : kv_H) (c : pz_c5 h) : pz_op [5] pz_c5 f_X9_next f_X10_next h := by
  obtain ⟨n, D, t, TX, ch, V, X, sp, ru, ca, R, w⟩ := c
  have w' := w
  obtain ⟨g1, ⟨cc, cm, cb⟩, g3, g4⟩ := w
  have cc : pz_CC h 91 V X := cc
  have hn := g1.2.1.2.1.1
  have vl := pz_vlen cb hn
  obtain ⟨e9, eb⟩ := pz_toE9 g1 g3
  obtain ⟨h1, x1, x2, x3⟩ := pz_fst9 (w := 79) (c := 91) (by omega) (by omega) (by omega) e9 eb cc cb
  obtain ⟨k, ek⟩ : ∃ k, k = kv_up h1 91 7 (X 2) := ⟨_, rfl⟩
  have ck0 := pz_Xu_CC0 x2 2 (by omega) (X 2)
  rw [show (5 + 2) = 7 from rfl, ← ek, show pz_Xu (pz_Xu X 2 (pz_fst (pz_may D ca V) (pz_ur TX t (pz_rm TX t D) ru X) ru V (X 2)).2) 2 (X 2) = X from by
    funext i; rw [pz_Xua, pz_Xua]; by_cases q : i = 2
    · rw [if_pos q, q]
    · rw [if_neg q, if_neg q]] at ck0
  have fk : ∀ a, a ≠ 49 → a ≠ 50 → a ≠ 91 → k a = h a := fun a q1 q2 q3 => by rw [ek, pz_upne q3]; exact x3 a q1 q2 q3
  have s112 : k 112 = h 112 := fk 112 (by omega) (by omega) (by omega)
  obtain ⟨ha, a1, a2, a3, a4⟩ := pz_toE10 (h := k) (sp := sp) (ru := ru) (ca := ca) (by rw [s112]; exact g1.2.1) (by rw [s112]; exact g3.2.2.2.1) (by rw [s112]; exact g3.2.2.2.2.1) (by rw [s112]; exact g3.2.2.2.2.2.1)
  have cma : pz_CM (ha 112) n V X := by rw [a3, s112]; exact cm
  obtain ⟨h2, y1, y2, y3, y4⟩ := pz_fst10 a2 eb.2.2.2.2.1 eb.2.2.2.2.2 cma cb
  obtain ⟨l, el⟩ : ∃ l, l = kv_up h2 112 9 (X 2) := ⟨_, rfl⟩
  have l112 : l 112 = ha 112 := by
    funext b; rw [el, pz_upeq, pz_upd]
    by_cases q : b = 9
    · rw [if_pos q, q]; exact cma.2.2.2.1.symm
    · rw [if_neg q]; exact y4 b q
  have fl : ∀ a, a ≠ 131 → a ≠ 132 → a ≠ 112 → l a = ha a := fun a q1 q2 q3 => by rw [el, pz_upne q3]; exact y3 a q1 q2 q3
  have fin : ∀ r : Int32, f_X9_next h = some (r, k) → f_X10_next k = some (r, l) → pz_op [5] pz_c5 f_X9_next f_X10_next h := fun r q1 q2 => pz_close w' V X r k l q1 q2 cb ck0 (by rw [l112]; exact cma) (fun a q1 q2 => fk a (by unfold pz_sc at q1; omega) (by unfold pz_sc at q1; omega) (by omega)) (fun a q1 q2 => (fl a (by unfold pz_sc at q1; omega) (by unfold pz_sc at q1; omega) q2).trans (a4 a q1)) (fun b q => by rw [l112, a3])
  have n9 : f_X9_next h = kv_b (f_X0_leafAt 91 (pz_pl9 (pz_fst (pz_may D ca V) (pz_ur TX t (pz_rm TX t D) ru X) ru V (X 2)).1) k) (fun r6 h5 => some (r6, h5)) := by
    rw [f_X9_next, cc.2.2.2.2.1, pz_vl, x1, pz_b, pz_hl, ← ek]
  have n10 : f_X10_next k = (if 0 ≤ (pz_pl10 (pz_fst (pz_may D ca V) (pz_ur TX t (pz_rm TX t D) ru X) ru V (X 2)).1) then (kv_k (66 + (pz_pl10 (pz_fst (pz_may D ca V) (pz_ur TX t (pz_rm TX t D) ru X) ru V (X 2)).1)) 3098 (some ((l 112 (66 + (pz_pl10 (pz_fst (pz_may D ca V) (pz_ur TX t (pz_rm TX t D) ru X) ru V (X 2)).1)).toNatClampNeg), l))) else (some ((-1000000005), l))) := by
    rw [f_X10_next, a1, pz_b, cma.2.2.2.1, pz_vl, y1, pz_b, pz_hl, ← el]
  by_cases z : V = []
  · have fz : (pz_fst (pz_may D ca V) (pz_ur TX t (pz_rm TX t D) ru X) ru V (X 2)).1 = none := by
      subst z; rfl
    refine fin (-1000000005) ?_ ?_
    · rw [n9, fz, f_X0_leafAt, if_pos (by decide), pz_b]
    · rw [n10, fz, if_neg (by decide)]
  · obtain ⟨j, u, f1, f2⟩ := pz_FsS (t := t) (TX := TX) (ru := ru) (ca := ca) g1.2.1.2.1 cb z
    have f1' : (pz_fst (pz_may D ca V) (pz_ur TX t (pz_rm TX t D) ru X) ru V (X 2)).1 = some j := f1
    have jl := pz_iLt f2
    refine fin (nI u) ?_ ?_
    · rw [n9, f1', show pz_pl9 (some j) = nI j from rfl, f_X0_leafAt, if_neg (pz_ng (by omega)), ck0.1, if_pos (nI_lt jl (by omega)), pz_kN (by omega) (by omega), pz_cl (by omega), ck0.2.2.2.2.2.1 j u f2, pz_b]
    · rw [n10, f1', show pz_pl10 (some j) = nI j from rfl, if_pos (pz_g0 (by omega)), show (66 : Int32) + nI j = nI (66 + j) from pz_add 66 j, pz_kN (by omega) (by omega), pz_cl (by omega), l112, cma.2.2.2.2.1 j u f2]

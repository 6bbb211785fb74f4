/-! PURE PART: the class foresees: all of it -/
theorem pz_fore63 {w q2 nq2 n : Nat} {D : Nat → Nat → Nat} {t : Nat} {TX : Nat → pz_T} {ch : Nat → Nat} {sp ru ca : Nat} {L : List Nat} {h0 : kv_H} (hw : 50 < w) (hl : L.length ≤ nq2) (hq2 : nq2 < 4000) (hl24 : L.length ≤ 24) (hq : q2 ≠ 46) (row : ∀ i u, L[i]? = some u → h0 q2 i = nI u) (hL : ∀ u, u ∈ L → u < n) (eb : pz_EB n D t TX ch sp ru ca) (C : kv_H → Option (Unit × kv_H)) : ∀ (k : Nat) (h : kv_H) (fu : Nat), k < L.length → k < fu → (∀ a, a ≠ 46 → h a = h0 a) → pz_E9 h w n D t TX ch sp ru ca → (∀ s, s < 2 ^ n → h 45 s = nI (pz_rmb (pz_rm TX t D) s n)) → (∀ s, s < 2 ^ n → h 46 s = nI (pz_ft (pz_fit TX t D n sp) D (pz_ms TX t n D) (L.drop (k + 1)) s)) → ∃ h', f_X2_foresee_L63 w q2 nq2 (nI L.length) (nI (2 ^ n)) fu (nI k) h C = C h' ∧ (∀ s, s < 2 ^ n → h' 46 s = nI (pz_ft (pz_fit TX t D n sp) D (pz_ms TX t n D) (L.drop 1) s)) ∧ ∀ a, a ≠ 46 → h' a = h a := by
  have ht := eb.2.1.1
  have f0 := pz_fit0 TX t D n sp
  intro k
  induction k with
  | zero =>
    intro h fu e1 e2 fr e h45 h46
    obtain ⟨fu, rfl⟩ : ∃ f, fu = f + 1 := ⟨fu - 1, by omega⟩
    refine ⟨h, ?_, h46, fun _ _ => rfl⟩
    rw [f_X2_foresee_L63, if_pos (by decide)]
  | succ k ih =>
    intro h fu e1 e2 fr e h45 h46
    obtain ⟨fu, rfl⟩ : ∃ f, fu = f + 1 := ⟨fu - 1, by omega⟩
    obtain ⟨y, hy⟩ : ∃ y, L[k + 1]? = some y := ⟨L[k + 1], List.getElem?_eq_getElem e1⟩
    have yn := hL y (pz_mem_of_get hy)
    have dr : L.drop (k + 1) = y :: L.drop (k + 1 + 1) := by
      rw [List.drop_eq_getElem_cons e1]
      congr 1
      rw [List.getElem?_eq_getElem e1] at hy; exact Option.some.inj hy
    obtain ⟨T, eT⟩ : ∃ T, T = pz_ft (pz_fit TX t D n sp) D (pz_ms TX t n D) (L.drop (k + 1 + 1)) := ⟨_, rfl⟩
    rw [← eT] at h46
    have mid : ∃ g, (∀ J : kv_H → Option (Unit × kv_H), (if (nI L.length - 1) ≤ nI (k + 1) then (J h) else (kv_b (f_X2_chooseWithin w (nI (2 ^ n)) h) (fun _ h9 => J h9))) = J g) ∧ (∀ s, s < 2 ^ n → g 46 s = nI (pz_win (pz_fit TX t D n sp) T s)) ∧ ∀ a, a ≠ 46 → g a = h a := by
      rw [show nI L.length - (1 : Int32) = nI (L.length - 1) from pz_sub (b := 1) (by omega)]
      by_cases z : L.length - 1 ≤ k + 1
      · have nil : L.drop (k + 1 + 1) = [] := List.drop_eq_nil_iff.mpr (by omega)
        refine ⟨h, fun J => by rw [if_pos (nI_le z (by omega))], fun s hs => ?_, fun _ _ => rfl⟩
        rw [h46 s hs, eT, nil, show pz_ft (pz_fit TX t D n sp) D (pz_ms TX t n D) [] = (fun _ => 0) from rfl, pz_win0 f0]
      · obtain ⟨g, x1, x2, x3⟩ := pz_cw9 (T := T) hw e eb h45 h46 (fun s _ => by
          have lb : (L.drop (k + 1 + 1)).length ≤ 24 := by rw [List.length_drop]; omega
          have := pz_ftB (D := D) f0 (L.drop (k + 1 + 1)) (fun x hx => pz_msB eb.1 TX t x (hL x (List.mem_of_mem_drop hx))) s
          rw [eT]; omega)
        exact ⟨g, fun J => by rw [if_neg (nI_ge (by omega) (by omega)), x1, pz_b], x2, x3⟩
    obtain ⟨g, m1, m2, m3⟩ := mid
    have eg : pz_E9 g w n D t TX ch sp ru ca := pz_E9_fr e ht (fun a q1 q2 => m3 a (by omega)) (fun a q1 q2 => m3 a (by omega))
    obtain ⟨h1, x1, x2, x3⟩ := pz_mb9 (q := w + 3) (T := pz_win (pz_fit TX t D n sp) T) (by omega) eg.2.1 eb.1 eb.2.2.1 yn m2
    have f1 : ∀ a, a ≠ 46 → h1 a = h a := fun a q => (x3 a q).trans (m3 a q)
    obtain ⟨h', z1, z2, z3⟩ := ih h1 fu (by omega) (by omega) (fun a q => (f1 a q).trans (fr a q)) (pz_E9_fr e ht (fun a q1 q2 => f1 a (by omega)) (fun a q1 q2 => f1 a (by omega))) (fun s hs => by rw [f1 45 (by omega)]; exact h45 s hs) (fun s hs => by
      rw [x2 s hs, dr, eT]; rfl)
    refine ⟨h', ?_, z2, fun a q => (z3 a q).trans (f1 a q)⟩
    rw [f_X2_foresee_L63, if_neg (show ¬ nI (k + 1) ≤ (0 : Int32) from nI_ge (a := 0) (by omega) (by omega)), pz_jn]
    refine (m1 (fun h7 => kv_k (nI (k + 1)) nq2 (kv_b (f_X2_missBefore (w + 3) (h7 q2 (nI (k + 1)).toNatClampNeg) (nI (2 ^ n)) h7) (fun _ h8 => f_X2_foresee_L63 w q2 nq2 (nI L.length) (nI (2 ^ n)) fu (nI (k + 1) + (-1)) h8 C)))).trans ?_
    rw [pz_kN (by omega) (by omega), pz_cl (by omega), m3 q2 hq, fr q2 hq, row (k + 1) y hy, x1, pz_b, show nI (k + 1) + (-1) = nI k from (Int32.sub_eq_add_neg (nI (k + 1)) 1).symm.trans (pz_sub (a := k + 1) (b := 1) (by omega))]; exact z1
theorem pz_fore9 {h : kv_H} {w q2 nq2 n x : Nat} {D : Nat → Nat → Nat} {t : Nat} {TX : Nat → pz_T} {ch : Nat → Nat} {sp ru ca : Nat} {V : List Nat} {X : Nat → Int32} {r : List Nat} (hw : 50 < w) (hl : r.length + 1 ≤ nq2) (hq2 : nq2 < 4000) (hl24 : r.length + 1 ≤ 24) (hq : q2 ≠ 46 ∧ q2 ≠ 44) (row : ∀ i u, (x :: r)[i]? = some u → h q2 i = nI u) (hL : ∀ u, u ∈ x :: r → u < n) (e : pz_E9 h w n D t TX ch sp ru ca) (eb : pz_EB n D t TX ch sp ru ca) (cc : pz_CC h (w + 12) V X) (cb : pz_CB n V X) (h45 : ∀ s, s < 2 ^ n → h 45 s = nI (pz_rmb (pz_rm TX t D) s n)) : ∃ h' j, f_X2_foresee w q2 nq2 (nI (r.length + 1)) h = some ((), h') ∧ pz_cf (pz_fit TX t D n sp) (pz_ft (pz_fit TX t D n sp) D (pz_ms TX t n D) r) (pz_bits V ||| 2 ^ x) (2 ^ n) = some j ∧ h' 44 2 = nI (pz_ft (pz_fit TX t D n sp) D (pz_ms TX t n D) r j + (if pz_rd D (pz_bits V) 8 (x + 1) then 0 else pz_ms TX t n D x)) ∧ h' 44 3 = nI j ∧ ∀ a, a ≠ 44 → a ≠ 46 → h' a = h a := by
  have hn := eb.1.1
  have ht := eb.2.1.1
  have f0 := pz_fit0 TX t D n sp
  have N256 := pz_p256 hn
  obtain ⟨g, eg⟩ : ∃ g, g = kv_up (kv_up h 44 2 0) 44 3 (-1000000005) := ⟨_, rfl⟩
  have fg : ∀ a, a ≠ 44 → g a = h a := fun a q => by rw [eg, pz_upne q, pz_upne q]
  have g3 : g 44 3 = -1000000005 := by rw [eg, pz_upeq, pz_upd, if_pos rfl]
  have zero : ∀ C : kv_H → Option (Unit × kv_H), f_X2_foresee_L37 w q2 nq2 (nI (r.length + 1)) (nI (2 ^ n)) kv_fu 0 g C = C (pz_st g 46 0 (2 ^ n) (fun _ => 0)) := by
    intro C
    refine pz_for (fun f k (g' : kv_H) => f_X2_foresee_L37 w q2 nq2 (nI (r.length + 1)) (nI (2 ^ n)) f (nI k) g' C) (fun k g' => g' = pz_st g 46 0 k (fun _ => 0)) (fun R => R = C (pz_st g 46 0 (2 ^ n) (fun _ => 0))) (2 ^ n) ?_ ?_ kv_fu 0 g (Nat.zero_le _) (by rw [show kv_fu = 5000 from rfl]; omega) (pz_st0 g 46 0 _).symm
    · intro f g' hg
      show f_X2_foresee_L37 w q2 nq2 (nI (r.length + 1)) (nI (2 ^ n)) (f + 1) (nI (2 ^ n)) g' C = _
      rw [f_X2_foresee_L37, if_pos (nI_le (Nat.le_refl _) (by omega)), hg]
    · intro f k g' hk hg
      right
      refine ⟨pz_st g 46 0 (k + 1) (fun _ => 0), rfl, ?_⟩
      show f_X2_foresee_L37 w q2 nq2 (nI (r.length + 1)) (nI (2 ^ n)) (f + 1) (nI k) g' C = _
      rw [f_X2_foresee_L37, if_neg (nI_ge hk (by omega)), pz_kN (by omega) (by omega), pz_hl, pz_cl (by omega), hg, pz_st1 g 46 0 k _ (by omega) _ rfl, nI_1]
  obtain ⟨k, ek⟩ : ∃ k, k = pz_st g 46 0 (2 ^ n) (fun _ => 0) := ⟨_, rfl⟩
  have fk : ∀ a, a ≠ 46 → k a = g a := fun a q => by rw [ek]; exact pz_stne g q
  have fkh : ∀ a, a ≠ 44 → a ≠ 46 → k a = h a := fun a q1 q2 => by rw [fk a q2, fg a q1]
  have eK : pz_E9 k w n D t TX ch sp ru ca := pz_E9_fr e ht (fun a q1 q2 => fkh a (by omega) (by omega)) (fun a q1 q2 => fkh a (by omega) (by omega))
  obtain ⟨h1, x1, x2, x3⟩ := pz_fore63 (w := w) (q2 := q2) (nq2 := nq2) (L := x :: r) (h0 := k) hw (by rw [List.length_cons]; exact hl) hq2 (by rw [List.length_cons]; exact hl24) hq.1 (fun i u hi => by rw [fkh q2 hq.2 hq.1]; exact row i u hi) hL eb (fun h10 => kv_k 0 nq2 (kv_b (f_X2_chooseFirst w (h10 q2 (0 : Int32).toNatClampNeg) (nI (2 ^ n)) h10) (fun _ h11 => some ((), h11)))) r.length k kv_fu (by rw [List.length_cons]; omega) (by rw [show kv_fu = 5000 from rfl]; omega) (fun _ _ => rfl) eK (fun s hs => by rw [fkh 45 (by omega) (by omega)]; exact h45 s hs) (fun s hs => by
    rw [List.drop_eq_nil_iff.mpr (by rw [List.length_cons]; omega), ek, pz_stin g (Nat.zero_le s) hs]; rfl)
  have f1 : ∀ a, a ≠ 44 → a ≠ 46 → h1 a = h a := fun a q1 q2 => (x3 a q2).trans (fkh a q1 q2)
  have E1 : pz_E9 h1 w n D t TX ch sp ru ca := pz_E9_fr e ht (fun a q1 q2 => f1 a (by omega) (by omega)) (fun a q1 q2 => f1 a (by omega) (by omega))
  obtain ⟨h', j, y1, y2, y3, y4, y5⟩ := pz_first9 (T := pz_ft (pz_fit TX t D n sp) D (pz_ms TX t n D) r) hw E1 eb (pz_CC_fr cc (fun a q1 q2 => f1 a (by omega) (by omega))) cb (hL x (List.mem_cons_self ..)) (fun s hs => by rw [f1 45 (by omega) (by omega)]; exact h45 s hs) x2 (fun s _ => by
    have := pz_ftB (D := D) f0 r (fun y hy => pz_msB eb.1 TX t y (hL y (List.mem_cons_of_mem _ hy))) s
    omega) (by rw [x3 44 (by omega), fk 44 (by omega)]; exact g3)
  refine ⟨h', j, ?_, y2, y3, y4, fun a q1 q2 => (y5 a q1).trans (f1 a q1 q2)⟩
  rw [f_X2_foresee, pz_hl, pz_hl, ← eg, if_neg (show ¬ nI (r.length + 1) < (1 : Int32) from nI_nlt (b := 1) (by omega) (by omega)), if_pos (nI_le hl (by omega)), fg (w + 3) (by omega), e.1.1, pz_p2n hn, pz_vl, zero, ← ek, show nI (r.length + 1) - (1 : Int32) = nI r.length from pz_sub (a := r.length + 1) (b := 1) (by omega), pz_vl]
  refine x1.trans ?_
  rw [show (0 : Int32) = nI 0 from rfl, pz_kN (by omega) (by omega), pz_cl (by omega), f1 q2 hq.2 hq.1, row 0 x rfl, y1, pz_b]

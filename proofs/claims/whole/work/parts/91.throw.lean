/-! PURE PART: throwing down -/
noncomputable def pz_Fs (D : Nat → Nat → Nat) (t : Nat) (TX : Nat → pz_T) (ru ca : Nat) (V : List Nat) (X : Nat → Int32) : Option Nat × Int32 := pz_fst (pz_may D ca V) (pz_ur TX t (pz_rm TX t D) ru X) ru V (X 2)
noncomputable def pz_thr (D : Nat → Nat → Nat) (t : Nat) (TX : Nat → pz_T) (ru ca lim : Nat) : Nat → List Nat → (Nat → Int32) → Nat × List Nat × (Nat → Int32)
  | 0, V, X => (0, V, X)
  | k + 1, V, X => if pz_rms (pz_rm TX t D) V ≤ lim then (0, V, X) else ((pz_thr D t TX ru ca lim k (V.eraseIdx ((pz_Fs D t TX ru ca V X).1.getD 0)) (pz_Xu X 2 (pz_Fs D t TX ru ca V X).2)).1 + 1, (pz_thr D t TX ru ca lim k (V.eraseIdx ((pz_Fs D t TX ru ca V X).1.getD 0)) (pz_Xu X 2 (pz_Fs D t TX ru ca V X).2)).2)
theorem pz_FsS {n : Nat} {D : Nat → Nat → Nat} {t : Nat} {TX : Nat → pz_T} {ru ca : Nat} {V : List Nat} {X : Nat → Int32} (b : pz_LB n D) (cb : pz_CB n V X) (h : V ≠ []) : ∃ j u, (pz_Fs D t TX ru ca V X).1 = some j ∧ V[j]? = some u := by
  obtain ⟨j, e1, e2⟩ := pz_fstS (p := pz_may D ca V) (f := pz_ur TX t (pz_rm TX t D) ru X) (ru := ru) (V := V) (z := X 2) (pz_mayE b cb.2.1 h)
  exact ⟨j, V[j], e1, List.getElem?_eq_getElem e2⟩
theorem pz_thrB {n : Nat} {D : Nat → Nat → Nat} {t : Nat} {TX : Nat → pz_T} {ru ca lim : Nat} (b : pz_LB n D) : ∀ (k : Nat) (V : List Nat) (X : Nat → Int32), V.length = k → pz_CB n V X → pz_CB n (pz_thr D t TX ru ca lim k V X).2.1 (pz_thr D t TX ru ca lim k V X).2.2 ∧ (∀ u, u ∈ (pz_thr D t TX ru ca lim k V X).2.1 → u ∈ V) ∧ (pz_thr D t TX ru ca lim k V X).1 ≤ k ∧ (∀ i, i ≠ 2 → (pz_thr D t TX ru ca lim k V X).2.2 i = X i) := by
  intro k
  induction k with
  | zero => intro V X _ cb; exact ⟨cb, fun _ h => h, Nat.le_refl 0, fun _ _ => rfl⟩
  | succ k ih =>
    intro V X e cb
    rw [pz_thr]
    by_cases z : pz_rms (pz_rm TX t D) V ≤ lim
    · rw [if_pos z]; exact ⟨cb, fun _ h => h, Nat.zero_le _, fun _ _ => rfl⟩
    · rw [if_neg z]
      obtain ⟨j, u, e1, e2⟩ := pz_FsS (t := t) (TX := TX) (ru := ru) (ca := ca) b cb (by intro y; rw [y] at e; simp at e)
      rw [e1, Option.getD_some]
      have jl := pz_iLt e2
      obtain ⟨a1, a2, a3, a4⟩ := ih (V.eraseIdx j) (pz_Xu X 2 (pz_Fs D t TX ru ca V X).2) (by rw [List.length_eraseIdx_of_lt jl, e]; rfl) (pz_Xu_CB (pz_CB_era cb e2) _ 0 (by omega) b.1)
      refine ⟨a1, fun u hu => ((pz_memErase cb.1 e2 u).mp (a2 u hu)).1, Nat.succ_le_succ a3, fun i hi => ?_⟩
      rw [a4 i hi, pz_XuN hi]
theorem pz_thr9 {w c n : Nat} {D : Nat → Nat → Nat} {t : Nat} {TX : Nat → pz_T} {ch : Nat → Nat} {sp ru ca lim : Nat} (C : Int32 → kv_H → Option (Int32 × kv_H)) (hw : 50 < w) (hc : (c + 3 < 49 ∨ 78 < c)) (hcw : c + 3 < w ∨ w + 11 < c) (eb : pz_EB n D t TX ch sp ru ca) (hlim : lim < 2147483648) : ∀ (k : Nat) (V : List Nat) (X : Nat → Int32) (h : kv_H) (v3 v4 fu : Nat), V.length = k → v4 + k ≤ 8 → k < fu → v3 + k < 2147483648 → pz_E9 h w n D t TX ch sp ru ca → pz_CC h c V X → pz_CB n V X → ∃ h', f_X8_throwDownTo_L5 w c (nI lim) fu (nI v3) (nI v4) h C = C (nI (v3 + (pz_thr D t TX ru ca lim k V X).1)) h' ∧ pz_CC h' c (pz_thr D t TX ru ca lim k V X).2.1 (pz_thr D t TX ru ca lim k V X).2.2 ∧ ∀ a, a ≠ 49 → a ≠ 50 → a ≠ c → a ≠ c + 1 → h' a = h a := by
  have hn := eb.1.1
  have ht := eb.2.1.1
  have rb : ∀ V : List Nat, (∀ v, v ∈ V → v < n) → pz_rms (pz_rm TX t D) V ≤ 10 * V.length := fun V hV => pz_rms_le _ 10 V (fun v hv => (pz_rmB eb.1 TX t v (hV v hv)).2)
  intro k
  induction k with
  | zero =>
    intro V X h v3 v4 fu e0 e1 e2 e3 e cc cb
    obtain ⟨fu, rfl⟩ : ∃ f, fu = f + 1 := ⟨fu - 1, by omega⟩
    have Vn : V = [] := List.eq_nil_of_length_eq_zero e0
    refine ⟨h, ?_, cc, fun _ _ _ _ _ => rfl⟩
    rw [f_X8_throwDownTo_L5]
    by_cases z : 8 ≤ v4
    · rw [if_pos (show (8 : Int32) ≤ nI v4 from nI_le (a := 8) z (by omega))]; rfl
    · rw [if_neg (show ¬ (8 : Int32) ≤ nI v4 from nI_ge (b := 8) (by omega) (by omega)), cc.2.1, pz_rooms9 e.1 e.2.1 hn (by rw [Vn]; decide), pz_b, pz_rmb_V _ cb.1 cb.2.1, Vn, pz_rms, if_pos (nI_le (Nat.zero_le _) hlim)]; rfl
  | succ k ih =>
    intro V X h v3 v4 fu e0 e1 e2 e3 e cc cb
    obtain ⟨fu, rfl⟩ : ∃ f, fu = f + 1 := ⟨fu - 1, by omega⟩
    have hV : ∀ v, v ∈ V → v < 8 := fun v hv => by have := cb.2.1 v hv; omega
    have bl := pz_bitsL V hV
    have rv := rb V cb.2.1
    rw [f_X8_throwDownTo_L5, if_neg (show ¬ (8 : Int32) ≤ nI v4 from nI_ge (b := 8) (by omega) (by omega)), cc.2.1, pz_rooms9 e.1 e.2.1 hn (by omega), pz_b, pz_rmb_V _ cb.1 cb.2.1, pz_thr]
    by_cases z : pz_rms (pz_rm TX t D) V ≤ lim
    · rw [if_pos z, if_pos (nI_le z hlim)]
      exact ⟨h, rfl, cc, fun _ _ _ _ _ => rfl⟩
    · rw [if_neg z, if_neg (nI_ge (by omega) (by omega))]
      obtain ⟨j, u, f1, f2⟩ := pz_FsS (t := t) (TX := TX) (ru := ru) (ca := ca) eb.1 cb (by intro y; rw [y] at e0; simp at e0)
      obtain ⟨h1, x1, x2, x3⟩ := pz_fst9 hw hc hcw e eb cc cb
      have jl := pz_iLt f2
      rw [show pz_fst (pz_may D ca V) (pz_ur TX t (pz_rm TX t D) ru X) ru V (X 2) = pz_Fs D t TX ru ca V X from rfl] at x1 x2
      rw [f1] at x1
      rw [f1, Option.getD_some]
      have cb1 : pz_CB n V (pz_Xu X 2 (pz_Fs D t TX ru ca V X).2) := pz_Xu_CB cb _ 0 (by omega) hn
      obtain ⟨h2, y1, y2, y3⟩ := (pz_leave9 x2 (by omega) hV cb.1 u (by have := hV u (pz_mem_of_get f2); omega)).1 j f2
      have fr : ∀ a, a ≠ 49 → a ≠ 50 → a ≠ c → a ≠ c + 1 → h2 a = h a := fun a q1 q2 q3 q4 => (y3 a q3 q4).trans (x3 a q1 q2 q3)
      obtain ⟨h', z1, z2, z3⟩ := ih (V.eraseIdx j) (pz_Xu X 2 (pz_Fs D t TX ru ca V X).2) h2 (v3 + 1) (v4 + 1) fu (by rw [List.length_eraseIdx_of_lt jl, e0]; rfl) (by omega) (by omega) (by omega) (pz_E9_fr e ht (fun a q1 q2 => fr a (by omega) (by omega) (by omega) (by omega)) (fun a q1 q2 => fr a (by omega) (by omega) (by omega) (by omega))) y2 (pz_CB_era cb1 f2)
      refine ⟨h', ?_, z2, fun a q1 q2 q3 q4 => (z3 a q1 q2 q3 q4).trans (fr a q1 q2 q3 q4)⟩
      rw [x1, pz_b, show pz_pl9 (some j) = nI j from rfl, f_X0_leafAt, if_neg (pz_ng (by omega)), x2.1, if_pos (nI_lt jl (by omega)), pz_kN (by omega) (by omega), pz_cl (by omega), x2.2.2.2.2.2.1 j u f2, pz_b, y1, pz_b, if_neg (by decide), nI_1, nI_1, z1]
      congr 2
      omega
theorem pz_thr10 {n : Nat} {D : Nat → Nat → Nat} {t : Nat} {TX : Nat → pz_T} {sp ru ca lim rr : Nat} (C : Int32 → kv_H → Option (Int32 × kv_H)) (hsp : sp ≤ 60) (hru : ru ≤ 4) (hca : ca ≤ 1) (hl : lim + rr = sp) : ∀ (k : Nat) (V : List Nat) (X : Nat → Int32) (h : kv_H) (v3 fu : Nat), V.length = k → k < fu → v3 + k < 2147483648 → pz_E10 h n D t TX sp ru ca → pz_CM (h 112) n V X → pz_CB n V X → ∃ h', f_X10_throwsFor_L2 (nI rr) fu (nI v3) h C = C (nI (v3 + (pz_thr D t TX ru ca lim k V X).1)) h' ∧ pz_CM (h' 112) n (pz_thr D t TX ru ca lim k V X).2.1 (pz_thr D t TX ru ca lim k V X).2.2 ∧ (∀ a, a ≠ 131 → a ≠ 132 → a ≠ 112 → h' a = h a) ∧ (∀ b, pz_sb b → h' 112 b = h 112 b) := by
  intro k
  induction k with
  | zero =>
    intro V X h v3 fu e0 e2 e3 e cm cb
    obtain ⟨fu, rfl⟩ : ∃ f, fu = f + 1 := ⟨fu - 1, by omega⟩
    refine ⟨h, ?_, cm, fun _ _ _ _ => rfl, fun _ _ => rfl⟩
    rw [f_X10_throwsFor_L2, cm.1, e0, if_pos (by decide)]; rfl
  | succ k ih =>
    intro V X h v3 fu e0 e2 e3 e cm cb
    obtain ⟨fu, rfl⟩ : ∃ f, fu = f + 1 := ⟨fu - 1, by omega⟩
    have hn := e.1.2.1.1
    have vl := pz_vlen cb hn
    have rv : pz_rms (pz_rm TX t D) V ≤ 10 * V.length := pz_rms_le _ 10 V (fun v hv => (pz_rmB e.1.2.1 TX t v (cb.2.1 v hv)).2)
    rw [f_X10_throwsFor_L2, cm.1, e0, if_neg (show ¬ nI (k + 1) ≤ (0 : Int32) from nI_ge (a := 0) (by omega) (by omega)), pz_full10 cm e.2.1 hn vl cb.2.1, pz_b, pz_add, e.2.2.1, pz_thr]
    by_cases z : pz_rms (pz_rm TX t D) V ≤ lim
    · rw [if_pos z, if_pos (nI_le (by omega) (by omega))]
      exact ⟨h, rfl, cm, fun _ _ _ _ => rfl, fun _ _ => rfl⟩
    · rw [if_neg z, if_neg (nI_ge (by omega) (by omega))]
      obtain ⟨j, u, f1, f2⟩ := pz_FsS (t := t) (TX := TX) (ru := ru) (ca := ca) e.1.2.1 cb (by intro y; rw [y] at e0; simp at e0)
      obtain ⟨h1, x1, x2, x3, x4⟩ := pz_fst10 e hru hca cm cb
      have jl := pz_iLt f2
      rw [show pz_fst (pz_may D ca V) (pz_ur TX t (pz_rm TX t D) ru X) ru V (X 2) = pz_Fs D t TX ru ca V X from rfl] at x1 x2
      rw [f1] at x1
      rw [f1, Option.getD_some]
      have cb1 : pz_CB n V (pz_Xu X 2 (pz_Fs D t TX ru ca V X).2) := pz_Xu_CB cb _ 0 (by omega) hn
      have cm1 : pz_CM (h1 112) n V (pz_Xu X 2 (pz_Fs D t TX ru ca V X).2) := pz_X2_CM hn vl cm x4 x2
      obtain ⟨h2, y1, y2, y3, y4⟩ := pz_leave10 cm1 hn vl jl
      have fr : ∀ a, a ≠ 131 → a ≠ 132 → a ≠ 112 → h2 a = h a := fun a q1 q2 q3 => (y3 a q3).trans (x3 a q1 q2 q3)
      have fs : ∀ b, pz_sb b → h2 112 b = h 112 b := fun b q => by unfold pz_sb at q; rw [y4 b (by omega) (by omega), x4 b (by omega)]
      obtain ⟨h', z1, z2, z3, z4⟩ := ih (V.eraseIdx j) (pz_Xu X 2 (pz_Fs D t TX ru ca V X).2) h2 (v3 + 1) fu (by rw [List.length_eraseIdx_of_lt jl, e0]; rfl) (by omega) (by omega) (pz_E10_fr e fs (fr _ (by omega) (by omega) (by omega)) (fr _ (by omega) (by omega) (by omega))) y2 (pz_CB_era cb1 f2)
      refine ⟨h', ?_, z2, fun a q1 q2 q3 => (z3 a q1 q2 q3).trans (fr a q1 q2 q3), fun b q => (z4 b q).trans (fs b q)⟩
      rw [x1, pz_b, show pz_pl10 (some j) = nI j from rfl, y1, pz_b, nI_1, z1]
      congr 2
      omega

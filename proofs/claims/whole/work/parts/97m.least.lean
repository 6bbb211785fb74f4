/-! PURE PART: least, the call -/
theorem pz_lz10 {h : kv_H} {n : Nat} {D : Nat → Nat → Nat} {t : Nat} {TX : Nat → pz_T} {sp ru ca : Nat} (e : pz_E10 h n D t TX sp ru ca) (c1 : Int32) (C : kv_H → Option (Int32 × kv_H)) : f_X10_leastOf_L2 c1 kv_fu 0 h C = C (pz_st h 128 0 (2 ^ n) (fun _ => 0)) := by
  have hn := e.1.2.1.1
  have N256 := pz_p256 hn
  refine pz_for (fun f k (g' : kv_H) => f_X10_leastOf_L2 c1 f (nI k) g' C) (fun k g' => g' = pz_st h 128 0 k (fun _ => 0)) (fun R => R = C (pz_st h 128 0 (2 ^ n) (fun _ => 0))) (2 ^ n) ?_ ?_ kv_fu 0 h (Nat.zero_le _) (by rw [show kv_fu = 5000 from rfl]; omega) (pz_st0 h 128 0 _).symm
  · intro f g' hg
    show f_X10_leastOf_L2 c1 (f + 1) (nI (2 ^ n)) g' C = _
    rw [f_X10_leastOf_L2, f_X10_sets, pz_b, hg, pz_stne h (by omega), e.1.1.1, pz_p2n hn, if_pos (nI_le (Nat.le_refl _) (by omega))]
  · intro f k g' hk hg
    right
    refine ⟨pz_st h 128 0 (k + 1) (fun _ => 0), rfl, ?_⟩
    show f_X10_leastOf_L2 c1 (f + 1) (nI k) g' C = _
    rw [f_X10_leastOf_L2, f_X10_sets, pz_b, hg, pz_stne h (by omega), e.1.1.1, pz_p2n hn, if_neg (nI_ge hk (by omega)), pz_kN (by omega) (by omega), pz_hl, pz_cl (by omega), pz_st1 h 128 0 k _ (by omega) _ rfl, nI_1]
theorem pz_least10 {h : kv_H} {n x : Nat} {D : Nat → Nat → Nat} {t : Nat} {TX : Nat → pz_T} {sp ru ca : Nat} {V : List Nat} {X : Nat → Int32} {r : List Nat} (e : pz_E10 h n D t TX sp ru ca) (hsp : sp ≤ 60) (hl24 : r.length + 1 ≤ 24) (row : ∀ i u, (x :: r)[i]? = some u → h 127 i = nI u) (hL : ∀ u, u ∈ x :: r → u < n) (cm : pz_CM (h 112) n V X) (cb : pz_CB n V X) (h125 : ∀ s, s < 2 ^ n → h 125 s = nI (pz_rmb (pz_rm TX t D) s n)) : ∃ h' j, f_X10_leastOf (nI (r.length + 1)) h = some (nI (pz_ft (pz_fit TX t D n sp) D (pz_ms TX t n D) r j + (if pz_rd D (pz_bits V) 8 (x + 1) then 0 else pz_ms TX t n D x)), h') ∧ pz_cf (pz_fit TX t D n sp) (pz_ft (pz_fit TX t D n sp) D (pz_ms TX t n D) r) (pz_bits V ||| 2 ^ x) (2 ^ n) = some j ∧ h' 111 19 = nI j ∧ (∀ a, a ≠ 128 → a ≠ 129 → a ≠ 111 → h' a = h a) ∧ ∀ b, b ≠ 19 → h' 111 b = h 111 b := by
  have lb := e.1.2.1
  have hn := lb.1
  have f0 := pz_fit0 TX t D n sp
  have N256 := pz_p256 hn
  have vl := pz_vlen cb hn
  have hV : ∀ v, v ∈ V → v < 8 := fun v hv => by have := cb.2.1 v hv; omega
  have bl := pz_bitsL V hV
  have xn := hL x (List.mem_cons_self ..)
  have el : pz_bits V ||| 2 ^ x < 256 := Nat.or_lt_two_pow (n := 8) bl (pz_p2 (by omega))
  obtain ⟨k, ek⟩ : ∃ k, k = kv_up (pz_st h 128 0 (2 ^ n) (fun _ => 0)) 111 19 (-1) := ⟨_, rfl⟩
  have fk : ∀ a, a ≠ 128 → a ≠ 111 → k a = h a := fun a q1 q2 => by rw [ek, pz_upne q2, pz_stne h q1]
  have k19 : k 111 19 = -1 := by rw [ek, pz_upeq, pz_upd, if_pos rfl]
  have fk111 : ∀ b, b ≠ 19 → k 111 b = h 111 b := fun b q => by rw [ek, pz_upeq, pz_upd, if_neg q, pz_stne h (by omega)]
  have eK : pz_E10 k n D t TX sp ru ca := pz_E10_fr e (fun b _ => by rw [fk 112 (by omega) (by omega)]) (fk _ (by omega) (by omega)) (fk _ (by omega) (by omega))
  obtain ⟨h1, x1, x2, x3⟩ := pz_l32 (L := x :: r) (h0 := k) hsp (by rw [List.length_cons]; exact hl24) (fun i u hi => by rw [fk 127 (by omega) (by omega)]; exact row i u hi) hL (nI (r.length + 1)) (fun h16 =>
    if nI (r.length + 1) = 0 then (some ((0 : Int32), h16))
      else (kv_b (f_X10_vaultBits h16) (fun r18 h17 =>
        kv_vl (r18 ||| (1 <<< ((h17 127 0) &&& 31))) (fun e19 =>
        f_X10_leastOf_L135 r18 e19 kv_fu 0 h17 (fun  h29 =>
        kv_k (h29 111 19) 256 (kv_b (f_X10_isRead r18 (h29 127 0) h29) (fun r31 h30 =>
          if r31 = 0 then (kv_k (h30 127 0) 8 (some (((h29 128 (h29 111 19).toNatClampNeg) + (h30 124 (h30 127 0).toNatClampNeg)), h30)))
          else (some (((h29 128 (h29 111 19).toNatClampNeg) + 0), h30)))))))))
    r.length k kv_fu (by rw [List.length_cons]; omega) (by rw [show kv_fu = 5000 from rfl]; omega) (fun _ _ _ => rfl) eK (fun s hs => by rw [fk 125 (by omega) (by omega)]; exact h125 s hs) (fun s hs => by
    rw [List.drop_eq_nil_iff.mpr (by rw [List.length_cons]; omega), ek, pz_upne (by omega), pz_stin h (Nat.zero_le s) hs]; rfl)
  have f1 : ∀ a, a ≠ 128 → a ≠ 129 → a ≠ 111 → h1 a = h a := fun a q1 q2 q3 => (x3 a q1 q2).trans (fk a q1 q3)
  have E1 : pz_E10 h1 n D t TX sp ru ca := pz_E10_fr e (fun b _ => by rw [f1 112 (by omega) (by omega) (by omega)]) (f1 _ (by omega) (by omega) (by omega)) (f1 _ (by omega) (by omega) (by omega))
  have Tl : ∀ s, pz_ft (pz_fit TX t D n sp) D (pz_ms TX t n D) r s < 536870912 := fun s => by
    have := pz_ftB (D := D) f0 r (fun y hy => pz_msB lb TX t y (hL y (List.mem_cons_of_mem _ hy))) s
    omega
  have row0 : h1 127 0 = nI x := by rw [f1 127 (by omega) (by omega) (by omega)]; exact row 0 x rfl
  obtain ⟨h', j, y1, y2, y3, y4, y5⟩ := pz_l135 (h := h1) (E := pz_bits V ||| 2 ^ x) (T := pz_ft (pz_fit TX t D n sp) D (pz_ms TX t n D) r) E1 hsp el (fun s hs => by rw [f1 125 (by omega) (by omega) (by omega)]; exact h125 s hs) x2 Tl (by rw [x3 111 (by omega) (by omega)]; exact k19) (nI (pz_bits V)) (fun h29 =>
        kv_k (h29 111 19) 256 (kv_b (f_X10_isRead (nI (pz_bits V)) (h29 127 0) h29) (fun r31 h30 =>
          if r31 = 0 then (kv_k (h30 127 0) 8 (some (((h29 128 (h29 111 19).toNatClampNeg) + (h30 124 (h30 127 0).toNatClampNeg)), h30)))
          else (some (((h29 128 (h29 111 19).toNatClampNeg) + 0), h30)))))
  have jl := pz_cfL _ _ _ _ j y2
  refine ⟨h', j, ?_, y2, y3, fun a q1 q2 q3 => (y4 a q3).trans (f1 a q1 q2 q3), fun b q => ?_⟩
  · rw [f_X10_leastOf, pz_lz10 e, pz_hl, ← ek, show nI (r.length + 1) - (1 : Int32) = nI r.length from pz_sub (a := r.length + 1) (b := 1) (by omega), pz_vl]
    refine x1.trans ?_
    rw [if_neg (show ¬ nI (r.length + 1) = (0 : Int32) from fun y => absurd ((nI_eq (b := 0) (by omega) (by omega)).mp y) (by omega)), pz_vb10 (n := n) (V := V) (X := X) (by rw [f1 112 (by omega) (by omega) (by omega)]; exact cm) vl hV, pz_b, row0, pz_bit x (by omega), pz_or, pz_vl]
    refine y1.trans ?_
    rw [y3, pz_kN (by omega) (by omega), y4 127 (by omega), row0, pz_read10 (by rw [y4 112 (by omega)]; exact E1.1) bl xn, pz_b, y4 127 (by omega), row0, pz_cl (by omega), y4 128 (by omega), x2 j jl]
    by_cases z : pz_rd D (pz_bits V) 8 (x + 1) = true
    · rw [if_pos z, if_neg (by decide), if_pos z, show (0 : Int32) = nI 0 from rfl, pz_add]; rfl
    · rw [if_neg z, if_pos rfl, if_neg z, pz_kN (by omega) (by omega), pz_cl (by omega), y4 124 (by omega), (E1.2.1 x xn).2, pz_add]; rfl
  · rw [y5 b q, x3 111 (by omega) (by omega), fk111 b q]
theorem pz_scr2 {h : kv_H} {F F2 : kv_H → Option (Int32 × kv_H)} (r : Int32) (h1 h2 : kv_H) (e1 : F h = some (r, h1)) (e2 : F2 h1 = some (r, h2)) (f1 : ∀ a, ¬ pz_sc a → h1 a = h a) (f2 : ∀ a, ¬ pz_sc a → a ≠ 111 → h2 a = h1 a) (f3 : ∀ b, b ≠ 19 → h2 111 b = h1 111 b) : pz_op [] (fun _ => True) F F2 h := by
  refine ⟨r, h1, h2, e1, e2, trivial, fun a b q1 q2 => ?_⟩
  by_cases z : pz_sc a
  · exact absurd (pz_scR z) q2
  · by_cases y : a = 111
    · subst y
      have hb : b ≠ 19 := fun x => q2 (by rw [x]; rfl)
      rw [f3 b hb, f1 111 z]
    · rw [f2 a z y, f1 a z]
theorem pz_least (x : Int32) (h : kv_H) (c5 : pz_c5 h) : pz_op [] (fun _ => True) (f_X9_least x) (f_X10_least x) h := by
  obtain ⟨n, D, t, TX, ch, V, X, sp, ru, ca, R, g1, ⟨cc, cm, cb⟩, g3, g4⟩ := c5
  have hn := g1.2.1.2.1.1
  have ht := g1.2.1.2.2.2.1.1
  obtain ⟨e9, eb⟩ := pz_toE9 g1 g3
  have hsp := eb.2.2.2.1
  have p8 := pz_p256 hn
  have rl := g4.2.2.1
  have hL : ∀ u, u ∈ R → u < n := fun u hu => by
    obtain ⟨i, hi⟩ := pz_get_of_mem hu
    exact (g4.2.2.2 i u hi).2.2
  rcases pz_rng x 0 1 (by omega) with q | ⟨y, s1, s2, rfl⟩
  · refine pz_scr (-1000000001) h h ?_ ?_ (fun _ _ => rfl) (fun _ _ => rfl)
    · rw [f_X9_least]; exact pz_rng9 q _ _
    · rw [f_X10_least, pz_in_0_1, if_pos (show x < 0 ∨ 1 < x from q)]; rfl
  obtain ⟨k, y1, y2, y3⟩ := pz_fill9 (h := h) (q := 82) (by exact e9.1) (by exact e9.2.1) hn (by omega)
  have ek : pz_E9 k 79 n D t TX ch sp ru ca := pz_E9_fr e9 ht (fun a q1 q2 => y3 a (by omega)) (fun a q1 q2 => y3 a (by omega))
  have A9 : f_X9_least (nI y) h = kv_b (f_X2_foresee 79 80 24 (nI R.length) k) (fun _ h2 => if nI y = 0 then (some ((h2 44 2), h2)) else (some ((h2 44 3), h2))) := by
    rw [f_X9_least]
    refine (pz_rng9G (a := 0) (b := 1) s1 s2 (by omega) _ _).trans ?_
    rw [y1, pz_b, y3 79 (by omega), g4.1]
  -- the reference behind any heap that differs in what is passing
  have B10 : ∀ h1 : kv_H, (∀ a, ¬ pz_sc a → h1 a = h a) → ∃ hb, (∀ a, ¬ pz_sc a → hb a = h1 a) ∧ pz_E10 hb n D t TX sp ru ca ∧ pz_CM (hb 112) n V X ∧ (∀ s, s < 2 ^ n → hb 125 s = nI (pz_rmb (pz_rm TX t D) s n)) ∧ (∀ i u, R[i]? = some u → hb 127 i = nI u) ∧ f_X10_least (nI y) h1 = kv_b (f_X10_leastOf (nI R.length) hb) (fun r7 h6 => if nI y = 0 then (some (r7, h6)) else (kv_b (f_X10_orNone (h6 111 19) h6) (fun r9 h8 => some (r9, h8)))) := by
    intro h1 f1
    have s112 : h1 112 = h 112 := f1 112 (by unfold pz_sc; omega)
    obtain ⟨ha, x1, x2, x3, x4, x5⟩ := pz_kr10 (h := h1) (sp := sp) (ru := ru) (ca := ca) (by rw [s112]; exact g1.2.1) (by rw [s112]; exact g3.2.2.2.1) (by rw [s112]; exact g3.2.2.2.2.1) (by rw [s112]; exact g3.2.2.2.2.2.1)
    obtain ⟨hb, b1, b2, b3⟩ := pz_tries10 (h := ha) (R := R) rl (by rw [x3, s112]; exact g4.2.1) (fun i u hi => by rw [x3, s112]; exact (g4.2.2.2 i u hi).2.1)
    refine ⟨hb, fun a q => ?_, pz_E10_fr x2 (fun b _ => by rw [b3 112 (by omega)]) (b3 _ (by omega)) (b3 _ (by omega)), by rw [b3 112 (by omega), x3, s112]; exact cm, fun s hs => by rw [b3 125 (by omega)]; exact x4 s hs, b2, ?_⟩
    · have q' := q
      unfold pz_sc at q
      rw [b3 a (by omega), x5 a q']
    · rw [f_X10_least, pz_in_0_1G (by omega), pz_b, if_neg (by decide), x1, pz_b, b1, pz_b]
  cases eR : R with
  | nil =>
    rw [eR] at A9
    obtain ⟨h1, eh1⟩ : ∃ h1, h1 = kv_up (kv_up k 44 2 0) 44 3 (-1000000005) := ⟨_, rfl⟩
    have f1 : ∀ a, ¬ pz_sc a → h1 a = h a := fun a q => by unfold pz_sc at q; rw [eh1, pz_upne (by omega), pz_upne (by omega), y3 a (by omega)]
    obtain ⟨hb, b1, b2, b3, b4, b5, b6⟩ := B10 h1 f1
    rw [eR] at b6
    obtain ⟨h2, eh2⟩ : ∃ h2, h2 = kv_up (pz_st hb 128 0 (2 ^ n) (fun _ => 0)) 111 19 (-1) := ⟨_, rfl⟩
    have l10 : f_X10_leastOf (nI 0) hb = some (0, h2) := by
      rw [f_X10_leastOf, pz_lz10 b2, pz_hl, ← eh2, pz_vl, show kv_fu = 4999 + 1 from rfl, f_X10_leastOf_L32, if_pos (by decide), if_pos (show nI 0 = (0 : Int32) from rfl)]
    have fo : f_X2_foresee 79 80 24 (nI 0) k = some ((), h1) := by
      rw [f_X2_foresee, pz_hl, pz_hl, ← eh1, if_pos (by decide)]
    have h119 : h2 111 19 = -1 := by rw [eh2, pz_upeq, pz_upd, if_pos rfl]
    have fr2 : ∀ a, ¬ pz_sc a → a ≠ 111 → h2 a = h1 a := fun a q1 q2 => by
      have q' := q1
      unfold pz_sc at q1
      rw [eh2, pz_upne q2, pz_stne hb (by omega), b1 a q']
    have fr3 : ∀ b, b ≠ 19 → h2 111 b = h1 111 b := fun b q => by
      rw [eh2, pz_upeq, pz_upd, if_neg q, pz_stne hb (by omega), b1 111 (by unfold pz_sc; omega)]
    by_cases z : nI y = (0 : Int32)
    · refine pz_scr2 0 h1 h2 ?_ ?_ f1 fr2 fr3
      · rw [A9]; show kv_b (f_X2_foresee 79 80 24 (nI 0) k) _ = _; rw [fo, pz_b, if_pos z, eh1, pz_upeq, pz_upd, if_neg (by omega), pz_upeq, pz_upd, if_pos rfl]
      · rw [b6]; show kv_b (f_X10_leastOf (nI 0) hb) _ = _; rw [l10, pz_b, if_pos z]
    · refine pz_scr2 (-1000000005) h1 h2 ?_ ?_ f1 fr2 fr3
      · rw [A9]; show kv_b (f_X2_foresee 79 80 24 (nI 0) k) _ = _; rw [fo, pz_b, if_neg z, eh1, pz_upeq, pz_upd, if_pos rfl]
      · rw [b6]; show kv_b (f_X10_leastOf (nI 0) hb) _ = _; rw [l10, pz_b, if_neg z, pz_orNoneU, pz_b, h119, if_neg (by decide)]
  | cons a r =>
    rw [eR] at A9 B10 rl hL
    rw [List.length_cons] at rl
    obtain ⟨h1, j, x1, x2, x3, x4, x5⟩ := pz_fore9 (h := k) (w := 79) (q2 := 80) (nq2 := 24) (x := a) (r := r) (V := V) (X := X) (by omega) (by omega) (by omega) (by omega) (by omega) (fun i u hi => by rw [y3 80 (by omega)]; exact (g4.2.2.2 i u (by rw [eR]; exact hi)).1) hL ek eb (pz_CC_fr cc (fun a q1 q2 => y3 a (by omega))) cb y2
    have f1 : ∀ a, ¬ pz_sc a → h1 a = h a := fun a q => by unfold pz_sc at q; rw [x5 a (by omega) (by omega), y3 a (by omega)]
    obtain ⟨hb, b1, b2, b3, b4, b5, b6⟩ := B10 h1 f1
    obtain ⟨h2, j', z1, z2, z3, z4, z5⟩ := pz_least10 (h := hb) (x := a) (r := r) b2 hsp (by omega) b5 hL b3 cb b4
    obtain rfl : j' = j := by rw [x2] at z2; exact (Option.some.inj z2).symm
    have jl := pz_cfL _ _ _ _ _ x2
    have fr2 : ∀ a, ¬ pz_sc a → a ≠ 111 → h2 a = h1 a := fun a q1 q2 => by
      have q' := q1
      unfold pz_sc at q1
      rw [z4 a (by omega) (by omega) q2, b1 a q']
    have fr3 : ∀ b, b ≠ 19 → h2 111 b = h1 111 b := fun b q => by
      rw [z5 b q, b1 111 (by unfold pz_sc; omega)]
    rw [List.length_cons] at A9 b6
    by_cases z : nI y = (0 : Int32)
    · refine pz_scr2 (nI (pz_ft (pz_fit TX t D n sp) D (pz_ms TX t n D) r j' + (if pz_rd D (pz_bits V) 8 (a + 1) then 0 else pz_ms TX t n D a))) h1 h2 ?_ ?_ f1 fr2 fr3
      · rw [A9, x1, pz_b, if_pos z, x3]
      · rw [b6, z1, pz_b, if_pos z]
    · refine pz_scr2 (nI j') h1 h2 ?_ ?_ f1 fr2 fr3
      · rw [A9, x1, pz_b, if_neg z, x4]
      · rw [b6, z1, pz_b, if_neg z, pz_orNoneU, pz_b, z3, if_pos (pz_g0 (by omega))]

/-! PURE PART: hold, best, price -/
theorem pz_scr {h : kv_H} {F F2 : kv_H → Option (Int32 × kv_H)} (r : Int32) (h1 h2 : kv_H) (e1 : F h = some (r, h1)) (e2 : F2 h1 = some (r, h2)) (f1 : ∀ a, ¬ pz_sc a → h1 a = h a) (f2 : ∀ a, ¬ pz_sc a → h2 a = h1 a) : pz_op [] (fun _ => True) F F2 h := by
  refine ⟨r, h1, h2, e1, e2, trivial, fun a b q1 q2 => ?_⟩
  by_cases z : pz_sc a
  · exact absurd (pz_scR z) q2
  · rw [f2 a z, f1 a z]
theorem pz_hold (x : Int32) (h : kv_H) (c5 : pz_c5 h) : pz_op [] (fun _ => True) (f_X9_hold x) (f_X10_hold x) h := by
  obtain ⟨n, D, t, TX, ch, V, X, sp, ru, ca, R, g1, ⟨cc, cm, cb⟩, g3, g4⟩ := c5
  have hn := g1.2.1.2.1.1
  obtain ⟨e9, eb⟩ := pz_toE9 g1 g3
  have hsp := eb.2.2.2.1
  have p8 := pz_p256 hn
  have l9 : h 82 8 = nI n := g1.1.1
  have l10 : h 112 0 = nI n := g1.2.1.1.1
  rcases pz_cases x (2 ^ n) (by omega) with q | ⟨m, hm, rfl⟩
  · refine pz_scr (-1000000001) h h ?_ ?_ (fun _ _ => rfl) (fun _ _ => rfl)
    · rw [f_X9_hold, l9, pz_p2n hn]
      by_cases y : x < 0
      · rw [if_pos y]
      · rw [if_neg y, if_neg]
        rcases q with z | z
        · exact absurd z y
        · exact Int32.not_lt.mpr z
    · rw [f_X10_hold, f_X10_sets, l10, pz_p2n hn, pz_b]
      by_cases y : x < 0
      · rw [if_pos y]
      · rw [if_neg y, if_neg]
        rcases q with z | z
        · exact absurd z y
        · exact Int32.not_lt.mpr z
  obtain ⟨h2, x1, x2, x3, x4, x5⟩ := pz_kr10 (h := h) (sp := sp) (ru := ru) (ca := ca) g1.2.1 g3.2.2.2.1 g3.2.2.2.2.1 g3.2.2.2.2.2.1
  have rb := pz_rmbB eb.1 TX t m n (Nat.le_refl n)
  have A9 : f_X9_hold (nI m) h = (if nI (pz_rmb (pz_rm TX t D) m n) ≤ nI sp then some (nI (pz_hv D (pz_ms TX t n D) m n), h) else some (-1000000002, h)) := by
    rw [f_X9_hold, l9, pz_p2n hn, if_neg (pz_ng (by omega)), if_pos (nI_lt hm (by omega)), pz_rooms9 (q := 82) e9.1 e9.2.1 hn (by omega), pz_b, e9.2.2.2.2.1, pz_held9 (q := 82) e9.1 e9.2.1 eb.1 eb.2.2.1 (by omega), pz_b]
  have A10 : f_X10_hold (nI m) h = (if nI (pz_rmb (pz_rm TX t D) m n) ≤ nI sp then some (nI (pz_hv D (pz_ms TX t n D) m n), h2) else some (-1000000002, h2)) := by
    rw [f_X10_hold, if_neg (pz_ng (by omega)), f_X10_sets, l10, pz_p2n hn, pz_b, if_pos (nI_lt hm (by omega)), x1, pz_b, pz_kN (by omega) (by omega), pz_cl (by omega), x4 m hm, x2.2.2.1, pz_held10 x2.1 x2.2.1 (by omega), pz_b]
  by_cases z : nI (pz_rmb (pz_rm TX t D) m n) ≤ nI sp
  · exact pz_scr _ h h2 (by rw [A9, if_pos z]) (by rw [A10, if_pos z]) (fun _ _ => rfl) x5
  · exact pz_scr _ h h2 (by rw [A9, if_neg z]) (by rw [A10, if_neg z]) (fun _ _ => rfl) x5
theorem pz_best (x : Int32) (h : kv_H) (c5 : pz_c5 h) : pz_op [] (fun _ => True) (f_X9_best x) (f_X10_best x) h := by
  obtain ⟨n, D, t, TX, ch, V, X, sp, ru, ca, R, g1, ⟨cc, cm, cb⟩, g3, g4⟩ := c5
  have hn := g1.2.1.2.1.1
  have ht := g1.2.1.2.2.2.1.1
  obtain ⟨e9, eb⟩ := pz_toE9 g1 g3
  have hsp := eb.2.2.2.1
  have p8 := pz_p256 hn
  rcases pz_rng x 0 1 (by omega) with q | ⟨y, s1, s2, rfl⟩
  · refine pz_scr (-1000000001) h h ?_ ?_ (fun _ _ => rfl) (fun _ _ => rfl)
    · rw [f_X9_best]; exact pz_rng9 q _ _
    · rw [f_X10_best, pz_in_0_1, if_pos (show x < 0 ∨ 1 < x from q)]; rfl
  obtain ⟨h1, y1, y2, y3⟩ := pz_fill9 (h := h) (q := 82) (by exact e9.1) (by exact e9.2.1) hn (by omega)
  have s112 : h1 112 = h 112 := y3 112 (by omega)
  have e1 : pz_E9 h1 79 n D t TX ch sp ru ca := pz_E9_fr e9 ht (fun a q1 q2 => y3 a (by omega)) (fun a q1 q2 => y3 a (by omega))
  obtain ⟨h2, x1, x2, x3, x4, x5⟩ := pz_kr10 (h := h1) (sp := sp) (ru := ru) (ca := ca) (by rw [s112]; exact g1.2.1) (by rw [s112]; exact g3.2.2.2.1) (by rw [s112]; exact g3.2.2.2.2.1) (by rw [s112]; exact g3.2.2.2.2.2.1)
  have bl := pz_bsL D (pz_rm TX t D) (pz_ms TX t n D) n sp 0 (2 ^ n)
  have blt : pz_bs D (pz_rm TX t D) (pz_ms TX t n D) n sp 0 (2 ^ n) < 256 := by
    obtain ⟨k, ek⟩ : ∃ k, 2 ^ n = k + 1 := ⟨2 ^ n - 1, by have := Nat.two_pow_pos n; omega⟩
    have := pz_bsL D (pz_rm TX t D) (pz_ms TX t n D) n sp 0 k
    rw [ek, pz_bs]; split <;> omega
  have A9 : f_X9_best (nI y) h = (if nI y = 0 then some (nI (pz_hv D (pz_ms TX t n D) (pz_bs D (pz_rm TX t D) (pz_ms TX t n D) n sp 0 (2 ^ n)) n), h1) else some (nI (pz_bs D (pz_rm TX t D) (pz_ms TX t n D) n sp 0 (2 ^ n)), h1)) := by
    rw [f_X9_best]
    refine (pz_rng9G (a := 0) (b := 1) s1 s2 (by omega) _ _).trans ?_
    rw [y1, pz_b, show (0 : Int32) = nI 0 from rfl, pz_bw9 e1 eb y2 (by omega), pz_b, pz_held9 (q := 82) e1.1 e1.2.1 eb.1 eb.2.2.1 blt, pz_b]
  have A10 : f_X10_best (nI y) h1 = (if nI y = 0 then some (nI (pz_hv D (pz_ms TX t n D) (pz_bs D (pz_rm TX t D) (pz_ms TX t n D) n sp 0 (2 ^ n)) n), h2) else some (nI (pz_bs D (pz_rm TX t D) (pz_ms TX t n D) n sp 0 (2 ^ n)), h2)) := by
    rw [f_X10_best, pz_in_0_1G (by omega), pz_b, if_neg (by decide), x1, pz_b, show (0 : Int32) = nI 0 from rfl, pz_bw10 x2 hsp x4 (by omega), pz_b, pz_held10 x2.1 x2.2.1 blt, pz_b]
  have f1 : ∀ a, ¬ pz_sc a → h1 a = h a := fun a q => by unfold pz_sc at q; exact y3 a (by omega)
  by_cases z : nI y = (0 : Int32)
  · exact pz_scr _ h1 h2 (by rw [A9, if_pos z]) (by rw [A10, if_pos z]) f1 x5
  · exact pz_scr _ h1 h2 (by rw [A9, if_neg z]) (by rw [A10, if_neg z]) f1 x5
theorem pz_price (x : Int32) (h : kv_H) (c5 : pz_c5 h) : pz_op [] (fun _ => True) (f_X9_price x) (f_X10_price x) h := by
  obtain ⟨n, D, t, TX, ch, V, X, sp, ru, ca, R, g1, ⟨cc, cm, cb⟩, g3, g4⟩ := c5
  have hn := g1.2.1.2.1.1
  have ht := g1.2.1.2.2.2.1.1
  obtain ⟨e9, eb⟩ := pz_toE9 g1 g3
  have hsp := eb.2.2.2.1
  have p8 := pz_p256 hn
  have l9 : h 82 8 = nI n := g1.1.1
  have l10 : h 112 0 = nI n := g1.2.1.1.1
  rcases pz_cases x n (by omega) with q | ⟨u, hu, rfl⟩
  · exact pz_op_same (-1000000001) trivial (by rw [f_X9_price, pz_leaf9B l9 (by omega) q]; rfl) (by rw [f_X10_price, pz_leaf10B l10 (by omega) q]; rfl)
  obtain ⟨h1, y1, y2, y3⟩ := pz_fill9 (h := h) (q := 82) (by exact e9.1) (by exact e9.2.1) hn (by omega)
  have s112 : h1 112 = h 112 := y3 112 (by omega)
  have e1 : pz_E9 h1 79 n D t TX ch sp ru ca := pz_E9_fr e9 ht (fun a q1 q2 => y3 a (by omega)) (fun a q1 q2 => y3 a (by omega))
  obtain ⟨h2, x1, x2, x3, x4, x5⟩ := pz_kr10 (h := h1) (sp := sp) (ru := ru) (ca := ca) (by rw [s112]; exact g1.2.1) (by rw [s112]; exact g3.2.2.2.1) (by rw [s112]; exact g3.2.2.2.2.1) (by rw [s112]; exact g3.2.2.2.2.2.1)
  have blt : ∀ c, pz_bs D (pz_rm TX t D) (pz_ms TX t n D) n sp c (2 ^ n) < 256 := by
    intro c
    obtain ⟨k, ek⟩ : ∃ k, 2 ^ n = k + 1 := ⟨2 ^ n - 1, by have := Nat.two_pow_pos n; omega⟩
    have := pz_bsL D (pz_rm TX t D) (pz_ms TX t n D) n sp c k
    rw [ek, pz_bs]; split <;> omega
  have f1 : ∀ a, ¬ pz_sc a → h1 a = h a := fun a q => by unfold pz_sc at q; exact y3 a (by omega)
  refine pz_scr (nI (pz_hv D (pz_ms TX t n D) (pz_bs D (pz_rm TX t D) (pz_ms TX t n D) n sp 0 (2 ^ n)) n) - nI (pz_hv D (pz_ms TX t n D) (pz_bs D (pz_rm TX t D) (pz_ms TX t n D) n sp (2 ^ u) (2 ^ n)) n)) h1 h2 ?_ ?_ f1 x5
  · rw [f_X9_price, pz_leaf9G l9 (by omega) hu, pz_b, if_neg (by decide), y1, pz_b, show f_X2_bestWithout 79 0 h1 = _ from pz_bw9 (c := 0) e1 eb y2 (by omega), pz_b, pz_held9 (q := 82) e1.1 e1.2.1 eb.1 eb.2.2.1 (blt 0), pz_b, pz_bit u (by omega), pz_bw9 e1 eb y2 (pz_p2 (by omega)), pz_b, pz_held9 (q := 82) e1.1 e1.2.1 eb.1 eb.2.2.1 (blt _), pz_b]
  · rw [f_X10_price, pz_leaf10G (by rw [s112]; exact l10) (by omega) hu, pz_b, if_neg (by decide), x1, pz_b, show f_X10_bestWithout 0 h2 = _ from pz_bw10 (c := 0) x2 hsp x4 (by omega), pz_b, pz_held10 x2.1 x2.2.1 (blt 0), pz_b, pz_bit u (by omega), pz_bw10 x2 hsp x4 (pz_p2 (by omega)), pz_b, pz_held10 x2.1 x2.2.1 (blt _), pz_b]

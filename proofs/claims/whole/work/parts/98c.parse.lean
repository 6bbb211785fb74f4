/-! PURE PART: the reference parses: a part; all of it -/
theorem pz_cnt10 {h : kv_H} {len key base p q : Nat} {B : Nat → Nat} {σ : pz_σ} (o : pz_O10 h B len key base p q σ) (b : Nat) (v : Nat) (hb : b = 27 ∨ b = 28 ∨ b = 31) : pz_O10 (kv_up h 111 b (nI v)) B len key base (if b = 27 then v else p) (if b = 28 then v else q) (σ.1, σ.2.1, if b = 31 then v else σ.2.2) ∧ pz_f10 base h (kv_up h 111 b (nI v)) := by
  obtain ⟨o1, o2, o3, o4, o5, o6⟩ := o
  have f : ∀ c, c ≠ b → kv_up h 111 b (nI v) 111 c = h 111 c := fun c q => by rw [pz_upeq, pz_upd, if_neg q]
  have fa : ∀ a, a ≠ 111 → kv_up h 111 b (nI v) a = h a := fun a q => pz_upne q
  have at' : kv_up h 111 b (nI v) 111 b = nI v := by rw [pz_upeq, pz_upd, if_pos rfl]
  refine ⟨⟨⟨by rw [f 21 (by omega)]; exact o1.1, fun k hk => by rw [fa 130 (by omega)]; exact o1.2 k hk⟩, ⟨by rw [f 22 (by omega)]; exact o2.1, by rw [f 23 (by omega)]; exact o2.2.1, by rw [f 24 (by omega)]; exact o2.2.2.1, fun w => by rw [f 26 (by omega)]; exact o2.2.2.2.1 w, fun w => by rw [f 26 (by omega)]; exact o2.2.2.2.2.1 w, fun w => by rw [f 25 (by omega)]; exact o2.2.2.2.2.2 w⟩, ⟨by rw [f 29 (by omega)]; exact o3.1, by rw [f 30 (by omega)]; exact o3.2.1, fun i st hi => by rw [fa 112 (by omega)]; exact o3.2.2 i st hi⟩, ?_, ?_, ?_⟩, fun a q1 q2 => fa a q1, fun c q => f c (by omega), fun c _ => by rw [fa 112 (by omega)]⟩
  · by_cases z : b = 31
    · rw [if_pos z]; rw [z] at at'; rw [z]; exact at'
    · rw [if_neg z, f 31 (by omega)]; exact o4
  · by_cases z : b = 27
    · rw [if_pos z]; rw [z] at at'; rw [z]; exact at'
    · rw [if_neg z, f 27 (by omega)]; exact o5
  · by_cases z : b = 28
    · rw [if_pos z]; rw [z] at at'; rw [z]; exact at'
    · rw [if_neg z, f 28 (by omega)]; exact o6
theorem pz_give10 {h : kv_H} {len key base p q : Nat} {B : Nat → Nat} {σ : pz_σ} {st : Nat × Nat} {x1 x2 : Int32} (hb : base ≤ 2898) (hl : len ≤ 96) (hB : ∀ k, k < len → B k < 256) (o : pz_O10 h B len key base p q σ) (t : pz_tv B len σ.1) (n0 : σ.1.1 ≠ 0) (good : σ.1.1 = 2 → σ.1.2.2 - σ.1.2.1 ≤ 4) (hS : σ.2.1.length < 96) (h1 : x1 = nI st.1) (h2 : x2 = nI (pz_mv key st)) : pz_R10 B len key base p q (kv_b (f_X10_step x1 x2 h) (fun _ h26 => kv_hl (kv_up h26 111 31 ((h26 111 31) + 1)) (fun h27 => kv_b (f_X10_nextToken h27) (fun _ h28 => some (1, h28))))) (true, pz_gi B len st σ) h := by
  obtain ⟨g1, y1, y2, y3⟩ := pz_stepO10 hb o hS h1 h2
  obtain ⟨o2, f2⟩ := pz_cnt10 y2 31 (σ.2.2 + 1) (by omega)
  rw [if_neg (by omega), if_neg (by omega), if_pos rfl] at o2
  obtain ⟨h', x1, x2, x3⟩ := pz_advO10 (σ := (σ.1, σ.2.1 ++ [st], σ.2.2 + 1)) hl hB o2 t n0 good
  refine ⟨h', ?_, fun _ => x2, fun w => (by cases w), pz_f10t y3 (pz_f10t f2 x3)⟩
  rw [y1, pz_b, show g1 111 31 = nI σ.2.2 from y2.2.2.2.1, nI_1, pz_hl, x1, pz_b]; rfl
theorem pz_isName10 {key c : Nat} (hk : key ≤ 2) (hc : c < 256) (h : kv_H) : f_X10_isName (nI key) (nI c) h = some (if pz_ixn (pz_NT key) c 0 = none then 0 else 1, h) := by
  have e : ∀ t : Nat, t < 256 → ((nI c = nI t) ↔ t = c) := fun t ht => by rw [nI_eq (by omega) (by omega)]; exact eq_comm
  rcases (show key = 0 ∨ key = 1 ∨ key = 2 by omega) with rfl | rfl | rfl
  · rw [f_X10_isName, kv_sw, if_pos (show nI 0 = (0 : Int32) from rfl), show pz_NT 0 = [115, 110] from rfl, pz_ixn, pz_ixn, pz_ixn]
    by_cases z1 : 115 = c
    · rw [if_pos (show nI c = (115 : Int32) from (e 115 (by omega)).mpr z1), if_pos z1]; rfl
    · rw [if_neg (show ¬ nI c = (115 : Int32) from fun w => z1 ((e 115 (by omega)).mp w)), if_neg z1]
      by_cases z2 : 110 = c
      · rw [if_pos (show nI c = (110 : Int32) from (e 110 (by omega)).mpr z2), if_pos z2]; rfl
      · rw [if_neg (show ¬ nI c = (110 : Int32) from fun w => z2 ((e 110 (by omega)).mp w)), if_neg z2]; rfl
  · rw [f_X10_isName, kv_sw, if_neg (show ¬ nI 1 = (0 : Int32) by decide), kv_sw, if_pos (show nI 1 = (1 : Int32) from rfl), show pz_NT 1 = [108, 110, 115] from rfl, pz_ixn, pz_ixn, pz_ixn, pz_ixn]
    by_cases z1 : 108 = c
    · rw [if_pos (show nI c = (108 : Int32) from (e 108 (by omega)).mpr z1), if_pos z1]; rfl
    · rw [if_neg (show ¬ nI c = (108 : Int32) from fun w => z1 ((e 108 (by omega)).mp w)), if_neg z1]
      by_cases z2 : 110 = c
      · rw [if_pos (show nI c = (110 : Int32) from (e 110 (by omega)).mpr z2), if_pos z2]; rfl
      · rw [if_neg (show ¬ nI c = (110 : Int32) from fun w => z2 ((e 110 (by omega)).mp w)), if_neg z2]
        by_cases z3 : 115 = c
        · rw [if_pos (show nI c = (115 : Int32) from (e 115 (by omega)).mpr z3), if_pos z3]; rfl
        · rw [if_neg (show ¬ nI c = (115 : Int32) from fun w => z3 ((e 115 (by omega)).mp w)), if_neg z3]; rfl
  · rw [f_X10_isName, kv_sw, if_neg (show ¬ nI 2 = (0 : Int32) by decide), kv_sw, if_neg (show ¬ nI 2 = (1 : Int32) by decide)]
    show (if nI c = (97 : Int32) then _ else _) = _
    rw [show pz_NT 2 = [97, 116, 114, 110] from rfl, pz_ixn, pz_ixn, pz_ixn, pz_ixn, pz_ixn]
    by_cases z1 : 97 = c
    · rw [if_pos (show nI c = (97 : Int32) from (e 97 (by omega)).mpr z1), if_pos z1]; rfl
    · rw [if_neg (show ¬ nI c = (97 : Int32) from fun w => z1 ((e 97 (by omega)).mp w)), if_neg z1]
      by_cases z2 : 116 = c
      · rw [if_pos (show nI c = (116 : Int32) from (e 116 (by omega)).mpr z2), if_pos z2]; rfl
      · rw [if_neg (show ¬ nI c = (116 : Int32) from fun w => z2 ((e 116 (by omega)).mp w)), if_neg z2]
        by_cases z3 : 114 = c
        · rw [if_pos (show nI c = (114 : Int32) from (e 114 (by omega)).mpr z3), if_pos z3]; rfl
        · rw [if_neg (show ¬ nI c = (114 : Int32) from fun w => z3 ((e 114 (by omega)).mp w)), if_neg z3]
          by_cases z4 : 110 = c
          · rw [if_pos (show nI c = (110 : Int32) from (e 110 (by omega)).mpr z4), if_pos z4]; rfl
          · rw [if_neg (show ¬ nI c = (110 : Int32) from fun w => z4 ((e 110 (by omega)).mp w)), if_neg z4]; rfl
theorem pz_part10 {len key base p q : Nat} {B : Nat → Nat} {rc : Nat → Int32 → kv_H → Option (Int32 × kv_H)} {rs : Nat → Nat → Nat → pz_σ → Bool × pz_σ} (hb : base ≤ 2898) (hk : key ≤ 2) (hl : len ≤ 96) (hB : ∀ k, k < len → B k < 256) (hp : p ≤ 8) (hq : q ≤ 8)
    (H5 : q < 8 → ∀ (σ : pz_σ) (h : kv_H), pz_tv B len σ.1 → σ.2.1.length ≤ σ.1.2.1 → pz_O10 h B len key base p (q + 1) σ → pz_R10 B len key base p (q + 1) (rc 5 (nI key) h) (rs 5 p (q + 1) σ) h)
    (H0 : p < 8 → ∀ (σ : pz_σ) (h : kv_H), pz_tv B len σ.1 → σ.2.1.length ≤ σ.1.2.1 → pz_O10 h B len key base (p + 1) q σ → pz_R10 B len key base (p + 1) q (rc 0 (nI key) h) (rs 0 (p + 1) q σ) h)
    (hrb : ∀ (l p q : Nat) (σ : pz_σ), pz_tv B len σ.1 → pz_rb B len key σ (rs l p q σ)) (σ : pz_σ) (h : kv_H) (t : pz_tv B len σ.1) (hS : σ.2.1.length ≤ σ.1.2.1) (o : pz_O10 h B len key base p q σ) : pz_R10 B len key base p q (f_X10_part0B rc (nI key) h) (pz_pp rs B len key p q σ) h := by
  have t1 := t.1
  have al := t.2.1
  have el := t.2.2.1
  have mb : pz_msr σ.1 ≤ 4 := by unfold pz_msr; split <;> omega
  have m2 : pz_msr σ.1 = 2 ↔ σ.1.1 = 2 ∧ σ.1.2.2 - σ.1.2.1 ≤ 4 := by
    unfold pz_msr
    by_cases w : σ.1.1 = 2 ∧ 4 < σ.1.2.2 - σ.1.2.1
    · rw [if_pos w]; omega
    · rw [if_neg w]; omega
  have m1 : pz_msr σ.1 = 1 ↔ σ.1.1 = 1 := by
    unfold pz_msr
    by_cases w : σ.1.1 = 2 ∧ 4 < σ.1.2.2 - σ.1.2.1
    · rw [if_pos w]; omega
    · rw [if_neg w]
  have failed : pz_R10 B len key base p q (some (0, h)) (false, σ) h := ⟨h, rfl, fun w => (by cases w), fun _ => o.2.1.1, pz_f10r base h⟩
  have behind : pz_R10 B len key base p q (kv_b (f_X10_isSign 33 h) (fun r3 h2 =>
      kv_jn (fun  (h4 : kv_H) =>
      kv_b (f_X10_isSign 40 h4) (fun r6 h5 =>
        if r6 = 0 then (some (0, h5))
        else (if (h5 111 27) = (8 : Int32) then (some (0, h5))
          else (kv_hl (kv_up h5 111 27 ((h5 111 27) + 1)) (fun h7 =>
            kv_b (f_X10_nextToken h7) (fun _ h8 =>
            kv_b (rc 0 (nI key) h8) (fun r10 h9 =>
            if r10 = 0 then (some (0, h9))
            else (kv_b (f_X10_isSign 41 h9) (fun r12 h11 =>
              if r12 = 0 then (some (0, h11))
              else (kv_hl (kv_up h11 111 27 ((h11 111 27) - 1)) (fun h13 =>
                kv_b (f_X10_nextToken h13) (fun _ h14 =>
                some (1, h14))))))))))))) (fun (J145 : kv_H → Option (Int32 × kv_H)) =>
      if r3 = 0 then (J145 h2)
      else (if (8 : Int32) ≤ (h2 111 28) then (J145 h2)
        else (kv_hl (kv_up h2 111 28 ((h2 111 28) + 1)) (fun h15 =>
          kv_b (f_X10_nextToken h15) (fun _ h16 =>
          kv_b (rc 5 (nI key) h16) (fun r18 h17 =>
          if r18 = 0 then (some (0, h17))
          else (kv_hl (kv_up h17 111 28 ((h17 111 28) - 1)) (fun h19 =>
            kv_b (f_X10_step 2 33 h19) (fun _ h20 =>
            some (1, h20))))))))))))
     (if σ.1.1 = 3 ∧ B σ.1.2.1 = 33 ∧ q < 8 then (if (rs 5 p (q + 1) (pz_fw B len σ)).1 = true then (true, pz_ad1 (2, 9) (rs 5 p (q + 1) (pz_fw B len σ)).2) else rs 5 p (q + 1) (pz_fw B len σ))
     else if σ.1.1 = 3 ∧ B σ.1.2.1 = 40 ∧ p < 8 then (if (rs 0 (p + 1) q (pz_fw B len σ)).1 = true then (if (rs 0 (p + 1) q (pz_fw B len σ)).2.1.1 = 3 ∧ B (rs 0 (p + 1) q (pz_fw B len σ)).2.1.2.1 = 41 then (true, pz_fw B len (rs 0 (p + 1) q (pz_fw B len σ)).2) else (false, (rs 0 (p + 1) q (pz_fw B len σ)).2)) else rs 0 (p + 1) q (pz_fw B len σ))
     else (false, σ)) h := by
    have s33 : f_X10_isSign 33 h = _ := pz_signO10 (c := 33) hl hB o t (by omega)
    have s40 : f_X10_isSign 40 h = _ := pz_signO10 (c := 40) hl hB o t (by omega)
    have paren : pz_R10 B len key base p q (if (if σ.1.1 = 3 ∧ B σ.1.2.1 = 40 then (1 : Int32) else 0) = 0 then (some (0, h))
        else (if (h 111 27) = (8 : Int32) then (some (0, h))
          else (kv_hl (kv_up h 111 27 ((h 111 27) + 1)) (fun h7 =>
            kv_b (f_X10_nextToken h7) (fun _ h8 =>
            kv_b (rc 0 (nI key) h8) (fun r10 h9 =>
            if r10 = 0 then (some (0, h9))
            else (kv_b (f_X10_isSign 41 h9) (fun r12 h11 =>
              if r12 = 0 then (some (0, h11))
              else (kv_hl (kv_up h11 111 27 ((h11 111 27) - 1)) (fun h13 =>
                kv_b (f_X10_nextToken h13) (fun _ h14 =>
                some (1, h14)))))))))))) (if σ.1.1 = 3 ∧ B σ.1.2.1 = 40 ∧ p < 8 then (if (rs 0 (p + 1) q (pz_fw B len σ)).1 = true then (if (rs 0 (p + 1) q (pz_fw B len σ)).2.1.1 = 3 ∧ B (rs 0 (p + 1) q (pz_fw B len σ)).2.1.2.1 = 41 then (true, pz_fw B len (rs 0 (p + 1) q (pz_fw B len σ)).2) else (false, (rs 0 (p + 1) q (pz_fw B len σ)).2)) else rs 0 (p + 1) q (pz_fw B len σ))
     else (false, σ)) h := by
      by_cases z : σ.1.1 = 3 ∧ B σ.1.2.1 = 40
      · rw [if_pos z, if_neg (by decide), o.2.2.2.2.1]
        by_cases zp : p < 8
        · rw [if_neg (show ¬ nI p = (8 : Int32) from fun w => by have := (nI_eq (b := 8) (by omega) (by omega)).mp w; omega), if_pos ⟨z.1, z.2, zp⟩, nI_1, pz_hl]
          have fv := pz_fwV t (by omega)
          obtain ⟨oc, fc⟩ := pz_cnt10 o 27 (p + 1) (by omega)
          rw [if_pos rfl, if_neg (by omega), if_neg (by omega)] at oc
          obtain ⟨h1, x1, x2, x3⟩ := pz_advO10 hl hB oc t (by show ¬ σ.1.1 = 0; omega) (by show σ.1.1 = 2 → _; omega)
          obtain ⟨h2, y1, y2, y3, y4⟩ := H0 zp (pz_fw B len σ) h1 fv.1 (by show σ.2.1.length ≤ (pz_fw B len σ).1.2.1; omega) x2
          obtain ⟨r1, r2, r3, r4, r5⟩ := hrb 0 (p + 1) q (pz_fw B len σ) fv.1
          have e3 : (pz_fw B len σ).2.1 = σ.2.1 := rfl
          rw [e3] at r3
          have tl := r1.2.2.1
          have tl2 := r1.2.1
          rw [x1, pz_b, y1, pz_b]
          by_cases w : (rs 0 (p + 1) q (pz_fw B len σ)).1 = true
          · rw [if_pos w, if_pos w, if_neg (by decide), show f_X10_isSign 41 h2 = _ from pz_signO10 (c := 41) hl hB (y2 w) r1 (by omega), pz_b]
            by_cases u : (rs 0 (p + 1) q (pz_fw B len σ)).2.1.1 = 3 ∧ B (rs 0 (p + 1) q (pz_fw B len σ)).2.1.2.1 = 41
            · rw [if_pos u, if_neg (by decide), if_pos u, (y2 w).2.2.2.2.1, show nI (p + 1) - (1 : Int32) = nI p from pz_sub (a := p + 1) (b := 1) (by omega), pz_hl]
              obtain ⟨od, fd⟩ := pz_cnt10 (y2 w) 27 p (by omega)
              rw [if_pos rfl, if_neg (by omega), if_neg (by omega)] at od
              obtain ⟨h3, v1, v2, v3⟩ := pz_advO10 hl hB od r1 (by show ¬ (rs 0 (p + 1) q (pz_fw B len σ)).2.1.1 = 0; omega) (by show (rs 0 (p + 1) q (pz_fw B len σ)).2.1.1 = 2 → _; omega)
              exact ⟨h3, by rw [v1, pz_b]; rfl, fun _ => v2, fun q => (by cases q), pz_f10t fc (pz_f10t x3 (pz_f10t y4 (pz_f10t fd v3)))⟩
            · rw [if_neg u, if_pos rfl, if_neg u]
              exact ⟨h2, rfl, fun q => (by cases q), fun _ => (y2 w).2.1.1, pz_f10t fc (pz_f10t x3 y4)⟩
          · rw [if_neg w, if_neg w, if_pos (show nI 0 = (0 : Int32) from rfl)]
            exact ⟨h2, by rw [if_neg w]; rfl, fun q => absurd q w, y3, pz_f10t fc (pz_f10t x3 y4)⟩
        · rw [if_pos (show nI p = (8 : Int32) by rw [show p = 8 by omega]; rfl), if_neg (fun w => zp w.2.2)]
          exact failed
      · rw [if_neg z, if_pos rfl, if_neg (fun w => z ⟨w.1, w.2.1⟩)]
        exact failed
    rw [s33, pz_b, pz_jn]
    dsimp only
    rw [s40, pz_b]
    by_cases z : σ.1.1 = 3 ∧ B σ.1.2.1 = 33
    · rw [if_pos z, if_neg (by decide), o.2.2.2.2.2]
      by_cases zq : q < 8
      · rw [if_neg (show ¬ (8 : Int32) ≤ nI q from nI_ge (b := 8) zq (by omega)), if_pos ⟨z.1, z.2, zq⟩, nI_1, pz_hl]
        have fv := pz_fwV t (by omega)
        obtain ⟨oc, fc⟩ := pz_cnt10 o 28 (q + 1) (by omega)
        rw [if_neg (by omega), if_pos rfl, if_neg (by omega)] at oc
        obtain ⟨h1, x1, x2, x3⟩ := pz_advO10 hl hB oc t (by show ¬ σ.1.1 = 0; omega) (by show σ.1.1 = 2 → _; omega)
        obtain ⟨h2, y1, y2, y3, y4⟩ := H5 zq (pz_fw B len σ) h1 fv.1 (by show σ.2.1.length ≤ (pz_fw B len σ).1.2.1; omega) x2
        obtain ⟨r1, r2, r3, r4, r5⟩ := hrb 5 p (q + 1) (pz_fw B len σ) fv.1
        have e3 : (pz_fw B len σ).2.1 = σ.2.1 := rfl
        rw [e3] at r3
        have tl := r1.2.2.1
        have tl2 := r1.2.1
        rw [x1, pz_b, y1, pz_b]
        by_cases w : (rs 5 p (q + 1) (pz_fw B len σ)).1 = true
        · rw [if_pos w, if_pos w, if_neg (by decide), (y2 w).2.2.2.2.2, show nI (q + 1) - (1 : Int32) = nI q from pz_sub (a := q + 1) (b := 1) (by omega), pz_hl]
          obtain ⟨od, fd⟩ := pz_cnt10 (y2 w) 28 q (by omega)
          rw [if_neg (by omega), if_pos rfl, if_neg (by omega)] at od
          obtain ⟨h3, v1, v2, v3⟩ := pz_stepO10 (st := (2, 9)) (x1 := 2) (x2 := 33) hb od (by show (rs 5 p (q + 1) (pz_fw B len σ)).2.2.1.length < 96; omega) rfl rfl
          exact ⟨h3, by rw [v1, pz_b]; rfl, fun _ => v2, fun q => (by cases q), pz_f10t fc (pz_f10t x3 (pz_f10t y4 (pz_f10t fd v3)))⟩
        · rw [if_neg w, if_neg w, if_pos (show nI 0 = (0 : Int32) from rfl)]
          exact ⟨h2, by rw [if_neg w]; rfl, fun q => absurd q w, y3, pz_f10t fc (pz_f10t x3 y4)⟩
      · rw [if_pos (show (8 : Int32) ≤ nI q from nI_le (a := 8) (by omega) (by omega)), if_neg (show ¬ (σ.1.1 = 3 ∧ B σ.1.2.1 = 33 ∧ q < 8) from fun w => zq w.2.2)]
        exact paren
    · rw [if_neg z, if_pos rfl, if_neg (show ¬ (σ.1.1 = 3 ∧ B σ.1.2.1 = 33 ∧ q < 8) from fun w => z ⟨w.1, w.2.1⟩)]
      exact paren
  rw [f_X10_part0B, pz_pp, o.2.1.2.2.1]
  by_cases z2 : σ.1.1 = 2 ∧ σ.1.2.2 - σ.1.2.1 ≤ 4
  · have := t.2.2.2.1 (by omega)
    rw [if_pos z2, if_pos (show nI (pz_msr σ.1) = (2 : Int32) by rw [m2.mpr z2]; rfl), o.2.1.2.2.2.2.2 (m2.mpr z2)]
    exact pz_give10 (st := (0, pz_nv B (σ.1.2.2 - σ.1.2.1) σ.1.2.1 0)) hb hl hB o t (by omega) (fun _ => z2.2) (by omega) rfl rfl
  rw [if_neg z2, if_neg (show ¬ nI (pz_msr σ.1) = (2 : Int32) from fun w => z2 (m2.mp ((nI_eq (b := 2) (by omega) (by omega)).mp w))), pz_jn]
  by_cases z1 : σ.1.1 = 1
  · have ae := t.2.2.2.1 (by omega)
    have bb := hB σ.1.2.1 (by omega)
    rw [if_pos (show nI (pz_msr σ.1) = (1 : Int32) by rw [m1.mpr z1]; rfl), if_pos z1, o.2.1.2.2.2.2.1 z1, pz_na]
    by_cases w : σ.1.2.2 - σ.1.2.1 = 1
    · rw [if_pos w, if_pos w]
      by_cases b0 : B σ.1.2.1 = 0
      · rw [if_pos (show nI (B σ.1.2.1) = (0 : Int32) by rw [b0]; rfl), b0]
        have : pz_ixn (pz_NT key) 0 0 = none := by
          rcases (show key = 0 ∨ key = 1 ∨ key = 2 by omega) with rfl | rfl | rfl <;> rfl
        rw [this]
        rw [b0] at behind
        exact behind
      · rw [if_neg (show ¬ nI (B σ.1.2.1) = (0 : Int32) from fun v => b0 ((nI_eq (b := 0) (by omega) (by omega)).mp v)), pz_isName10 hk bb, pz_b]
        cases hn : pz_ixn (pz_NT key) (B σ.1.2.1) 0 with
        | none =>
          rw [if_pos rfl, if_pos rfl]
          exact behind
        | some j =>
          have jb := pz_ixnL _ _ _ _ hn
          have lt : pz_lt' key j = B σ.1.2.1 := by
            have c := jb.2.2
            rw [Nat.sub_zero] at c
            unfold pz_lt'
            unfold pz_NT at c
            rcases (show key = 0 ∨ key = 1 ∨ key = 2 by omega) with rfl | rfl | rfl
            · rw [if_pos rfl] at c ⊢; rw [List.getD_eq_getElem?_getD, c]; rfl
            · rw [if_neg (by decide), if_pos rfl] at c ⊢; rw [List.getD_eq_getElem?_getD, c]; rfl
            · rw [if_neg (by decide), if_neg (by decide)] at c ⊢; rw [List.getD_eq_getElem?_getD, c]; rfl
          rw [if_neg (show ¬ (if some j = none then (0 : Int32) else 1) = 0 by simp)]
          rw [o.2.1.2.2.2.2.1 z1, if_pos w]
          exact pz_give10 (st := (1, j)) hb hl hB o t (by omega) (by omega) (by omega) rfl (by rw [← lt]; rfl)
    · rw [if_neg w, if_neg w, if_pos rfl]
      exact behind
  · rw [if_neg (show ¬ nI (pz_msr σ.1) = (1 : Int32) from fun v => z1 (m1.mp ((nI_eq (b := 1) (by omega) (by omega)).mp v))), if_neg z1]
    exact behind
theorem pz_parse10 {len key base : Nat} {B : Nat → Nat} (hb : base ≤ 2898) (hk : key ≤ 2) (hl : len ≤ 96) (hB : ∀ k, k < len → B k < 256) : ∀ (d l p q D : Nat) (σ : pz_σ) (h : kv_H), l ≤ 5 → p ≤ 8 → q ≤ 8 → 6 * (8 - p) + (8 - q) + (5 - l) + 1 ≤ d → 6 * (8 - p) + (8 - q) + (5 - l) + 1 ≤ D → pz_tv B len σ.1 → σ.2.1.length ≤ σ.1.2.1 → pz_O10 h B len key base p q σ → pz_R10 B len key base p q (f_ex D l (nI key) h) (pz_P B len key d l p q σ) h := by
  intro d
  induction d with
  | zero => intro l p q D σ h _ _ _ e; exact absurd e (by omega)
  | succ d ih =>
    intro l p q D σ h hll hp hq e1 e2 t hS o
    obtain ⟨D, rfl⟩ : ∃ D', D = D' + 1 := ⟨D - 1, by omega⟩
    rw [f_ex, pz_P]
    by_cases z : l < 5
    · rw [if_pos z]
      have := pz_lev10 (rc := f_ex D) (rs := fun l => pz_P B len key d l p q) hb hl hB (fun l σ' t' => pz_rbP hk hB d l p q σ' t') l z (fun σ' h' t' s' o' => ih (l + 1) p q D σ' h' (by omega) hp hq (by omega) (by omega) t' s' o') σ h t hS o
      rcases (show l = 0 ∨ l = 1 ∨ l = 2 ∨ l = 3 ∨ l = 4 by omega) with rfl | rfl | rfl | rfl | rfl
      · exact this
      · exact this
      · exact this
      · exact this
      · exact this
    · obtain rfl : l = 5 := by omega
      rw [if_neg z, if_neg (by decide), if_neg (by decide), if_neg (by decide), if_neg (by decide), if_neg (by decide)]
      exact pz_part10 hb hk hl hB hp hq (fun w σ' h' t' s' o' => ih 5 p (q + 1) D σ' h' (by omega) hp (by omega) (by omega) (by omega) t' s' o') (fun w σ' h' t' s' o' => ih 0 (p + 1) q D σ' h' (by omega) (by omega) hq (by omega) (by omega) t' s' o') (fun l p q σ' t' => pz_rbP hk hB d l p q σ' t') σ h t hS o

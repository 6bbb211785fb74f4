/-! PURE PART: the class parses: all of it -/
theorem pz_loop9 {len key l p q N : Nat} {B : Nat → Nat} {rc : Nat → Int32 → Int32 → Int32 → kv_H → Option (Unit × kv_H)} {f : pz_σ → Bool × pz_σ} (hl : len ≤ 96) (hB : ∀ k, k < len → B k < 256) (hll : l < 5) (hN : N ≤ 96) (hf : ∀ (σ : pz_σ) (h : kv_H), pz_tv B len σ.1 → σ.2.1.length ≤ σ.1.2.1 → pz_O9 h B len key σ → pz_R9 B len key (rc 0 (nI (l + 1)) (nI p) (nI q) h) (f σ) h) (hrb : ∀ σ : pz_σ, pz_tv B len σ.1 → pz_rb B len key σ (f σ)) : ∀ (n : Nat) (σ : pz_σ) (h : kv_H) (v fu : Nat), v + n = N → n < fu → pz_tv B len σ.1 → σ.2.1.length ≤ σ.1.2.1 → pz_O9 h B len key σ → pz_R9 B len key (f_X5_parseJoinedB_L37 rc (nI l) (nI p) (nI q) (nI N) fu (nI v) h (fun h11 => some ((), h11))) (pz_J f B len l n σ) h := by
  intro n
  induction n with
  | zero =>
    intro σ h v fu e1 e2 t hS o
    obtain ⟨fu, rfl⟩ : ∃ f, fu = f + 1 := ⟨fu - 1, by omega⟩
    refine ⟨h, ?_, fun _ => o, fun w => (by cases w), fun _ _ _ => rfl⟩
    rw [f_X5_parseJoinedB_L37, if_pos (nI_le (by omega) (by omega))]
  | succ n ih =>
    intro σ h v fu e1 e2 t hS o
    obtain ⟨fu, rfl⟩ : ∃ f, fu = f + 1 := ⟨fu - 1, by omega⟩
    obtain ⟨jh, ja⟩ := pz_joinsO9 (l := l) hl hB o t hll
    rw [f_X5_parseJoinedB_L37, if_neg (nI_ge (by omega) (by omega)), ja, pz_b, pz_J]
    cases hj : pz_jl B l σ.1 with
    | none =>
      rw [if_pos rfl, if_pos rfl]
      exact ⟨h, rfl, fun _ => o, fun w => (by cases w), fun _ _ _ => rfl⟩
    | some j =>
      have j3 := pz_jl3 hj
      have jo : pz_jo' B σ.1 = some j := by unfold pz_jo'; rw [if_pos j3.1]; exact j3.2.1
      rw [if_neg (show ¬ (if some j = none then (0 : Int32) else 1) = 0 by simp), jh, pz_b, jo, show pz_pl10 (some j) = nI j from rfl]
      have fv := pz_fwV t (by omega)
      obtain ⟨h1, x1, x2, x3⟩ := pz_advO9 hl hB o t
      obtain ⟨h2, y1, y2, y3, y4⟩ := hf (pz_fw B len σ) h1 fv.1 (by show σ.2.1.length ≤ (pz_fw B len σ).1.2.1; omega) x2
      obtain ⟨r1, r2, r3, r4, r5⟩ := hrb (pz_fw B len σ) fv.1
      have e3 : (pz_fw B len σ).2.1 = σ.2.1 := rfl
      rw [e3] at r3
      have tl := r1.2.2.1
      have tl2 := r1.2.1
      rw [x1, pz_b, nI_1, y1, pz_b]
      show pz_R9 B len key _ (if (f (pz_fw B len σ)).1 = true then pz_J f B len l n (pz_ad1 (2, j) (f (pz_fw B len σ)).2) else (f (pz_fw B len σ))) h
      by_cases z : (f (pz_fw B len σ)).1 = true
      · rw [if_pos z]
        obtain ⟨h3, z1, z2, z3⟩ := pz_stepO9 (st := (2, j)) (x1 := nI j) (x2 := 0) (y2 z) (by omega) (pz_cd2 (by omega))
        rw [z1, pz_b, nI_1]
        obtain ⟨h', w1, w2, w3, w4⟩ := ih (pz_ad1 (2, j) (f (pz_fw B len σ)).2) h3 (v + 1) fu (by omega) (by omega) r1 (by
          show ((f (pz_fw B len σ)).2.2.1 ++ [(2, j)]).length ≤ (f (pz_fw B len σ)).2.1.2.1
          rw [List.length_append, List.length_singleton]; omega) z2
        exact ⟨h', w1, w2, w3, fun a q1 q2 => by rw [w4 a q1 q2, z3 a q1 q2, y4 a q1 q2, x3 a q1]⟩
      · rw [if_neg z]
        have fz : (f (pz_fw B len σ)).1 = false := by simpa using z
        obtain ⟨h3, z1, z2, z3⟩ := pz_stepF (nI j) 0 (y3 fz)
        rw [z1, pz_b, nI_1]
        obtain ⟨fu, rfl⟩ : ∃ f, fu = f + 1 := ⟨fu - 1, by omega⟩
        refine ⟨h3, ?_, fun w => absurd w z, fun _ => z2, fun a q1 q2 => by rw [z3 a q1 q2, y4 a q1 q2, x3 a q1]⟩
        rw [f_X5_parseJoinedB_L37]
        by_cases w : nI N ≤ nI (v + 1)
        · rw [if_pos w]
        · rw [if_neg w, pz_joinsF _ z2, pz_b, if_pos rfl]
theorem pz_joined9 {len key l p q : Nat} {B : Nat → Nat} {rc : Nat → Int32 → Int32 → Int32 → kv_H → Option (Unit × kv_H)} {f : pz_σ → Bool × pz_σ} (hl : len ≤ 96) (hB : ∀ k, k < len → B k < 256) (hll : l < 5) (hf : ∀ (σ : pz_σ) (h : kv_H), pz_tv B len σ.1 → σ.2.1.length ≤ σ.1.2.1 → pz_O9 h B len key σ → pz_R9 B len key (rc 0 (nI (l + 1)) (nI p) (nI q) h) (f σ) h) (hrb : ∀ σ : pz_σ, pz_tv B len σ.1 → pz_rb B len key σ (f σ)) (σ : pz_σ) (h : kv_H) (t : pz_tv B len σ.1) (hS : σ.2.1.length ≤ σ.1.2.1) (o : pz_O9 h B len key σ) : pz_R9 B len key (f_X5_parseJoinedB rc (nI l) (nI p) (nI q) h) (if (f σ).1 = true then pz_J f B len l (if l = 2 then 1 else 96) (f σ).2 else f σ) h := by
  obtain ⟨h1, y1, y2, y3, y4⟩ := hf σ h t hS o
  obtain ⟨r1, r2, r3, r4, r5⟩ := hrb σ t
  obtain ⟨N, eN⟩ : ∃ N, N = if l = 2 then 1 else 96 := ⟨_, rfl⟩
  have N96 : N ≤ 96 ∧ 1 ≤ N := by rw [eN]; split <;> omega
  have st : f_X5_parseJoinedB rc (nI l) (nI p) (nI q) h = f_X5_parseJoinedB_L37 rc (nI l) (nI p) (nI q) (nI N) kv_fu (nI 0) h1 (fun h11 => some ((), h11)) := by
    rw [f_X5_parseJoinedB, if_pos (show nI l < (5 : Int32) from nI_lt (b := 5) hll (by omega)), nI_1, y1, pz_b, pz_jn]
    by_cases z : l = 2
    · rw [if_pos (show nI l = (2 : Int32) by rw [z]; rfl), eN, if_pos z]; rfl
    · rw [if_neg (show ¬ nI l = (2 : Int32) from fun w => z ((nI_eq (b := 2) (by omega) (by omega)).mp w)), eN, if_neg z]; rfl
  rw [st, ← eN]
  by_cases z : (f σ).1 = true
  · rw [if_pos z]
    obtain ⟨h', w1, w2, w3, w4⟩ := pz_loop9 hl hB hll N96.1 hf hrb N (f σ).2 h1 0 kv_fu (by omega) (by rw [show kv_fu = 5000 from rfl]; omega) r1 (by omega) (y2 z)
    exact ⟨h', w1, w2, w3, fun a q1 q2 => by rw [w4 a q1 q2, y4 a q1 q2]⟩
  · rw [if_neg z]
    have fz : (f σ).1 = false := by simpa using z
    refine ⟨h1, ?_, fun w => absurd w z, fun _ => y3 fz, y4⟩
    rw [show kv_fu = 4999 + 1 from rfl, f_X5_parseJoinedB_L37, if_neg (nI_ge (by omega) (by omega)), pz_joinsF _ (y3 fz), pz_b, if_pos rfl]
theorem pz_piece9 {len key p q : Nat} {B : Nat → Nat} {rc : Nat → Int32 → Int32 → Int32 → kv_H → Option (Unit × kv_H)} {rs : Nat → Nat → Nat → pz_σ → Bool × pz_σ} (hk : key ≤ 2) (hl : len ≤ 96) (hB : ∀ k, k < len → B k < 256) (hp : p ≤ 8) (hq : q ≤ 8)
    (H5 : q < 8 → ∀ (σ : pz_σ) (h : kv_H), pz_tv B len σ.1 → σ.2.1.length ≤ σ.1.2.1 → pz_O9 h B len key σ → pz_R9 B len key (rc 1 (nI p) (nI (q + 1)) 0 h) (rs 5 p (q + 1) σ) h)
    (H0 : p < 8 → ∀ (σ : pz_σ) (h : kv_H), pz_tv B len σ.1 → σ.2.1.length ≤ σ.1.2.1 → pz_O9 h B len key σ → pz_R9 B len key (rc 0 0 (nI (p + 1)) (nI q) h) (rs 0 (p + 1) q σ) h)
    (hrb : ∀ (l p q : Nat) (σ : pz_σ), pz_tv B len σ.1 → pz_rb B len key σ (rs l p q σ)) (σ : pz_σ) (h : kv_H) (t : pz_tv B len σ.1) (hS : σ.2.1.length ≤ σ.1.2.1) (o : pz_O9 h B len key σ) : pz_R9 B len key (f_X5_parsePieceB rc (nI p) (nI q) h) (pz_pp rs B len key p q σ) h := by
  have t1 := t.1
  have al := t.2.1
  have el := t.2.2.1
  have give : ∀ (st : Nat × Nat) (x1 x2 : Int32), σ.1.1 ≠ 0 → ((x2 <<< ((4 : Int32) &&& 31)) ||| x1) = nI (pz_enc st) → pz_R9 B len key (kv_b (f_X5_addGiver x1 x2 h) (fun _ h26 => some ((), h26))) (true, pz_gi B len st σ) h := by
    intro st x1 x2 n0 hc
    have := t.2.2.2.1 n0
    obtain ⟨h', y1, y2, y3⟩ := pz_give9 hl hB o t (by omega) hc
    exact ⟨h', by rw [y1, pz_b], fun _ => y2, fun w => (by cases w), y3⟩
  -- behind number and name
  have behind : pz_R9 B len key (kv_b (f_X5_isSign 33 h) (fun r4 h3 =>
      kv_jn (fun  (h5 : kv_H) =>
      kv_b (f_X5_isSign 40 h5) (fun r7 h6 =>
        if r7 = 0 then (kv_b (f_X5_fail h6) (fun _ h8 =>
          some ((), h8)))
        else (if (8 : Int32) ≤ (nI p) then (kv_b (f_X5_fail h6) (fun _ h9 =>
            some ((), h9)))
          else (kv_b (f_X5_advance h6) (fun _ h10 =>
            kv_b (rc 0 0 (nI p + 1) (nI q) h10) (fun _ h11 =>
            kv_b (f_X5_isSign 41 h11) (fun r13 h12 =>
            if r13 = 0 then (kv_b (f_X5_fail h12) (fun _ h14 =>
              some ((), h14)))
            else (kv_b (f_X5_advance h12) (fun _ h15 =>
              some ((), h15)))))))))) (fun (J99 : kv_H → Option (Unit × kv_H)) =>
      if r4 = 0 then (J99 h3)
      else (if (8 : Int32) ≤ (nI q) then (J99 h3)
        else (kv_b (f_X5_advance h3) (fun _ h16 =>
          kv_b (rc 1 (nI p) (nI q + 1) 0 h16) (fun _ h17 =>
          kv_b (f_X5_addStep 9 0 h17) (fun _ h18 =>
          some ((), h18)))))))))
     (if σ.1.1 = 3 ∧ B σ.1.2.1 = 33 ∧ q < 8 then (if (rs 5 p (q + 1) (pz_fw B len σ)).1 = true then (true, pz_ad1 (2, 9) (rs 5 p (q + 1) (pz_fw B len σ)).2) else rs 5 p (q + 1) (pz_fw B len σ))
     else if σ.1.1 = 3 ∧ B σ.1.2.1 = 40 ∧ p < 8 then (if (rs 0 (p + 1) q (pz_fw B len σ)).1 = true then (if (rs 0 (p + 1) q (pz_fw B len σ)).2.1.1 = 3 ∧ B (rs 0 (p + 1) q (pz_fw B len σ)).2.1.2.1 = 41 then (true, pz_fw B len (rs 0 (p + 1) q (pz_fw B len σ)).2) else (false, (rs 0 (p + 1) q (pz_fw B len σ)).2)) else rs 0 (p + 1) q (pz_fw B len σ))
     else (false, σ)) h := by
    have failed : pz_R9 B len key (kv_b (f_X5_fail h) (fun _ h8 => some ((), h8))) (false, σ) h := by
      obtain ⟨h', y1, y2, y3⟩ := pz_failO9 hl o t (by omega)
      exact ⟨h', by rw [y1, pz_b], fun w => (by cases w), fun _ => y2, fun a q1 q2 => y3 a q1⟩
    have s33 : f_X5_isSign 33 h = _ := pz_signO9 (c := 33) hl hB o t (by omega)
    have s40 : f_X5_isSign 40 h = _ := pz_signO9 (c := 40) hl hB o t (by omega)
    rw [s33, pz_b, pz_jn]
    dsimp only
    rw [s40, pz_b]
    -- the paren's road
    have paren : ¬ (σ.1.1 = 3 ∧ B σ.1.2.1 = 33 ∧ q < 8) → pz_R9 B len key (if (if σ.1.1 = 3 ∧ B σ.1.2.1 = 40 then (1 : Int32) else 0) = 0 then (kv_b (f_X5_fail h) (fun _ h8 => some ((), h8)))
        else (if (8 : Int32) ≤ (nI p) then (kv_b (f_X5_fail h) (fun _ h9 =>
            some ((), h9)))
          else (kv_b (f_X5_advance h) (fun _ h10 =>
            kv_b (rc 0 0 (nI p + 1) (nI q) h10) (fun _ h11 =>
            kv_b (f_X5_isSign 41 h11) (fun r13 h12 =>
            if r13 = 0 then (kv_b (f_X5_fail h12) (fun _ h14 =>
              some ((), h14)))
            else (kv_b (f_X5_advance h12) (fun _ h15 =>
              some ((), h15))))))))) (if σ.1.1 = 3 ∧ B σ.1.2.1 = 40 ∧ p < 8 then (if (rs 0 (p + 1) q (pz_fw B len σ)).1 = true then (if (rs 0 (p + 1) q (pz_fw B len σ)).2.1.1 = 3 ∧ B (rs 0 (p + 1) q (pz_fw B len σ)).2.1.2.1 = 41 then (true, pz_fw B len (rs 0 (p + 1) q (pz_fw B len σ)).2) else (false, (rs 0 (p + 1) q (pz_fw B len σ)).2)) else rs 0 (p + 1) q (pz_fw B len σ))
     else (false, σ)) h := by
      intro _
      by_cases z : σ.1.1 = 3 ∧ B σ.1.2.1 = 40
      · rw [if_pos z, if_neg (by decide)]
        by_cases zp : p < 8
        · rw [if_neg (show ¬ (8 : Int32) ≤ nI p from nI_ge (b := 8) zp (by omega)), if_pos ⟨z.1, z.2, zp⟩]
          have fv := pz_fwV t (by omega)
          obtain ⟨h1, x1, x2, x3⟩ := pz_advO9 hl hB o t
          obtain ⟨h2, y1, y2, y3, y4⟩ := H0 zp (pz_fw B len σ) h1 fv.1 (by show σ.2.1.length ≤ (pz_fw B len σ).1.2.1; omega) x2
          obtain ⟨r1, r2, r3, r4, r5⟩ := hrb 0 (p + 1) q (pz_fw B len σ) fv.1
          have e3 : (pz_fw B len σ).2.1 = σ.2.1 := rfl
          rw [e3] at r3
          have tl := r1.2.2.1
          have tl2 := r1.2.1
          rw [x1, pz_b, nI_1, y1, pz_b]
          by_cases w : (rs 0 (p + 1) q (pz_fw B len σ)).1 = true
          · rw [if_pos w, show f_X5_isSign 41 h2 = _ from pz_signO9 (c := 41) hl hB (y2 w) r1 (by omega), pz_b]
            by_cases u : (rs 0 (p + 1) q (pz_fw B len σ)).2.1.1 = 3 ∧ B (rs 0 (p + 1) q (pz_fw B len σ)).2.1.2.1 = 41
            · rw [if_pos u, if_neg (by decide), if_pos u]
              obtain ⟨h3, v1, v2, v3⟩ := pz_advO9 hl hB (y2 w) r1
              exact ⟨h3, by rw [v1, pz_b], fun _ => v2, fun q => (by cases q), fun a q1 q2 => by rw [v3 a q1, y4 a q1 q2, x3 a q1]⟩
            · rw [if_neg u, if_pos rfl, if_neg u]
              obtain ⟨h3, v1, v2, v3⟩ := pz_failO9 hl (y2 w) r1 (by omega)
              exact ⟨h3, by rw [v1, pz_b], fun q => (by cases q), fun _ => v2, fun a q1 q2 => by rw [v3 a q1, y4 a q1 q2, x3 a q1]⟩
          · have fz : (rs 0 (p + 1) q (pz_fw B len σ)).1 = false := by simpa using w
            rw [if_neg w, pz_signF _ (y3 fz), pz_b, if_pos rfl]
            obtain ⟨h3, v1, v2, v3⟩ := pz_failF (by omega) (y3 fz)
            exact ⟨h3, by rw [v1, pz_b], fun q => absurd q w, fun _ => v2, fun a q1 q2 => by rw [v3 a q1, y4 a q1 q2, x3 a q1]⟩
        · rw [if_pos (show (8 : Int32) ≤ nI p from nI_le (a := 8) (by omega) (by omega)), if_neg (fun w => zp w.2.2)]
          exact failed
      · rw [if_neg z, if_pos rfl, if_neg (fun w => z ⟨w.1, w.2.1⟩)]
        exact failed
    by_cases z : σ.1.1 = 3 ∧ B σ.1.2.1 = 33
    · rw [if_pos z, if_neg (by decide)]
      by_cases zq : q < 8
      · rw [if_neg (show ¬ (8 : Int32) ≤ nI q from nI_ge (b := 8) zq (by omega)), if_pos ⟨z.1, z.2, zq⟩]
        have fv := pz_fwV t (by omega)
        obtain ⟨h1, x1, x2, x3⟩ := pz_advO9 hl hB o t
        obtain ⟨h2, y1, y2, y3, y4⟩ := H5 zq (pz_fw B len σ) h1 fv.1 (by show σ.2.1.length ≤ (pz_fw B len σ).1.2.1; omega) x2
        obtain ⟨r1, r2, r3, r4, r5⟩ := hrb 5 p (q + 1) (pz_fw B len σ) fv.1
        have e3 : (pz_fw B len σ).2.1 = σ.2.1 := rfl
        rw [e3] at r3
        have tl := r1.2.2.1
        have tl2 := r1.2.1
        rw [x1, pz_b, nI_1, y1, pz_b]
        by_cases w : (rs 5 p (q + 1) (pz_fw B len σ)).1 = true
        · rw [if_pos w]
          obtain ⟨h3, v1, v2, v3⟩ := pz_stepO9 (st := (2, 9)) (x1 := nI 9) (x2 := 0) (y2 w) (by omega) (pz_cd2 (by omega))
          refine ⟨h3, ?_, fun _ => v2, fun q => (by cases q), fun a q1 q2 => by rw [v3 a q1 q2, y4 a q1 q2, x3 a q1]⟩
          rw [show (9 : Int32) = nI 9 from rfl, v1, pz_b]
        · have fz : (rs 5 p (q + 1) (pz_fw B len σ)).1 = false := by simpa using w
          rw [if_neg w]
          obtain ⟨h3, v1, v2, v3⟩ := pz_stepF 9 0 (y3 fz)
          exact ⟨h3, by rw [v1, pz_b], fun q => absurd q w, fun _ => v2, fun a q1 q2 => by rw [v3 a q1 q2, y4 a q1 q2, x3 a q1]⟩
      · rw [if_pos (show (8 : Int32) ≤ nI q from nI_le (a := 8) (by omega) (by omega)), if_neg (show ¬ (σ.1.1 = 3 ∧ B σ.1.2.1 = 33 ∧ q < 8) from fun w => zq w.2.2)]
        exact paren (fun w => zq w.2.2)
    · rw [if_neg z, if_pos rfl, if_neg (show ¬ (σ.1.1 = 3 ∧ B σ.1.2.1 = 33 ∧ q < 8) from fun w => z ⟨w.1, w.2.1⟩)]
      exact paren (fun w => z ⟨w.1, w.2.1⟩)
  rw [f_X5_parsePieceB, pz_jn, pz_pp, o.2.1.1, o.2.1.2.1, o.2.1.2.2, pz_sub al]
  by_cases z2 : σ.1.1 = 2 ∧ σ.1.2.2 - σ.1.2.1 ≤ 4
  · have nb := pz_nvB (B := B) (i := σ.1.2.1) (σ.1.2.2 - σ.1.2.1) (fun k h1 h2 => t.2.2.2.2.1 z2.1 k h1 (by omega))
    have pw := Nat.pow_le_pow_right (n := 10) (i := σ.1.2.2 - σ.1.2.1) (j := 4) (by omega) z2.2
    rw [if_pos z2, if_pos (show nI σ.1.1 = (2 : Int32) by rw [z2.1]; rfl), if_neg (show ¬ (4 : Int32) < nI (σ.1.2.2 - σ.1.2.1) from nI_nlt (a := 4) z2.2 (by omega)), pz_number9 o.1 hl o.2.1 ⟨al, el⟩ (fun k h1 h2 => by
      have := t.2.2.2.2.1 z2.1 k h1 h2
      unfold pz_srt at this
      by_cases w : B k < 97 ∨ 122 < B k
      · rw [if_pos w] at this
        by_cases y : B k < 48 ∨ 57 < B k
        · rw [if_pos y] at this; cases this
        · omega
      · rw [if_neg w] at this; cases this), pz_b]
    exact give (0, pz_nv B (σ.1.2.2 - σ.1.2.1) σ.1.2.1 0) 10 _ (by omega) (pz_cd0 (by omega))
  · have g1 : ∀ A Bq : Option (Unit × kv_H), (if nI σ.1.1 = (2 : Int32) then (if (4 : Int32) < nI (σ.1.2.2 - σ.1.2.1) then A else Bq) else A) = A := by
      intro A Bq
      by_cases w : σ.1.1 = 2
      · rw [if_pos (show nI σ.1.1 = (2 : Int32) by rw [w]; rfl), if_pos (show (4 : Int32) < nI (σ.1.2.2 - σ.1.2.1) from nI_lt (a := 4) (by omega) (by omega))]
      · rw [if_neg (show ¬ nI σ.1.1 = (2 : Int32) from fun v => w ((nI_eq (b := 2) (by omega) (by omega)).mp v))]
    rw [if_neg z2, g1]
    dsimp only
    rw [pz_jn, o.2.1.1]
    by_cases z1 : σ.1.1 = 1
    · rw [if_pos (show nI σ.1.1 = (1 : Int32) by rw [z1]; rfl), if_pos z1]
      have nm := pz_name9 o.1 hl hB o.2.1 ⟨al, el⟩ hk o.2.2.2.2.2
      rw [nm, pz_b]
      cases hn : pz_na B key σ.1 with
      | none => rw [if_pos (show pz_pl10 none < 0 by decide)]; exact behind
      | some j =>
        have j4 : j < 4 := by
          unfold pz_na at hn
          by_cases w : σ.1.2.2 - σ.1.2.1 = 1
          · rw [if_pos w] at hn
            have := pz_ixnL _ _ _ _ hn
            have : (pz_NT key).length ≤ 4 := by
              rcases (show key = 0 ∨ key = 1 ∨ key = 2 by omega) with rfl | rfl | rfl <;> decide
            omega
          · rw [if_neg w] at hn; cases hn
        rw [if_neg (show ¬ pz_pl10 (some j) < 0 from pz_ng (by omega)), nm, pz_b, hn]
        exact give (1, j) 11 (nI j) (by omega) (pz_cd1 j4)
    · rw [if_neg (show ¬ nI σ.1.1 = (1 : Int32) from fun v => z1 ((nI_eq (b := 1) (by omega) (by omega)).mp v)), if_neg z1]
      exact behind
theorem pz_parse9 {len key : Nat} {B : Nat → Nat} (hk : key ≤ 2) (hl : len ≤ 96) (hB : ∀ k, k < len → B k < 256) : ∀ (d : Nat), (∀ (p q D : Nat) (c : Int32) (σ : pz_σ) (h : kv_H), p ≤ 8 → q ≤ 8 → 6 * (8 - p) + (8 - q) + 1 ≤ d → 7 * (8 - p) + (8 - q) + 1 ≤ D → pz_tv B len σ.1 → σ.2.1.length ≤ σ.1.2.1 → pz_O9 h B len key σ → pz_R9 B len key (f_pj D 1 (nI p) (nI q) c h) (pz_P B len key d 5 p q σ) h) ∧ (∀ (l p q D : Nat) (σ : pz_σ) (h : kv_H), l ≤ 5 → p ≤ 8 → q ≤ 8 → 6 * (8 - p) + (8 - q) + (5 - l) + 1 ≤ d → 7 * (8 - p) + (8 - q) + (6 - l) + 1 ≤ D → pz_tv B len σ.1 → σ.2.1.length ≤ σ.1.2.1 → pz_O9 h B len key σ → pz_R9 B len key (f_pj D 0 (nI l) (nI p) (nI q) h) (pz_P B len key d l p q σ) h) := by
  intro d
  induction d with
  | zero => exact ⟨fun p q D c σ h _ _ e => absurd e (by omega), fun l p q D σ h _ _ _ e => absurd e (by omega)⟩
  | succ d ih =>
    have piece : ∀ (p q D : Nat) (c : Int32) (σ : pz_σ) (h : kv_H), p ≤ 8 → q ≤ 8 → 6 * (8 - p) + (8 - q) + 1 ≤ d + 1 → 7 * (8 - p) + (8 - q) + 1 ≤ D → pz_tv B len σ.1 → σ.2.1.length ≤ σ.1.2.1 → pz_O9 h B len key σ → pz_R9 B len key (f_pj D 1 (nI p) (nI q) c h) (pz_P B len key (d + 1) 5 p q σ) h := by
      intro p q D c σ h hp hq e1 e2 t hS o
      obtain ⟨D, rfl⟩ : ∃ D', D = D' + 1 := ⟨D - 1, by omega⟩
      rw [f_pj, if_neg (by decide), pz_P, if_neg (by omega)]
      exact pz_piece9 hk hl hB hp hq (fun w σ' h' t' s' o' => ih.1 p (q + 1) D 0 σ' h' hp (by omega) (by omega) (by omega) t' s' o') (fun w σ' h' t' s' o' => ih.2 0 (p + 1) q D σ' h' (by omega) (by omega) hq (by omega) (by omega) t' s' o') (fun l p q σ' t' => pz_rbP hk hB d l p q σ' t') σ h t hS o
    refine ⟨piece, ?_⟩
    intro l p q D σ h hll hp hq e1 e2 t hS o
    obtain ⟨D, rfl⟩ : ∃ D', D = D' + 1 := ⟨D - 1, by omega⟩
    by_cases z : l < 5
    · rw [f_pj, if_pos rfl, pz_P, if_pos z]
      exact pz_joined9 hl hB z (fun σ' h' t' s' o' => ih.2 (l + 1) p q D σ' h' (by omega) hp hq (by omega) (by omega) t' s' o') (fun σ' t' => pz_rbP hk hB d (l + 1) p q σ' t') σ h t hS o
    · obtain rfl : l = 5 := by omega
      rw [f_pj, if_pos rfl, f_X5_parseJoinedB, if_neg (by decide)]
      obtain ⟨h', y1, y2, y3, y4⟩ := piece p q D 0 σ h hp hq (by omega) (by omega) t hS o
      exact ⟨h', by rw [y1, pz_b], y2, y3, y4⟩

/-! PURE PART: the reference parses: levels -/
theorem pz_sgI : ∀ i j : Nat, i < 9 → j < 9 → pz_sg i = pz_sg j → i = j := by
  have : ∀ i j : Fin 9, pz_sg i.val = pz_sg j.val → i.val = j.val := by decide
  intro i j hi hj e
  exact this ⟨i, hi⟩ ⟨j, hj⟩ e
theorem pz_jlAt {B : Nat → Nat} {l j : Nat} {τ : Nat × Nat × Nat} (hj : j < 9) (h3 : τ.1 = 3) (hb : B τ.2.1 = pz_sg j) : pz_jl B l τ = if pz_TI.getD j 9 = l then some j else none := by
  rcases pz_jlC B l τ with ⟨a, b⟩ | ⟨_, ⟨i, i1, i2, i3⟩ | ⟨a, b⟩⟩
  · exact absurd h3 a
  · rw [hb] at i2
    rw [pz_sgI j i hj i1 i2]; exact i3
  · exfalso
    have : j = 0 ∨ j = 1 ∨ j = 2 ∨ j = 3 ∨ j = 4 ∨ j = 5 ∨ j = 6 ∨ j = 7 ∨ j = 8 := by omega
    rw [hb] at a
    rcases this with rfl | rfl | rfl | rfl | rfl | rfl | rfl | rfl | rfl
    · exact a.1 rfl
    · exact a.2.1 rfl
    · exact a.2.2.1 rfl
    · exact a.2.2.2.1 rfl
    · exact a.2.2.2.2.1 rfl
    · exact a.2.2.2.2.2.1 rfl
    · exact a.2.2.2.2.2.2.1 rfl
    · exact a.2.2.2.2.2.2.2.1 rfl
    · exact a.2.2.2.2.2.2.2.2 rfl
theorem pz_jlNo {B : Nat → Nat} {l : Nat} {τ : Nat × Nat × Nat} (h : ∀ j, j < 9 → pz_TI.getD j 9 = l → ¬ (τ.1 = 3 ∧ B τ.2.1 = pz_sg j)) : pz_jl B l τ = none := by
  cases hj : pz_jl B l τ with
  | none => rfl
  | some j =>
    have a := pz_jl3 hj
    exfalso
    refine h j a.2.2.1 a.2.2.2 ⟨a.1, ?_⟩
    have b := pz_ixnL _ _ _ _ a.2.1
    have c := b.2.2
    rw [Nat.sub_zero] at c
    unfold pz_sg
    have : j = 0 ∨ j = 1 ∨ j = 2 ∨ j = 3 ∨ j = 4 ∨ j = 5 ∨ j = 6 ∨ j = 7 ∨ j = 8 := by omega
    rcases this with rfl | rfl | rfl | rfl | rfl | rfl | rfl | rfl | rfl <;> exact (Option.some.inj c).symm
theorem pz_head10 {len key base p q l lv : Nat} {B : Nat → Nat} {rc : Nat → Int32 → kv_H → Option (Int32 × kv_H)} {f : pz_σ → Bool × pz_σ} {L : kv_H → Option (Int32 × kv_H)} {N : Nat} (hf : ∀ (σ : pz_σ) (h : kv_H), pz_tv B len σ.1 → σ.2.1.length ≤ σ.1.2.1 → pz_O10 h B len key base p q σ → pz_R10 B len key base p q (rc lv (nI key) h) (f σ) h) (hrb : ∀ σ : pz_σ, pz_tv B len σ.1 → pz_rb B len key σ (f σ))
    (hL : ∀ (σ : pz_σ) (h : kv_H), 0 < σ.1.2.1 → pz_tv B len σ.1 → σ.2.1.length ≤ σ.1.2.1 → pz_O10 h B len key base p q σ → pz_R10 B len key base p q (L h) (pz_J f B len l N σ) h) (σ : pz_σ) (h : kv_H) (t : pz_tv B len σ.1) (hS : σ.2.1.length ≤ σ.1.2.1) (o : pz_O10 h B len key base p q σ) : pz_R10 B len key base p q (kv_b (rc lv (nI key) h) (fun r2 h1 => if r2 = 0 then (some (0, h1)) else L h1)) (if (f σ).1 = true then pz_J f B len l N (f σ).2 else f σ) h := by
  obtain ⟨h1, y1, y2, y3, y4⟩ := hf σ h t hS o
  obtain ⟨r1, r2, r3, r4, r5⟩ := hrb σ t
  rw [y1, pz_b]
  by_cases z : (f σ).1 = true
  · rw [if_pos z, if_pos z, if_neg (by decide)]
    have := r5 z
    obtain ⟨h', w1, w2, w3, w4⟩ := hL (f σ).2 h1 (by omega) r1 (by omega) (y2 z)
    exact ⟨h', w1, w2, w3, pz_f10t y4 w4⟩
  · rw [if_neg z, if_neg z, if_pos (show nI 0 = (0 : Int32) from rfl)]
    exact ⟨h1, by rw [if_neg z]; rfl, fun w => absurd w z, y3, y4⟩
theorem pz_one10 {h : kv_H} {B : Nat → Nat} {len key base p q c : Nat} {σ : pz_σ} {R C : Option (Int32 × kv_H)} (hl : len ≤ 96) (hB : ∀ k, k < len → B k < 256) (o : pz_O10 h B len key base p q σ) (t : pz_tv B len σ.1) (hc : c < 256) : kv_b (f_X10_isSign (nI c) h) (fun r4 _ => if r4 = 0 then C else R) = if σ.1.1 = 3 ∧ B σ.1.2.1 = c then R else C := by
  rw [pz_signO10 hl hB o t hc, pz_b]
  by_cases z : σ.1.1 = 3 ∧ B σ.1.2.1 = c
  · rw [if_pos z, if_pos z, if_neg (by decide)]
  · rw [if_neg z, if_neg z, if_pos rfl]
theorem pz_lev10 {len key base p q : Nat} {B : Nat → Nat} {rc : Nat → Int32 → kv_H → Option (Int32 × kv_H)} {rs : Nat → pz_σ → Bool × pz_σ} (hb : base ≤ 2898) (hl : len ≤ 96) (hB : ∀ k, k < len → B k < 256) (hrb : ∀ (l : Nat) (σ : pz_σ), pz_tv B len σ.1 → pz_rb B len key σ (rs l σ)) (l : Nat) (hll : l < 5) (hf : ∀ (σ : pz_σ) (h : kv_H), pz_tv B len σ.1 → σ.2.1.length ≤ σ.1.2.1 → pz_O10 h B len key base p q σ → pz_R10 B len key base p q (rc (l + 1) (nI key) h) (rs (l + 1) σ) h) (σ : pz_σ) (h : kv_H) (t : pz_tv B len σ.1) (hS : σ.2.1.length ≤ σ.1.2.1) (o : pz_O10 h B len key base p q σ) : pz_R10 B len key base p q (if l = 0 then f_X10_eitherB rc (nI key) h else if l = 1 then f_X10_bothB rc (nI key) h else if l = 2 then f_X10_testB rc (nI key) h else if l = 3 then f_X10_sumB rc (nI key) h else f_X10_termB rc (nI key) h) (if (rs (l + 1) σ).1 = true then pz_J (rs (l + 1)) B len l (if l = 2 then 1 else 96) (rs (l + 1) σ).2 else rs (l + 1) σ) h := by
  rcases (show l = 0 ∨ l = 1 ∨ l = 2 ∨ l = 3 ∨ l = 4 by omega) with rfl | rfl | rfl | rfl | rfl
  · rw [if_pos rfl, f_X10_eitherB, if_neg (show ¬ (0 : Nat) = 2 by decide)]
    refine pz_head10 (L := fun g => f_X10_eitherB_L10 rc (nI key) kv_fu g (fun h9 => some (1, h9))) hf (hrb 1) ?_ σ h t hS o
    intro σ' h' a0 t' s' o'
    refine pz_loop10 (L := fun fu g => f_X10_eitherB_L10 rc (nI key) fu g (fun h9 => some (1, h9))) hb hl hB hf (hrb 1) ?_ 96 σ' h' kv_fu (by omega) (by rw [show kv_fu = 5000 from rfl]; omega) t' s' o'
    intro fu σ1 h1 t1 o1
    have un : f_X10_eitherB_L10 rc (nI key) (fu + 1) h1 (fun h9 => some (1, h9)) = _ := f_X10_eitherB_L10.eq_2 rc (nI key) h1 (fun h9 => some (1, h9)) fu
    rw [show f_X10_isSign 124 h1 = _ from pz_signO10 (c := 124) hl hB o1 t1 (by omega), pz_b] at un
    by_cases z : σ1.1.1 = 3 ∧ B σ1.1.2.1 = 124
    · have jl : pz_jl B 0 σ1.1 = some 0 := by rw [pz_jlAt (j := 0) (by omega) z.1 z.2]; rfl
      rw [if_pos z, if_neg (by decide)] at un
      refine ⟨fun w => (by rw [jl] at w; cases w), fun j hj => ?_⟩
      rw [jl] at hj; cases hj
      exact un
    · rw [if_neg z, if_pos rfl] at un
      have jn : pz_jl B 0 σ1.1 = none := pz_jlNo (fun j h1 h2 => by
        have : j = 0 ∨ j = 1 ∨ j = 2 ∨ j = 3 ∨ j = 4 ∨ j = 5 ∨ j = 6 ∨ j = 7 ∨ j = 8 := by omega
        rcases this with rfl | rfl | rfl | rfl | rfl | rfl | rfl | rfl | rfl
        · exact z
        all_goals exact absurd h2 (by decide))
      exact ⟨fun _ => un, fun j hj => by rw [jn] at hj; cases hj⟩
  · rw [if_neg (by decide), if_pos rfl, f_X10_bothB, if_neg (show ¬ (1 : Nat) = 2 by decide)]
    refine pz_head10 (L := fun g => f_X10_bothB_L10 rc (nI key) kv_fu g (fun h9 => some (1, h9))) hf (hrb 2) ?_ σ h t hS o
    intro σ' h' a0 t' s' o'
    refine pz_loop10 (L := fun fu g => f_X10_bothB_L10 rc (nI key) fu g (fun h9 => some (1, h9))) hb hl hB hf (hrb 2) ?_ 96 σ' h' kv_fu (by omega) (by rw [show kv_fu = 5000 from rfl]; omega) t' s' o'
    intro fu σ1 h1 t1 o1
    have un : f_X10_bothB_L10 rc (nI key) (fu + 1) h1 (fun h9 => some (1, h9)) = _ := f_X10_bothB_L10.eq_2 rc (nI key) h1 (fun h9 => some (1, h9)) fu
    rw [show f_X10_isSign 38 h1 = _ from pz_signO10 (c := 38) hl hB o1 t1 (by omega), pz_b] at un
    by_cases z : σ1.1.1 = 3 ∧ B σ1.1.2.1 = 38
    · have jl : pz_jl B 1 σ1.1 = some 1 := by rw [pz_jlAt (j := 1) (by omega) z.1 z.2]; rfl
      rw [if_pos z, if_neg (by decide)] at un
      refine ⟨fun w => (by rw [jl] at w; cases w), fun j hj => ?_⟩
      rw [jl] at hj; cases hj
      exact un
    · rw [if_neg z, if_pos rfl] at un
      have jn : pz_jl B 1 σ1.1 = none := pz_jlNo (fun j h1 h2 => by
        have : j = 1 ∨ j = 0 ∨ j = 2 ∨ j = 3 ∨ j = 4 ∨ j = 5 ∨ j = 6 ∨ j = 7 ∨ j = 8 := by omega
        rcases this with rfl | rfl | rfl | rfl | rfl | rfl | rfl | rfl | rfl
        · exact z
        all_goals exact absurd h2 (by decide))
      exact ⟨fun _ => un, fun j hj => by rw [jn] at hj; cases hj⟩
  · rw [if_neg (by decide), if_neg (by decide), if_pos rfl, f_X10_testB, if_pos (show (2 : Nat) = 2 from rfl)]
    refine pz_head10 (L := fun h1 => kv_b (f_X10_isSign 60 h1) (fun r4 h3 =>
    kv_jn (fun  (h5 : kv_H) =>
    kv_vl (h5 111 26) (fun e6 =>
      kv_b (f_X10_nextToken h5) (fun _ h7 =>
      kv_b (rc 3 (nI key) h7) (fun r9 h8 =>
      if r9 = 0 then (some (0, h8))
      else (kv_b (f_X10_step 2 e6 h8) (fun _ h10 =>
        some (1, h10))))))) (fun (J37 : kv_H → Option (Int32 × kv_H)) =>
    if r4 = 0 then (kv_b (f_X10_isSign 61 h3) (fun r12 h11 =>
      if r12 = 0 then (kv_b (f_X10_isSign 62 h11) (fun r14 h13 =>
        if r14 = 0 then (some (1, h13))
        else (J37 h13)))
      else (J37 h11)))
    else (J37 h3)))) hf (hrb 3) ?_ σ h t hS o
    intro σ' h' a0 t' s' o'
    have take : ∀ j, j < 9 → σ'.1.1 = 3 → B σ'.1.2.1 = pz_sg j → pz_TI.getD j 9 = 2 → pz_R10 B len key base p q (kv_vl (h' 111 26) (fun e6 =>
      kv_b (f_X10_nextToken h') (fun _ h7 =>
      kv_b (rc 3 (nI key) h7) (fun r9 h8 =>
      if r9 = 0 then (some (0, h8))
      else (kv_b (f_X10_step 2 e6 h8) (fun _ h10 =>
        some (1, h10))))))) (pz_J (rs 3) B len 2 1 σ') h' := by
      intro j hj s3 sb ti
      have jl : pz_jl B 2 σ'.1 = some j := by rw [pz_jlAt hj s3 sb, if_pos ti]
      have fv := pz_fwV t' (by omega)
      obtain ⟨h1, x1, x2, x3⟩ := pz_advO10 hl hB o' t' (by omega) (by omega)
      obtain ⟨h2, y1, y2, y3, y4⟩ := hf (pz_fw B len σ') h1 fv.1 (by show σ'.2.1.length ≤ (pz_fw B len σ').1.2.1; omega) x2
      have y2 : (rs 3 (pz_fw B len σ')).1 = true → pz_O10 h2 B len key base p q (rs 3 (pz_fw B len σ')).2 := y2
      obtain ⟨r1, r2, r3, r4, r5⟩ := hrb 3 (pz_fw B len σ') fv.1
      have e3 : (pz_fw B len σ').2.1 = σ'.2.1 := rfl
      rw [e3] at r3
      have tl := r1.2.2.1
      have tl2 := r1.2.1
      rw [o'.2.1.2.2.2.1 s3, sb, pz_vl, x1, pz_b, y1, pz_b, pz_J, jl]
      show pz_R10 B len key base p q _ (if (rs 3 (pz_fw B len σ')).1 = true then pz_J (rs 3) B len 2 0 (pz_ad1 (2, j) (rs 3 (pz_fw B len σ')).2) else (rs 3 (pz_fw B len σ'))) h'
      by_cases z : (rs 3 (pz_fw B len σ')).1 = true
      · rw [if_pos z, if_pos z, if_neg (by decide), pz_J]
        obtain ⟨h3, z1, z2, z3⟩ := pz_stepO10 (st := (2, j)) (x1 := 2) (x2 := nI (pz_sg j)) hb (y2 z) (by omega) rfl rfl
        exact ⟨h3, by rw [z1, pz_b]; rfl, fun _ => z2, fun w => (by cases w), pz_f10t x3 (pz_f10t y4 z3)⟩
      · rw [if_neg z, if_neg z, if_pos (show nI 0 = (0 : Int32) from rfl)]
        exact ⟨h2, by rw [if_neg z]; rfl, fun w => absurd w z, y3, pz_f10t x3 y4⟩
    rw [show f_X10_isSign 60 h' = _ from pz_signO10 (c := 60) hl hB o' t' (by omega), pz_b, pz_jn, show f_X10_isSign 61 h' = _ from pz_signO10 (c := 61) hl hB o' t' (by omega), pz_b, show f_X10_isSign 62 h' = _ from pz_signO10 (c := 62) hl hB o' t' (by omega), pz_b]
    by_cases z1 : σ'.1.1 = 3 ∧ B σ'.1.2.1 = 60
    · rw [if_pos z1, if_neg (by decide)]; exact take 2 (by omega) z1.1 z1.2 rfl
    rw [if_neg z1, if_pos rfl]
    by_cases z2 : σ'.1.1 = 3 ∧ B σ'.1.2.1 = 61
    · rw [if_pos z2, if_neg (by decide)]; exact take 3 (by omega) z2.1 z2.2 rfl
    rw [if_neg z2, if_pos rfl]
    by_cases z3 : σ'.1.1 = 3 ∧ B σ'.1.2.1 = 62
    · rw [if_pos z3, if_neg (by decide)]; exact take 4 (by omega) z3.1 z3.2 rfl
    rw [if_neg z3, if_pos rfl]
    have jn : pz_jl B 2 σ'.1 = none := pz_jlNo (fun j h1 h2 => by
      have : j = 2 ∨ j = 3 ∨ j = 4 ∨ j = 0 ∨ j = 1 ∨ j = 5 ∨ j = 6 ∨ j = 7 ∨ j = 8 := by omega
      rcases this with rfl | rfl | rfl | rfl | rfl | rfl | rfl | rfl | rfl
      · exact z1
      · exact z2
      · exact z3
      all_goals exact absurd h2 (by decide))
    rw [pz_J, jn]
    exact ⟨h', rfl, fun _ => o', fun w => (by cases w), pz_f10r base h'⟩
  · rw [if_neg (by decide), if_neg (by decide), if_neg (by decide), if_pos rfl, f_X10_sumB, if_neg (show ¬ (3 : Nat) = 2 by decide)]
    refine pz_head10 (L := fun g => f_X10_sumB_L10 rc (nI key) kv_fu g (fun h9 => some (1, h9))) hf (hrb 4) ?_ σ h t hS o
    intro σ' h' a0 t' s' o'
    refine pz_loop10 (L := fun fu g => f_X10_sumB_L10 rc (nI key) fu g (fun h9 => some (1, h9))) hb hl hB hf (hrb 4) ?_ 96 σ' h' kv_fu (by omega) (by rw [show kv_fu = 5000 from rfl]; omega) t' s' o'
    intro fu σ1 h1 t1 o1
    have un : f_X10_sumB_L10 rc (nI key) (fu + 1) h1 (fun h9 => some (1, h9)) = _ := f_X10_sumB_L10.eq_2 rc (nI key) h1 (fun h9 => some (1, h9)) fu
    rw [show f_X10_isSign 43 h1 = _ from pz_signO10 (c := 43) hl hB o1 t1 (by omega), pz_b, pz_jn, show f_X10_isSign 45 h1 = _ from pz_signO10 (c := 45) hl hB o1 t1 (by omega), pz_b] at un
    by_cases z : σ1.1.1 = 3 ∧ B σ1.1.2.1 = 43
    · have jl : pz_jl B 3 σ1.1 = some 5 := by rw [pz_jlAt (j := 5) (by omega) z.1 z.2]; rfl
      rw [if_pos z, if_neg (by decide)] at un
      dsimp only at un
      rw [o1.2.1.2.2.2.1 z.1, z.2, pz_vl] at un
      refine ⟨fun w => (by rw [jl] at w; cases w), fun j hj => ?_⟩
      rw [jl] at hj; cases hj
      exact un
    rw [if_neg z, if_pos rfl] at un
    by_cases y : σ1.1.1 = 3 ∧ B σ1.1.2.1 = 45
    · have jl : pz_jl B 3 σ1.1 = some 6 := by rw [pz_jlAt (j := 6) (by omega) y.1 y.2]; rfl
      rw [if_pos y, if_neg (by decide)] at un
      dsimp only at un
      rw [o1.2.1.2.2.2.1 y.1, y.2, pz_vl] at un
      refine ⟨fun w => (by rw [jl] at w; cases w), fun j hj => ?_⟩
      rw [jl] at hj; cases hj
      exact un
    rw [if_neg y, if_pos rfl] at un
    have jn : pz_jl B 3 σ1.1 = none := pz_jlNo (fun j h1 h2 => by
      have : j = 5 ∨ j = 6 ∨ j = 0 ∨ j = 1 ∨ j = 2 ∨ j = 3 ∨ j = 4 ∨ j = 7 ∨ j = 8 := by omega
      rcases this with rfl | rfl | rfl | rfl | rfl | rfl | rfl | rfl | rfl
      · exact z
      · exact y
      all_goals exact absurd h2 (by decide))
    exact ⟨fun _ => un, fun j hj => by rw [jn] at hj; cases hj⟩
  · rw [if_neg (by decide), if_neg (by decide), if_neg (by decide), if_neg (by decide), f_X10_termB, if_neg (show ¬ (4 : Nat) = 2 by decide)]
    refine pz_head10 (L := fun g => f_X10_termB_L10 rc (nI key) kv_fu g (fun h9 => some (1, h9))) hf (hrb 5) ?_ σ h t hS o
    intro σ' h' a0 t' s' o'
    refine pz_loop10 (L := fun fu g => f_X10_termB_L10 rc (nI key) fu g (fun h9 => some (1, h9))) hb hl hB hf (hrb 5) ?_ 96 σ' h' kv_fu (by omega) (by rw [show kv_fu = 5000 from rfl]; omega) t' s' o'
    intro fu σ1 h1 t1 o1
    have un : f_X10_termB_L10 rc (nI key) (fu + 1) h1 (fun h9 => some (1, h9)) = _ := f_X10_termB_L10.eq_2 rc (nI key) h1 (fun h9 => some (1, h9)) fu
    rw [show f_X10_isSign 42 h1 = _ from pz_signO10 (c := 42) hl hB o1 t1 (by omega), pz_b, pz_jn, show f_X10_isSign 47 h1 = _ from pz_signO10 (c := 47) hl hB o1 t1 (by omega), pz_b] at un
    by_cases z : σ1.1.1 = 3 ∧ B σ1.1.2.1 = 42
    · have jl : pz_jl B 4 σ1.1 = some 7 := by rw [pz_jlAt (j := 7) (by omega) z.1 z.2]; rfl
      rw [if_pos z, if_neg (by decide)] at un
      dsimp only at un
      rw [o1.2.1.2.2.2.1 z.1, z.2, pz_vl] at un
      refine ⟨fun w => (by rw [jl] at w; cases w), fun j hj => ?_⟩
      rw [jl] at hj; cases hj
      exact un
    rw [if_neg z, if_pos rfl] at un
    by_cases y : σ1.1.1 = 3 ∧ B σ1.1.2.1 = 47
    · have jl : pz_jl B 4 σ1.1 = some 8 := by rw [pz_jlAt (j := 8) (by omega) y.1 y.2]; rfl
      rw [if_pos y, if_neg (by decide)] at un
      dsimp only at un
      rw [o1.2.1.2.2.2.1 y.1, y.2, pz_vl] at un
      refine ⟨fun w => (by rw [jl] at w; cases w), fun j hj => ?_⟩
      rw [jl] at hj; cases hj
      exact un
    rw [if_neg y, if_pos rfl] at un
    have jn : pz_jl B 4 σ1.1 = none := pz_jlNo (fun j h1 h2 => by
      have : j = 7 ∨ j = 8 ∨ j = 0 ∨ j = 1 ∨ j = 2 ∨ j = 3 ∨ j = 4 ∨ j = 5 ∨ j = 6 := by omega
      rcases this with rfl | rfl | rfl | rfl | rfl | rfl | rfl | rfl | rfl
      · exact z
      · exact y
      all_goals exact absurd h2 (by decide))
    exact ⟨fun _ => un, fun j hj => by rw [jn] at hj; cases hj⟩

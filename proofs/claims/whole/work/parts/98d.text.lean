/-! PURE PART: a text is parsed by both -/
theorem pz_anyI (x : Int32) : ∃ a : Nat, x = nI a := ⟨x.toBitVec.toNat, by
  apply Int32.toBitVec_inj.mp
  apply BitVec.eq_of_toNat_eq
  show x.toBitVec.toNat = x.toBitVec.toNat % 4294967296
  rw [Nat.mod_eq_of_lt x.toBitVec.isLt]⟩
def pz_τ1 (B : Nat → Nat) (len : Nat) : Nat × Nat × Nat := pz_nx B len 3 0
def pz_σ0 (B : Nat → Nat) (len : Nat) : pz_σ := (pz_nx B len (pz_τ1 B len).1 (pz_τ1 B len).2.2, [], 0)
def pz_rr (B : Nat → Nat) (len key : Nat) : Bool × pz_σ := pz_P B len key 62 0 0 0 (pz_σ0 B len)
theorem pz_kyB {B : Nat → Nat} {τ : Nat × Nat × Nat} {key : Nat} (h : pz_ky B τ = some key) : key ≤ 2 ∧ τ.1 = 1 := by
  unfold pz_ky at h
  have one : ∀ T, pz_wd B T τ = true → τ.1 = 1 := fun T w => by
    unfold pz_wd at w
    rw [Bool.and_eq_true] at w
    exact of_decide_eq_true w.1
  by_cases z0 : pz_wd B [114, 111, 111, 109] τ = true
  · rw [if_pos z0] at h; cases h; exact ⟨by omega, one _ z0⟩
  rw [if_neg z0] at h
  by_cases z1 : pz_wd B [109, 105, 115, 115] τ = true
  · rw [if_pos z1] at h; cases h; exact ⟨by omega, one _ z1⟩
  rw [if_neg z1] at h
  by_cases z2 : pz_wd B [116, 104, 114, 111, 119] τ = true
  · rw [if_pos z2] at h; cases h; exact ⟨by omega, one _ z2⟩
  rw [if_neg z2] at h; cases h
theorem pz_prs9 {h : kv_H} {len : Nat} {B : Nat → Nat} (l : pz_L9 h len B) (hl : len ≤ 96) (hB : ∀ k, k < len → B k < 256) : ∃ h1 c, f_X5_parse h = some (c, h1) ∧ (∀ a, a ≠ 41 → a ≠ 43 → h1 a = h a) ∧ (pz_ky B (pz_τ1 B len) = none → c = nI (pz_τ1 B len).2.1) ∧ ∀ key, pz_ky B (pz_τ1 B len) = some key → (((pz_rr B len key).1 = true ∧ (pz_rr B len key).2.1.1 = 0) → c = -1 ∧ pz_O9 h1 B len key (pz_rr B len key).2) ∧ (¬ ((pz_rr B len key).1 = true ∧ (pz_rr B len key).2.1.1 = 0) → c = nI (pz_rr B len key).2.1.2.1) := by
  obtain ⟨a0, ea0⟩ := pz_anyI (h 41 7)
  obtain ⟨g, eg⟩ : ∃ g, g = kv_up (kv_up (kv_up (kv_up (kv_up h 41 3 0) 41 5 0) 41 9 (-1)) 41 6 3) 41 8 0 := ⟨_, rfl⟩
  have fa : ∀ a, a ≠ 41 → g a = h a := fun a q => by rw [eg, pz_upne q, pz_upne q, pz_upne q, pz_upne q, pz_upne q]
  have fb : ∀ b, b ≠ 3 → b ≠ 5 → b ≠ 9 → b ≠ 6 → b ≠ 8 → g 41 b = h 41 b := fun b q1 q2 q3 q4 q5 => by rw [eg, pz_upeq, pz_upd, if_neg q5, pz_upeq, pz_upd, if_neg q4, pz_upeq, pz_upd, if_neg q3, pz_upeq, pz_upd, if_neg q2, pz_upeq, pz_upd, if_neg q1]
  have g8 : g 41 8 = 0 := by rw [eg, pz_upeq, pz_upd, if_pos rfl]
  have g6 : g 41 6 = 3 := by rw [eg]; simp (disch := omega) only [pz_upne, pz_upeq, pz_upd, if_neg, if_pos, if_true, if_false]
  have g9 : g 41 9 = -1 := by rw [eg]; simp (disch := omega) only [pz_upne, pz_upeq, pz_upd, if_neg, if_pos, if_true, if_false]
  have g5 : g 41 5 = 0 := by rw [eg]; simp (disch := omega) only [pz_upne, pz_upeq, pz_upd, if_neg, if_pos, if_true, if_false]
  have g3 : g 41 3 = 0 := by rw [eg]; simp (disch := omega) only [pz_upne, pz_upeq, pz_upd, if_neg, if_pos, if_true, if_false]
  have lg : pz_L9 g len B := ⟨by rw [fb 1 (by omega) (by omega) (by omega) (by omega) (by omega)]; exact l.1, fun k hk => by rw [fa 42 (by omega)]; exact l.2 k hk⟩
  obtain ⟨k, x1, x2, x3, x4⟩ := pz_adv9 (τ := (3, a0, 0)) lg hl hB ⟨g6, by rw [fb 7 (by omega) (by omega) (by omega) (by omega) (by omega)]; exact ea0, g8⟩ (by show 3 ≤ 4; omega) (Nat.zero_le _)
  have tv1 := pz_nxV B (len := len) (s := 3) (e := 0) (Nat.zero_le _)
  have x2 : pz_t9 k (pz_τ1 B len) := x2
  have tv1 : pz_tv B len (pz_τ1 B len) := tv1.1
  have lk : pz_L9 k len B := ⟨by rw [x4 1 (by omega) (by omega) (by omega)]; exact lg.1, fun j hj => by rw [x3 42 (by omega)]; exact lg.2 j hj⟩
  have ky := pz_key9 lk hl hB x2 tv1.1 ⟨tv1.2.1, tv1.2.2.1⟩
  obtain ⟨m, em⟩ : ∃ m, m = kv_up k 41 4 (pz_pl10 (pz_ky B (pz_τ1 B len))) := ⟨_, rfl⟩
  have fma : ∀ a, a ≠ 41 → m a = h a := fun a q => by rw [em, pz_upne q, x3 a q, fa a q]
  have fmb : ∀ b, b ≠ 4 → m 41 b = k 41 b := fun b q => by rw [em, pz_upeq, pz_upd, if_neg q]
  have m4 : m 41 4 = pz_pl10 (pz_ky B (pz_τ1 B len)) := by rw [em, pz_upeq, pz_upd, if_pos rfl]
  have lm : pz_L9 m len B := ⟨by rw [fmb 1 (by omega)]; exact lk.1, fun j hj => by rw [em, pz_upne (by omega)]; exact lk.2 j hj⟩
  have st : f_X5_parse h = (if 0 ≤ (m 41 4) then (kv_b (f_X5_advance m) (fun _ h10 =>
    kv_b (f_X5_parseJoined 100 0 0 0 h10) (fun _ h11 =>
    if (h11 41 6) = 0 then (some ((h11 41 9), h11))
    else (kv_b (f_X5_fail h11) (fun _ h12 =>
      some ((h12 41 9), h12))))))
  else (kv_b (f_X5_fail m) (fun _ h13 =>
    some ((h13 41 9), h13)))) := by
    rw [f_X5_parse, pz_hl, pz_hl, pz_hl, pz_hl, pz_hl, ← eg, x1, pz_b, ky, pz_b, pz_hl, ← em]
  rw [st, m4]
  have o1 : ∀ key, m 41 4 = nI key → pz_O9 m B len key (pz_τ1 B len, [], 0) := fun key e4 => ⟨lm, ⟨by rw [fmb 6 (by omega)]; exact x2.1, by rw [fmb 7 (by omega)]; exact x2.2.1, by rw [fmb 8 (by omega)]; exact x2.2.2⟩, ⟨by rw [fmb 3 (by omega), x4 3 (by omega) (by omega) (by omega), g3]; rfl, fun i st hi => by cases hi⟩, by rw [fmb 5 (by omega), x4 5 (by omega) (by omega) (by omega), g5]; rfl, by rw [fmb 9 (by omega), x4 9 (by omega) (by omega) (by omega), g9], e4⟩
  cases hky : pz_ky B (pz_τ1 B len) with
  | none =>
    rw [if_neg (show ¬ (0 : Int32) ≤ pz_pl10 none by decide)]
    have m9 : m 41 9 = -1 := by rw [fmb 9 (by omega), x4 9 (by omega) (by omega) (by omega), g9]
    have m7 : m 41 7 = nI (pz_τ1 B len).2.1 := by rw [fmb 7 (by omega)]; exact x2.2.1
    refine ⟨kv_up (kv_up m 41 9 (nI (pz_τ1 B len).2.1)) 41 6 0, nI (pz_τ1 B len).2.1, ?_, fun a q1 q2 => by rw [pz_upne q1, pz_upne q1, fma a q1], fun _ => rfl, fun key w => by cases w⟩
    rw [f_X5_fail, pz_jn, m9, if_neg (by decide), m7, pz_hl]
    dsimp only
    rw [pz_hl, pz_b, pz_upeq, pz_upd, if_neg (by omega), pz_upeq, pz_upd, if_pos rfl]
  | some key =>
    have kb := pz_kyB hky
    rw [if_pos (show (0 : Int32) ≤ pz_pl10 (some key) from pz_g0 (by omega))]
    have o := o1 key (by rw [m4, hky]; rfl)
    obtain ⟨h1, y1, y2, y3⟩ := pz_advO9 hl hB o tv1
    have fv := pz_fwV (σ := (pz_τ1 B len, [], 0)) tv1 (by show ¬ (pz_τ1 B len).1 = 0; omega)
    obtain ⟨h2, z1, z2, z3, z4⟩ := (pz_parse9 kb.1 hl hB 62).2 0 0 0 100 (pz_σ0 B len) h1 (by omega) (by omega) (by omega) (by omega) (by omega) fv.1 (Nat.zero_le _) y2
    have rb := pz_rbP kb.1 hB 62 0 0 0 (pz_σ0 B len) fv.1
    have z1 : f_pj 100 0 0 0 0 h1 = some ((), h2) := z1
    have fr2 : ∀ a, a ≠ 41 → a ≠ 43 → h2 a = h a := fun a q1 q2 => by rw [z4 a q1 q2, y3 a q1, fma a q1]
    rw [y1, pz_b, f_X5_parseJoined, z1, pz_b]
    by_cases w : (pz_rr B len key).1 = true
    · have o2 : pz_O9 h2 B len key (pz_rr B len key).2 := z2 w
      have sb := rb.1.1
      by_cases u : (pz_rr B len key).2.1.1 = 0
      · refine ⟨h2, -1, ?_, fr2, fun v => (by cases v), fun key' hk' => ?_⟩
        · rw [o2.2.1.1, u, if_pos (show nI 0 = (0 : Int32) from rfl), o2.2.2.2.2.1]
        · cases hk'
          exact ⟨fun _ => ⟨rfl, o2⟩, fun v => absurd ⟨w, u⟩ v⟩
      · obtain ⟨h3, v1, v2, v3⟩ := pz_failO9 hl o2 rb.1 (by have := rb.2.2.1; have := rb.1.2.1; have := rb.1.2.2.1; show (pz_P B len key 62 0 0 0 (pz_σ0 B len)).2.2.1.length ≤ 96; have e0 : (pz_σ0 B len).2.1.length = 0 := rfl; omega)
        refine ⟨h3, nI (pz_rr B len key).2.1.2.1, ?_, fun a q1 q2 => by rw [v3 a q1, fr2 a q1 q2], fun v => (by cases v), fun key' hk' => ?_⟩
        · rw [o2.2.1.1, if_neg (show ¬ nI (pz_rr B len key).2.1.1 = (0 : Int32) from fun v => u ((nI_eq (b := 0) (by have : (pz_rr B len key).2.1.1 ≤ 4 := sb; omega) (by omega)).mp v)), v1, pz_b, v2.2.1]
        · cases hk'
          exact ⟨fun v => absurd v.2 u, fun _ => rfl⟩
    · have wz : (pz_rr B len key).1 = false := by simpa using w
      have xf : pz_X9f h2 (pz_rr B len key).2.1.2.1 := z3 wz
      refine ⟨h2, nI (pz_rr B len key).2.1.2.1, ?_, fr2, fun v => (by cases v), fun key' hk' => ?_⟩
      · rw [xf.1, if_pos rfl, xf.2.1]
      · cases hk'
        exact ⟨fun v => absurd v.1 w, fun _ => rfl⟩
theorem pz_prs10 {h : kv_H} {len t : Nat} {B : Nat → Nat} (l : pz_L10 h len B) (hl : len ≤ 96) (hB : ∀ k, k < len → B k < 256) (ht : t ≤ 14) (e1 : h 112 1 = nI t) : ∃ h1 c, f_X10_parse h = some (c, h1) ∧ h1 111 21 = 0 ∧ (∀ a, a ≠ 111 → a ≠ 112 → h1 a = h a) ∧ (∀ b, b < 21 ∨ 31 < b → h1 111 b = h 111 b) ∧ (∀ b, b < (if t = 14 then 2898 else 102 + 200 * t) ∨ (if t = 14 then 2898 else 102 + 200 * t) + 200 ≤ b → h1 112 b = h 112 b) ∧ (pz_ky B (pz_τ1 B len) = none → c = -1 ∧ h1 111 22 = nI (pz_τ1 B len).2.1) ∧ ∀ key, pz_ky B (pz_τ1 B len) = some key → (((pz_rr B len key).1 = true ∧ (pz_rr B len key).2.1.1 = 0) → c = nI key ∧ h1 111 29 = nI (pz_rr B len key).2.2.1.length ∧ h1 111 31 = nI (pz_rr B len key).2.2.2 ∧ ∀ i st, (pz_rr B len key).2.2.1[i]? = some st → h1 112 ((if t = 14 then 2898 else 102 + 200 * t) + 2 * i) = nI st.1 ∧ h1 112 ((if t = 14 then 2898 else 102 + 200 * t) + 2 * i + 1) = nI (pz_mv key st)) ∧ (¬ ((pz_rr B len key).1 = true ∧ (pz_rr B len key).2.1.1 = 0) → c = -1 ∧ h1 111 22 = nI (pz_rr B len key).2.1.2.1) := by
  obtain ⟨base, eb⟩ : ∃ base, base = (if t = 14 then 2898 else 102 + 200 * t) := ⟨_, rfl⟩
  have bb : base ≤ 2898 := by rw [eb]; split <;> omega
  rw [← eb]
  obtain ⟨g, eg⟩ : ∃ g, g = kv_up (kv_up (kv_up (kv_up (kv_up (kv_up (kv_up h 111 23 0) 111 24 3) 111 27 0) 111 28 0) 111 29 0) 111 31 0) 111 30 (nI base) := ⟨_, rfl⟩
  have fa : ∀ a, a ≠ 111 → g a = h a := fun a q => by rw [eg, pz_upne q, pz_upne q, pz_upne q, pz_upne q, pz_upne q, pz_upne q, pz_upne q]
  have fb : ∀ b, b < 22 ∨ 31 < b → g 111 b = h 111 b := fun b q => by rw [eg]; simp (disch := omega) only [pz_upne, pz_upeq, pz_upd, if_neg, if_pos, if_true, if_false]
  have g23 : g 111 23 = 0 := by rw [eg]; simp (disch := omega) only [pz_upne, pz_upeq, pz_upd, if_neg, if_pos, if_true, if_false]
  have g24 : g 111 24 = 3 := by rw [eg]; simp (disch := omega) only [pz_upne, pz_upeq, pz_upd, if_neg, if_pos, if_true, if_false]
  have g27 : g 111 27 = 0 := by rw [eg]; simp (disch := omega) only [pz_upne, pz_upeq, pz_upd, if_neg, if_pos, if_true, if_false]
  have g28 : g 111 28 = 0 := by rw [eg]; simp (disch := omega) only [pz_upne, pz_upeq, pz_upd, if_neg, if_pos, if_true, if_false]
  have g29 : g 111 29 = 0 := by rw [eg]; simp (disch := omega) only [pz_upne, pz_upeq, pz_upd, if_neg, if_pos, if_true, if_false]
  have g31 : g 111 31 = 0 := by rw [eg]; simp (disch := omega) only [pz_upne, pz_upeq, pz_upd, if_neg, if_pos, if_true, if_false]
  have g30 : g 111 30 = nI base := by rw [eg]; simp (disch := omega) only [pz_upne, pz_upeq, pz_upd, if_neg, if_pos, if_true, if_false]
  have lg : pz_L10 g len B := ⟨by rw [fb 21 (by omega)]; exact l.1, fun k hk => by rw [fa 130 (by omega)]; exact l.2 k hk⟩
  obtain ⟨k, x1, x2, x3, x4⟩ := pz_adv10g (s := 3) (e := 0) lg hl hB g23 g24 (by omega) (Nat.zero_le _) (by omega)
  have tv1 := (pz_nxV B (len := len) (s := 3) (e := 0) (Nat.zero_le _)).1
  have x2 : pz_t10 k B (pz_τ1 B len) := x2
  have tv1 : pz_tv B len (pz_τ1 B len) := tv1
  have lk : pz_L10 k len B := ⟨by rw [x4 21 (by omega)]; exact lg.1, fun j hj => by rw [x3 130 (by omega)]; exact lg.2 j hj⟩
  have ky := pz_key10 lk hl hB x2 tv1.1 ⟨tv1.2.1, tv1.2.2.1⟩
  have fka : ∀ a, a ≠ 111 → k a = h a := fun a q => by rw [x3 a q, fa a q]
  have st : f_X10_parse h = kv_jn (fun (y13 : Int32) (h14 : kv_H) =>
    kv_jn (fun (x15 : Int32) (h16 : kv_H) =>
      kv_hl (kv_up h16 111 21 0) (fun h17 =>
        if x15 = 0 then (some ((-1), h17))
        else (some (pz_pl10 (pz_ky B (pz_τ1 B len)), h17)))) (fun (J111 : Int32 → kv_H → Option (Int32 × kv_H)) =>
      if y13 = 0 then (J111 y13 h14)
      else (kv_b (f_X10_nextToken h14) (fun _ h18 =>
        kv_b (f_X10_either 100 (pz_pl10 (pz_ky B (pz_τ1 B len))) h18) (fun r20 h19 =>
        if r20 = 0 then (J111 0 h19)
        else (if (h19 111 24) = 0 then (J111 1 h19)
          else (J111 0 h19))))))) (fun (J81 : Int32 → kv_H → Option (Int32 × kv_H)) =>
    if pz_pl10 (pz_ky B (pz_τ1 B len)) < 0 then (J81 0 k)
    else (J81 1 k)) := by
    rw [f_X10_parse, pz_hl, pz_hl, pz_hl, pz_hl, pz_hl, pz_hl, pz_jn]
    obtain ⟨h6, eh6⟩ : ∃ h6, h6 = kv_up (kv_up (kv_up (kv_up (kv_up (kv_up h 111 23 0) 111 24 3) 111 27 0) 111 28 0) 111 29 0) 111 31 0 := ⟨_, rfl⟩
    have e6 : h6 112 1 = nI t := by rw [eh6]; simp (disch := omega) only [pz_upne, pz_upeq, pz_upd, if_neg, if_pos, if_true, if_false]; exact e1
    rw [← eh6] at eg
    rw [← eh6, e6]
    by_cases z : t = 14
    · rw [if_pos (show (14 : Int32) ≤ nI t from nI_le (a := 14) (by omega) (by omega))]
      dsimp only
      rw [pz_hl, show kv_up h6 111 30 2898 = g from by rw [eg, eb, if_pos z]; rfl, x1, pz_b, ky, pz_b]
    · rw [if_neg (show ¬ (14 : Int32) ≤ nI t from nI_ge (b := 14) (by omega) (by omega)), f_X10_textAt, pz_b]
      dsimp only
      rw [pz_hl, show (98 : Int32) + 200 * nI t + 4 = nI base from by rw [show (200 : Int32) = nI 200 from rfl, pz_mul, show (98 : Int32) = nI 98 from rfl, pz_add, show (4 : Int32) = nI 4 from rfl, pz_add, eb, if_neg z]; congr 1; omega, ← eg, x1, pz_b, ky, pz_b]
  rw [st, pz_jn]
  have fin : ∀ (x : Int32) (c : Int32) (h9 : kv_H), (if x = 0 then -1 else pz_pl10 (pz_ky B (pz_τ1 B len))) = c → (kv_hl (kv_up h9 111 21 0) (fun h17 => if x = 0 then (some ((-1), h17)) else (some (pz_pl10 (pz_ky B (pz_τ1 B len)), h17)))) = some (c, kv_up h9 111 21 0) := fun x c h9 e => by
    rw [pz_hl, ← e]
    by_cases w : x = 0
    · rw [if_pos w, if_pos w]
    · rw [if_neg w, if_neg w]
  have u21 : ∀ (h9 : kv_H) (b : Nat), b ≠ 21 → kv_up h9 111 21 0 111 b = h9 111 b := fun h9 b q => by rw [pz_upeq, pz_upd, if_neg q]
  cases hky : pz_ky B (pz_τ1 B len) with
  | none =>
    rw [if_pos (show pz_pl10 none < 0 by decide)]
    dsimp only
    rw [pz_jn, if_pos rfl]
    rw [hky] at fin
    refine ⟨kv_up k 111 21 0, -1, fin 0 (-1) k rfl, by rw [pz_upeq, pz_upd, if_pos rfl], fun a q1 q2 => by rw [pz_upne q1, fka a q1], fun b q => by rw [u21 k b (by omega), x4 b (by omega), fb b (by omega)], fun b _ => by rw [pz_upne (by omega), fka 112 (by omega)], fun _ => ⟨rfl, by rw [u21 k 22 (by omega)]; exact x2.1⟩, fun key w => by cases w⟩
  | some key =>
    have kb := pz_kyB hky
    rw [if_neg (show ¬ pz_pl10 (some key) < 0 from pz_ng (by omega))]
    dsimp only
    rw [pz_jn, if_neg (by decide)]
    rw [hky] at fin
    have o : pz_O10 k B len key base 0 0 (pz_τ1 B len, [], 0) := ⟨lk, x2, ⟨by rw [x4 29 (by omega), g29]; rfl, by rw [x4 30 (by omega), g30], fun i st hi => by cases hi⟩, by rw [x4 31 (by omega), g31]; rfl, by rw [x4 27 (by omega), g27]; rfl, by rw [x4 28 (by omega), g28]; rfl⟩
    obtain ⟨h1, y1, y2, y3⟩ := pz_advO10 hl hB o tv1 (by show ¬ (pz_τ1 B len).1 = 0; omega) (by show (pz_τ1 B len).1 = 2 → _; omega)
    have fv := pz_fwV (σ := (pz_τ1 B len, [], 0)) tv1 (by show ¬ (pz_τ1 B len).1 = 0; omega)
    obtain ⟨h2, z1, z2, z3, z4⟩ := pz_parse10 bb kb.1 hl hB 62 0 0 0 100 (pz_σ0 B len) h1 (by omega) (by omega) (by omega) (by omega) (by omega) fv.1 (Nat.zero_le _) y2
    have rb := pz_rbP kb.1 hB 62 0 0 0 (pz_σ0 B len) fv.1
    have z1 : f_ex 100 0 (nI key) h1 = some (nI (if (pz_rr B len key).1 = true then 1 else 0), h2) := z1
    have ff := pz_f10t y3 z4
    have q1' : ∀ a, a ≠ 111 → a ≠ 112 → kv_up h2 111 21 0 a = h a := fun a q1 q2 => by rw [pz_upne q1, ff.1 a q1 q2, fka a q1]
    have q2' : ∀ b, b < 21 ∨ 31 < b → kv_up h2 111 21 0 111 b = h 111 b := fun b q => by rw [u21 h2 b (by omega), ff.2.1 b (by omega), x4 b (by omega), fb b (by omega)]
    have q3' : ∀ b, b < base ∨ base + 200 ≤ b → kv_up h2 111 21 0 112 b = h 112 b := fun b q => by rw [pz_upne (by omega), ff.2.2 b q, fka 112 (by omega)]
    rw [show pz_pl10 (some key) = nI key from rfl] at fin ⊢
    rw [y1, pz_b, f_X10_either, z1, pz_b]
    by_cases w : (pz_rr B len key).1 = true
    · have o2 : pz_O10 h2 B len key base 0 0 (pz_rr B len key).2 := z2 w
      have sb : (pz_rr B len key).2.1.1 ≤ 4 := rb.1.1
      have m0 : pz_msr (pz_rr B len key).2.1 = 0 ↔ (pz_rr B len key).2.1.1 = 0 := by
        unfold pz_msr
        by_cases v : (pz_rr B len key).2.1.1 = 2 ∧ 4 < (pz_rr B len key).2.1.2.2 - (pz_rr B len key).2.1.2.1
        · rw [if_pos v]; omega
        · rw [if_neg v]
      have mb : pz_msr (pz_rr B len key).2.1 ≤ 4 := by unfold pz_msr; split <;> omega
      rw [if_pos w, if_neg (by decide), o2.2.1.2.2.1]
      by_cases u : (pz_rr B len key).2.1.1 = 0
      · rw [if_pos (show nI (pz_msr (pz_rr B len key).2.1) = (0 : Int32) by rw [m0.mpr u]; rfl)]
        refine ⟨kv_up h2 111 21 0, nI key, fin 1 (nI key) h2 (if_neg (by decide)), by rw [pz_upeq, pz_upd, if_pos rfl], q1', q2', q3', fun v => (by cases v), fun key' hk' => ?_⟩
        cases hk'
        refine ⟨fun _ => ⟨rfl, by rw [u21 h2 29 (by omega)]; exact o2.2.2.1.1, by rw [u21 h2 31 (by omega)]; exact o2.2.2.2.1, fun i st hi => by rw [pz_upne (by omega)]; exact o2.2.2.1.2.2 i st hi⟩, fun v => absurd ⟨w, u⟩ v⟩
      · rw [if_neg (show ¬ nI (pz_msr (pz_rr B len key).2.1) = (0 : Int32) from fun v => u (m0.mp ((nI_eq (b := 0) (by omega) (by omega)).mp v)))]
        refine ⟨kv_up h2 111 21 0, -1, fin 0 (-1) h2 rfl, by rw [pz_upeq, pz_upd, if_pos rfl], q1', q2', q3', fun v => (by cases v), fun key' hk' => ?_⟩
        cases hk'
        exact ⟨fun v => absurd v.2 u, fun _ => ⟨rfl, by rw [u21 h2 22 (by omega)]; exact o2.2.1.1⟩⟩
    · have wz : (pz_rr B len key).1 = false := by simpa using w
      have xf : h2 111 22 = nI (pz_rr B len key).2.1.2.1 := z3 wz
      rw [if_neg w, if_pos (show nI 0 = (0 : Int32) from rfl)]
      refine ⟨kv_up h2 111 21 0, -1, fin 0 (-1) h2 rfl, by rw [pz_upeq, pz_upd, if_pos rfl], q1', q2', q3', fun v => (by cases v), fun key' hk' => ?_⟩
      cases hk'
      exact ⟨fun v => absurd v.1 w, fun _ => ⟨rfl, by rw [u21 h2 22 (by omega)]; exact xf⟩⟩

/-! PURE PART: the class parses -/
def pz_S9 (h : kv_H) (S : List (Nat × Nat)) : Prop := h 41 3 = nI S.length ∧ ∀ i st, S[i]? = some st → h 43 i = nI (pz_enc st)
def pz_O9 (h : kv_H) (B : Nat → Nat) (len key : Nat) (σ : pz_σ) : Prop := pz_L9 h len B ∧ pz_t9 h σ.1 ∧ pz_S9 h σ.2.1 ∧ h 41 5 = nI σ.2.2 ∧ h 41 9 = -1 ∧ h 41 4 = nI key
def pz_X9f (h : kv_H) (a : Nat) : Prop := h 41 6 = 0 ∧ h 41 9 = nI a ∧ ∃ m, m ≤ 96 ∧ h 41 3 = nI m
def pz_R9 (B : Nat → Nat) (len key : Nat) (F : Option (Unit × kv_H)) (r : Bool × pz_σ) (h : kv_H) : Prop := ∃ h', F = some ((), h') ∧ (r.1 = true → pz_O9 h' B len key r.2) ∧ (r.1 = false → pz_X9f h' r.2.1.2.1) ∧ ∀ a, a ≠ 41 → a ≠ 43 → h' a = h a
theorem pz_cd0 {v : Nat} (hv : v ≤ 9999) : ((nI v <<< ((4 : Int32) &&& 31)) ||| 10) = nI (16 * v + 10) := by
  have : ∀ a b : Fin 100, ((nI (100 * a.val + b.val) <<< ((4 : Int32) &&& 31)) ||| 10) = nI (16 * (100 * a.val + b.val) + 10) := by decide +kernel
  have := this ⟨v / 100, by omega⟩ ⟨v % 100, by omega⟩
  dsimp only at this
  rw [show 100 * (v / 100) + v % 100 = v from by omega] at this; exact this
theorem pz_cd1 {v : Nat} (hv : v < 4) : ((nI v <<< ((4 : Int32) &&& 31)) ||| 11) = nI (16 * v + 11) := by
  have : ∀ v : Fin 4, ((nI v.val <<< ((4 : Int32) &&& 31)) ||| 11) = nI (16 * v.val + 11) := by decide +kernel
  exact this ⟨v, by omega⟩
theorem pz_cd2 {j : Nat} (hj : j < 10) : (((0 : Int32) <<< ((4 : Int32) &&& 31)) ||| nI j) = nI j := by
  have : ∀ v : Fin 10, (((0 : Int32) <<< ((4 : Int32) &&& 31)) ||| nI v.val) = nI v.val := by decide +kernel
  exact this ⟨j, hj⟩
theorem pz_lt1 {α : Type} {x t : α} {i : Nat} (h : [x][i]? = some t) : i < 1 := by
  obtain ⟨q, _⟩ := List.getElem?_eq_some_iff.mp h
  simpa using q
theorem pz_step9 {h : kv_H} {S : List (Nat × Nat)} {st : Nat × Nat} {x1 x2 : Int32} (s : pz_S9 h S) (hS : S.length < 96) (hc : ((x2 <<< ((4 : Int32) &&& 31)) ||| x1) = nI (pz_enc st)) : ∃ h', f_X5_addStep x1 x2 h = some ((), h') ∧ pz_S9 h' (S ++ [st]) ∧ (∀ a, a ≠ 41 → a ≠ 43 → h' a = h a) ∧ ∀ b, b ≠ 3 → h' 41 b = h 41 b := by
  refine ⟨kv_up (kv_up h 43 S.length (nI (pz_enc st))) 41 3 (nI (S.length + 1)), ?_, ⟨?_, ?_⟩, ?_, ?_⟩
  · rw [f_X5_addStep, s.1, if_neg (show ¬ (96 : Int32) ≤ nI S.length from nI_ge (b := 96) hS (by omega)), pz_kN hS (by omega), pz_hl, pz_cl (by omega), hc, pz_upne (by omega), s.1, nI_1, pz_hl]
  · rw [pz_upeq, pz_upd, if_pos rfl, List.length_append]; rfl
  · intro i t hi
    rw [pz_upne (by omega), pz_upeq, pz_upd]
    by_cases z : i < S.length
    · rw [List.getElem?_append_left z] at hi
      rw [if_neg (by omega)]; exact s.2 i t hi
    · rw [List.getElem?_append_right (by omega)] at hi
      have : i - S.length = 0 := by
        have := pz_lt1 hi
        omega
      rw [this] at hi
      cases hi
      rw [if_pos (by omega)]
  · intro a q1 q2; rw [pz_upne q1, pz_upne q2]
  · intro b q; rw [pz_upeq, pz_upd, if_neg q, pz_upne (by omega)]
theorem pz_stepF {h : kv_H} {a : Nat} (x1 x2 : Int32) (f : pz_X9f h a) : ∃ h', f_X5_addStep x1 x2 h = some ((), h') ∧ pz_X9f h' a ∧ ∀ c, c ≠ 41 → c ≠ 43 → h' c = h c := by
  obtain ⟨f1, f2, m, f3, f4⟩ := f
  by_cases z : m = 96
  · refine ⟨h, ?_, ⟨f1, f2, m, f3, f4⟩, fun _ _ _ => rfl⟩
    rw [f_X5_addStep, f4, if_pos (by rw [z]; decide)]
  · refine ⟨kv_up (kv_up h 43 m ((x2 <<< ((4 : Int32) &&& 31)) ||| x1)) 41 3 (nI (m + 1)), ?_, ⟨?_, ?_, m + 1, by omega, ?_⟩, fun c q1 q2 => by rw [pz_upne q1, pz_upne q2]⟩
    · rw [f_X5_addStep, f4, if_neg (show ¬ (96 : Int32) ≤ nI m from nI_ge (b := 96) (by omega) (by omega)), pz_kN (by omega) (by omega), pz_hl, pz_cl (by omega), pz_upne (by omega), f4, nI_1, pz_hl]
    · rw [pz_upeq, pz_upd, if_neg (by omega), pz_upne (by omega)]; exact f1
    · rw [pz_upeq, pz_upd, if_neg (by omega), pz_upne (by omega)]; exact f2
    · rw [pz_upeq, pz_upd, if_pos rfl]
theorem pz_advO9 {h : kv_H} {len key : Nat} {B : Nat → Nat} {σ : pz_σ} (hl : len ≤ 96) (hB : ∀ k, k < len → B k < 256) (o : pz_O9 h B len key σ) (t : pz_tv B len σ.1) : ∃ h', f_X5_advance h = some ((), h') ∧ pz_O9 h' B len key (pz_fw B len σ) ∧ ∀ a, a ≠ 41 → h' a = h a := by
  obtain ⟨o1, o2, o3, o4, o5, o6⟩ := o
  obtain ⟨h', x1, x2, x3, x4⟩ := pz_adv9 o1 hl hB o2 t.1 t.2.2.1
  refine ⟨h', x1, ⟨⟨by rw [x4 1 (by omega) (by omega) (by omega)]; exact o1.1, fun k hk => by rw [x3 42 (by omega)]; exact o1.2 k hk⟩, x2, ⟨by rw [x4 3 (by omega) (by omega) (by omega)]; exact o3.1, fun i st hi => by rw [x3 43 (by omega)]; exact o3.2 i st hi⟩, by rw [x4 5 (by omega) (by omega) (by omega)]; exact o4, by rw [x4 9 (by omega) (by omega) (by omega)]; exact o5, by rw [x4 4 (by omega) (by omega) (by omega)]; exact o6⟩, x3⟩
theorem pz_stepO9 {h : kv_H} {len key : Nat} {B : Nat → Nat} {σ : pz_σ} {st : Nat × Nat} {x1 x2 : Int32} (o : pz_O9 h B len key σ) (hS : σ.2.1.length < 96) (hc : ((x2 <<< ((4 : Int32) &&& 31)) ||| x1) = nI (pz_enc st)) : ∃ h', f_X5_addStep x1 x2 h = some ((), h') ∧ pz_O9 h' B len key (pz_ad1 st σ) ∧ ∀ a, a ≠ 41 → a ≠ 43 → h' a = h a := by
  obtain ⟨o1, o2, o3, o4, o5, o6⟩ := o
  obtain ⟨h', x1, x2, x3, x4⟩ := pz_step9 o3 hS hc
  refine ⟨h', x1, ⟨⟨by rw [x4 1 (by omega)]; exact o1.1, fun k hk => by rw [x3 42 (by omega) (by omega)]; exact o1.2 k hk⟩, ⟨by rw [x4 6 (by omega)]; exact o2.1, by rw [x4 7 (by omega)]; exact o2.2.1, by rw [x4 8 (by omega)]; exact o2.2.2⟩, x2, by rw [x4 5 (by omega)]; exact o4, by rw [x4 9 (by omega)]; exact o5, by rw [x4 4 (by omega)]; exact o6⟩, x3⟩
theorem pz_give9 {h : kv_H} {len key : Nat} {B : Nat → Nat} {σ : pz_σ} {st : Nat × Nat} {x1 x2 : Int32} (hl : len ≤ 96) (hB : ∀ k, k < len → B k < 256) (o : pz_O9 h B len key σ) (t : pz_tv B len σ.1) (hS : σ.2.1.length < 96) (hc : ((x2 <<< ((4 : Int32) &&& 31)) ||| x1) = nI (pz_enc st)) : ∃ h', f_X5_addGiver x1 x2 h = some ((), h') ∧ pz_O9 h' B len key (pz_gi B len st σ) ∧ ∀ a, a ≠ 41 → a ≠ 43 → h' a = h a := by
  obtain ⟨h1, y1, y2, y3⟩ := pz_stepO9 o hS hc
  obtain ⟨o1, o2, o3, o4, o5, o6⟩ := y2
  obtain ⟨g, eg⟩ : ∃ g, g = kv_up h1 41 5 (nI (σ.2.2 + 1)) := ⟨_, rfl⟩
  have og : pz_O9 g B len key (σ.1, σ.2.1 ++ [st], σ.2.2 + 1) := by
    have f : ∀ b, b ≠ 5 → g 41 b = h1 41 b := fun b q => by rw [eg, pz_upeq, pz_upd, if_neg q]
    have fa : ∀ a, a ≠ 41 → g a = h1 a := fun a q => by rw [eg, pz_upne q]
    refine ⟨⟨by rw [f 1 (by omega)]; exact o1.1, fun k hk => by rw [fa 42 (by omega)]; exact o1.2 k hk⟩, ⟨by rw [f 6 (by omega)]; exact o2.1, by rw [f 7 (by omega)]; exact o2.2.1, by rw [f 8 (by omega)]; exact o2.2.2⟩, ⟨by rw [f 3 (by omega)]; exact o3.1, fun i st' hi => by rw [fa 43 (by omega)]; exact o3.2 i st' hi⟩, by rw [eg, pz_upeq, pz_upd, if_pos rfl], by rw [f 9 (by omega)]; exact o5, by rw [f 4 (by omega)]; exact o6⟩
  obtain ⟨h', x1, x2, x3⟩ := pz_advO9 (σ := (σ.1, σ.2.1 ++ [st], σ.2.2 + 1)) hl hB og t
  refine ⟨h', ?_, x2, fun a q1 q2 => by rw [x3 a q1, eg, pz_upne q1, y3 a q1 q2]⟩
  rw [f_X5_addGiver, y1, pz_b, show h1 41 5 = nI σ.2.2 from o4, nI_1, pz_hl, ← eg, x1, pz_b]
theorem pz_failO9 {h : kv_H} {len key : Nat} {B : Nat → Nat} {σ : pz_σ} (hl : len ≤ 96) (o : pz_O9 h B len key σ) (t : pz_tv B len σ.1) (hS : σ.2.1.length ≤ 96) : ∃ h', f_X5_fail h = some ((), h') ∧ pz_X9f h' σ.1.2.1 ∧ ∀ a, a ≠ 41 → h' a = h a := by
  obtain ⟨o1, o2, o3, o4, o5, o6⟩ := o
  refine ⟨kv_up (kv_up h 41 9 (nI σ.1.2.1)) 41 6 0, ?_, ⟨?_, ?_, σ.2.1.length, hS, ?_⟩, fun a q => by rw [pz_upne q, pz_upne q]⟩
  · rw [f_X5_fail, pz_jn, o5, if_neg (by decide), o2.2.1, pz_hl]; rfl
  · rw [pz_upeq, pz_upd, if_pos rfl]
  · rw [pz_upeq, pz_upd, if_neg (by omega), pz_upeq, pz_upd, if_pos rfl]
  · rw [pz_upeq, pz_upd, if_neg (by omega), pz_upeq, pz_upd, if_neg (by omega)]; exact o3.1
theorem pz_failF {h : kv_H} {a : Nat} (ha : a ≤ 96) (f : pz_X9f h a) : ∃ h', f_X5_fail h = some ((), h') ∧ pz_X9f h' a ∧ ∀ c, c ≠ 41 → h' c = h c := by
  obtain ⟨f1, f2, m, f3, f4⟩ := f
  refine ⟨kv_up h 41 6 0, ?_, ⟨?_, ?_, m, f3, ?_⟩, fun c q => by rw [pz_upne q]⟩
  · rw [f_X5_fail, pz_jn, f2, if_pos (pz_g0 (by omega))]; rfl
  · rw [pz_upeq, pz_upd, if_pos rfl]
  · rw [pz_upeq, pz_upd, if_neg (by omega)]; exact f2
  · rw [pz_upeq, pz_upd, if_neg (by omega)]; exact f4
theorem pz_joinsF {h : kv_H} {a : Nat} (x : Int32) (f : pz_X9f h a) : f_X5_joinsAt x h = some (0, h) := by
  rw [f_X5_joinsAt, f_X5_joinerHere, f.1, if_neg (by decide), pz_b, if_pos (by decide)]
theorem pz_signF {h : kv_H} {a : Nat} (x : Int32) (f : pz_X9f h a) : f_X5_isSign x h = some (0, h) := by
  rw [f_X5_isSign, f.1, if_neg (by decide)]
theorem pz_signO9 {h : kv_H} {len key c : Nat} {B : Nat → Nat} {σ : pz_σ} (hl : len ≤ 96) (hB : ∀ k, k < len → B k < 256) (o : pz_O9 h B len key σ) (t : pz_tv B len σ.1) (hc : c < 256) : f_X5_isSign (nI c) h = some (if σ.1.1 = 3 ∧ B σ.1.2.1 = c then 1 else 0, h) := by
  have t1 := t.1
  rw [f_X5_isSign, o.2.1.1, o.2.1.2.1]
  by_cases z : σ.1.1 = 3
  · have al : σ.1.2.1 < len := by have := t.2.2.2.1 (by omega); have := t.2.2.1; omega
    have bb := hB _ al
    rw [if_pos (show nI σ.1.1 = (3 : Int32) by rw [z]; rfl), pz_kN (by omega) (by omega), pz_cl (by omega), o.1.2 _ al]
    by_cases y : B σ.1.2.1 = c
    · rw [if_pos (by rw [y]), if_pos ⟨z, y⟩]
    · rw [if_neg (fun w => y ((nI_eq (by omega) (by omega)).mp w)), if_neg (fun w => y w.2)]
  · rw [if_neg (show ¬ nI σ.1.1 = (3 : Int32) from fun w => z ((nI_eq (b := 3) (by omega) (by omega)).mp w)), if_neg (fun w => z w.1)]
theorem pz_joinsO9 {h : kv_H} {len key l : Nat} {B : Nat → Nat} {σ : pz_σ} (hl : len ≤ 96) (hB : ∀ k, k < len → B k < 256) (o : pz_O9 h B len key σ) (t : pz_tv B len σ.1) (hll : l < 5) : f_X5_joinerHere h = some (pz_pl10 (pz_jo' B σ.1), h) ∧ f_X5_joinsAt (nI l) h = some (if pz_jl B l σ.1 = none then 0 else 1, h) := by
  have jh := pz_joiner9 o.1 hl hB o.2.1 t.1 (fun z => by have := t.2.2.2.1 (by omega); have := t.2.2.1; omega)
  refine ⟨jh, ?_⟩
  rw [f_X5_joinsAt, jh, pz_b]
  unfold pz_jl
  cases hj : pz_jo' B σ.1 with
  | none => rw [if_pos (show pz_pl10 none < 0 by decide)]; rfl
  | some j =>
    have j9 : j < 9 := by
      unfold pz_jo' at hj
      by_cases z : σ.1.1 = 3
      · rw [if_pos z] at hj
        have := pz_ixnL _ _ _ _ hj
        exact Nat.lt_of_lt_of_le this.2.1 (by decide)
      · rw [if_neg z] at hj; cases hj
    have ti : kv_ti.getD j 0 = nI (pz_TI.getD j 9) ∧ pz_TI.getD j 9 < 5 := by
      have : j = 0 ∨ j = 1 ∨ j = 2 ∨ j = 3 ∨ j = 4 ∨ j = 5 ∨ j = 6 ∨ j = 7 ∨ j = 8 := by omega
      rcases this with rfl | rfl | rfl | rfl | rfl | rfl | rfl | rfl | rfl <;> exact ⟨rfl, by decide⟩
    rw [show pz_pl10 (some j) = nI j from rfl, if_neg (pz_ng (by omega)), pz_kN j9 (by omega), pz_cl (by omega), ti.1]
    by_cases z : pz_TI.getD j 9 = l
    · have e : Option.filter (fun j => decide (pz_TI.getD j 9 = l)) (some j) = some j := by rw [Option.filter_some, if_pos (decide_eq_true z)]
      rw [if_pos (by rw [z]), e, if_neg (by simp)]
    · have e : Option.filter (fun j => decide (pz_TI.getD j 9 = l)) (some j) = none := by rw [Option.filter_some, if_neg (fun w => z (of_decide_eq_true w))]
      rw [if_neg (fun w => z ((nI_eq (by omega) (by omega)).mp w)), e, if_pos rfl]

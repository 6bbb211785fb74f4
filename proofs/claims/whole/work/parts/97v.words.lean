/-! PURE PART: what a token says -/
def pz_ixn : List Nat → Nat → Nat → Option Nat
  | [], _, _ => none
  | t :: r, c, k => if t = c then some k else pz_ixn r c (k + 1)
theorem pz_i8a {c : Nat} (hc : c < 128) : (nI c).toInt8.toInt32 = nI c := by
  have : ∀ c : Fin 128, (nI c.val).toInt8.toInt32 = nI c.val := by decide +kernel
  exact this ⟨c, hc⟩
theorem pz_i8b {c : Nat} (h1 : 128 ≤ c) (hc : c < 256) : (nI c).toInt8.toInt32 < 0 := by
  have : ∀ c : Fin 256, 128 ≤ c.val → (nI c.val).toInt8.toInt32 < 0 := by decide +kernel
  exact this ⟨c, hc⟩ h1
theorem pz_ch8 {t c : Nat} (ht : t < 128) (hc : c < 256) : (nI t = (nI c).toInt8.toInt32) ↔ t = c := by
  rcases Nat.lt_or_ge c 128 with q | q
  · rw [pz_i8a q, nI_eq (by omega) (by omega)]
  · have := pz_i8b q hc
    refine ⟨fun e => ?_, fun e => by omega⟩
    rw [← e] at this
    exact absurd this (pz_ng (by omega))
theorem pz_u16 {c : Nat} (hc : c < 256) : ((nI c).toUInt32 % 65536).toInt32 = nI c := by
  have : ∀ c : Fin 256, ((nI c.val).toUInt32 % 65536).toInt32 = nI c.val := by decide +kernel
  exact this ⟨c, hc⟩
theorem pz_ixL {i0 c : Nat} {T : List Nat} (hb : kv_sb.getD i0 [] = T.map (fun t => nI t)) (hl : kv_sl.getD i0 0 = T.length) (hT : ∀ t, t ∈ T → t < 128) (hc : c < 256) (h : kv_H) (C : kv_H → Option (Int32 × kv_H)) (hT9 : T.length ≤ 9) : ∀ (r : List Nat) (i fu : Nat), T.drop i = r → i ≤ T.length → r.length < fu → f_J1_indexOfChar_4cfef_L7 i0 (nI T.length) ((nI c).toInt8.toInt32) fu (nI i) h C = match pz_ixn r c i with | none => C h | some k => some (nI k, h) := by
  intro r
  induction r with
  | nil =>
    intro i fu e1 e2 e3
    obtain ⟨fu, rfl⟩ : ∃ f, fu = f + 1 := ⟨fu - 1, by omega⟩
    have := List.drop_eq_nil_iff.mp e1
    rw [f_J1_indexOfChar_4cfef_L7, if_pos (nI_le (by omega) (by omega))]; rfl
  | cons t r ih =>
    intro i fu e1 e2 e3
    obtain ⟨fu, rfl⟩ : ∃ f, fu = f + 1 := ⟨fu - 1, by omega⟩
    rw [List.length_cons] at e3
    obtain ⟨d1, d2, d3⟩ := pz_dropC e1
    have tb := hT t (pz_mem_of_get d1)
    have gt : (T.map (fun t => nI t)).getD i 0 = nI t := by
      rw [List.getD_eq_getElem?_getD, List.getElem?_map, d1]; rfl
    rw [f_J1_indexOfChar_4cfef_L7, if_neg (nI_ge d3 (by omega)), hl, pz_kN (by omega) (by omega), pz_cl (by omega), hb, gt, pz_ixn]
    by_cases z : t = c
    · rw [if_pos ((pz_ch8 tb hc).mpr z), if_pos z]
    · rw [if_neg (fun w => z ((pz_ch8 tb hc).mp w)), if_neg z, nI_1]
      exact ih (i + 1) fu d2 (by omega) (by omega)
theorem pz_iof {i0 c : Nat} {T : List Nat} (hb : kv_sb.getD i0 [] = T.map (fun t => nI t)) (hl : kv_sl.getD i0 0 = T.length) (hT : ∀ t, t ∈ T → t < 128) (hc : c < 256) (h : kv_H) (hT9 : T.length ≤ 9) (hT0 : 0 < T.length) : f_J0_indexOf_0f7a4 i0 (nI c) h = some (pz_pl10 (pz_ixn T c 0), h) := by
  have ln : f_J0_length_8abf5 i0 h = some (nI T.length, h) := by
    rw [f_J0_length_8abf5, show f_J0_coder_7d493 i0 h = some (0, h) from rfl, pz_b, hl]
    have : T.length = 1 ∨ T.length = 2 ∨ T.length = 3 ∨ T.length = 4 ∨ T.length = 5 ∨ T.length = 6 ∨ T.length = 7 ∨ T.length = 8 ∨ T.length = 9 := by omega
    rcases this with q | q | q | q | q | q | q | q | q <;> rw [q] <;> rfl
  rw [f_J0_indexOf_0f7a4, f_J0_indexOf_7cf53, show f_J0_isLatin1_aae02 i0 h = some (1, h) from rfl, pz_b, if_neg (by decide), ln, pz_b, f_J1_indexOf_4cfef, f_J1_canEncode_9a6ad, if_neg (pz_ng (by omega)), if_neg (show ¬ (255 : Int32) < nI c from nI_nlt (a := 255) (by omega) (by omega)), pz_b, if_neg (by decide), pz_vl, if_neg (show ¬ (0 : Int32) < 0 by decide), hl, pz_vl, if_neg (nI_nlt (Nat.le_refl _) (by omega)), if_pos (show (0 : Int32) < nI T.length from nI_lt (a := 0) hT0 (by omega)), f_J1_indexOfChar_4cfef, pz_vl, show (0 : Int32) = nI 0 from rfl, pz_ixL hb hl hT hc h _ hT9 T 0 kv_fu rfl (by omega) (by rw [show kv_fu = 5000 from rfl]; omega)]
  cases pz_ixn T c 0 with
  | none => rfl
  | some k => rfl
def pz_JT : List Nat := [124, 38, 60, 61, 62, 43, 45, 42, 47]
def pz_NT (key : Nat) : List Nat := if key = 0 then [115, 110] else if key = 1 then [108, 110, 115] else [97, 116, 114, 110]
def pz_WT (key : Nat) : List Nat := if key = 0 then [114, 111, 111, 109] else if key = 1 then [109, 105, 115, 115] else [116, 104, 114, 111, 119]
def pz_TI : List Nat := [0, 1, 2, 2, 2, 3, 3, 4, 4]
/-- the joiner that a token is -/
def pz_jo' (B : Nat → Nat) (τ : Nat × Nat × Nat) : Option Nat := if τ.1 = 3 then pz_ixn pz_JT (B τ.2.1) 0 else none
/-- the name that a word is -/
def pz_na (B : Nat → Nat) (key : Nat) (τ : Nat × Nat × Nat) : Option Nat := if τ.2.2 - τ.2.1 = 1 then pz_ixn (pz_NT key) (B τ.2.1) 0 else none
theorem pz_ixnL : ∀ (T : List Nat) (c k j : Nat), pz_ixn T c k = some j → k ≤ j ∧ j < k + T.length ∧ T[j - k]? = some c := by
  intro T
  induction T with
  | nil => intro c k j h; cases h
  | cons t r ih =>
    intro c k j h
    rw [pz_ixn] at h
    by_cases z : t = c
    · rw [if_pos z] at h; cases h
      refine ⟨Nat.le_refl _, by rw [List.length_cons]; omega, ?_⟩
      rw [Nat.sub_self, z]; rfl
    · rw [if_neg z] at h
      have := ih c (k + 1) j h
      refine ⟨by omega, by rw [List.length_cons]; omega, ?_⟩
      rw [show j - k = (j - (k + 1)) + 1 from by omega]; exact this.2.2
theorem pz_joiner9 {h : kv_H} {len : Nat} {B : Nat → Nat} {τ : Nat × Nat × Nat} (l : pz_L9 h len B) (hl : len ≤ 96) (hB : ∀ k, k < len → B k < 256) (t : pz_t9 h τ) (hs : τ.1 ≤ 4) (ha : τ.1 = 3 → τ.2.1 < len) : f_X5_joinerHere h = some (pz_pl10 (pz_jo' B τ), h) := by
  rw [f_X5_joinerHere, t.1, pz_jo']
  by_cases z : τ.1 = 3
  · have := ha z
    rw [if_pos (show nI τ.1 = (3 : Int32) by rw [z]; rfl), t.2.1, pz_kN (by omega) (by omega), pz_cl (by omega), l.2 _ this, pz_u16 (hB _ this), pz_iof (T := pz_JT) rfl rfl (by decide) (hB _ this) h (by decide) (by decide), pz_b, if_pos z]
  · rw [if_neg (show ¬ nI τ.1 = (3 : Int32) from fun w => z ((nI_eq (b := 3) (by omega) (by omega)).mp w)), if_neg z]; rfl
theorem pz_name9 {h : kv_H} {len key : Nat} {B : Nat → Nat} {τ : Nat × Nat × Nat} (l : pz_L9 h len B) (hl : len ≤ 96) (hB : ∀ k, k < len → B k < 256) (t : pz_t9 h τ) (hae : τ.2.1 ≤ τ.2.2 ∧ τ.2.2 ≤ len) (hk : key ≤ 2) (e4 : h 41 4 = nI key) : f_X5_nameHere h = some (pz_pl10 (pz_na B key τ), h) := by
  rw [f_X5_nameHere, t.2.1, t.2.2, pz_sub hae.1, pz_na]
  by_cases z : τ.2.2 - τ.2.1 = 1
  · have al : τ.2.1 < len := by omega
    rw [if_pos (show nI (τ.2.2 - τ.2.1) = (1 : Int32) by rw [z]; rfl), if_pos z, pz_jn, e4]
    have fin : ∀ i0 : Nat, kv_sb.getD i0 [] = (pz_NT key).map (fun t => nI t) → kv_sl.getD i0 0 = (pz_NT key).length → kv_k (h 41 7) 96 (kv_b (f_J0_indexOf_0f7a4 i0 (((h 42 (h 41 7).toNatClampNeg).toUInt32 % 65536).toInt32) h) (fun r4 h3 => some (r4, h3))) = some (pz_pl10 (pz_ixn (pz_NT key) (B τ.2.1) 0), h) := by
      intro i0 q1 q2
      have t1 : ∀ t, t ∈ pz_NT key → t < 128 := by
        intro t ht
        unfold pz_NT at ht
        rcases (show key = 0 ∨ key = 1 ∨ key = 2 by omega) with rfl | rfl | rfl
        · revert t; decide
        · revert t; decide
        · revert t; decide
      have t2 : (pz_NT key).length ≤ 9 ∧ 0 < (pz_NT key).length := by
        rcases (show key = 0 ∨ key = 1 ∨ key = 2 by omega) with rfl | rfl | rfl <;> decide
      rw [t.2.1, pz_kN (by omega) (by omega), pz_cl (by omega), l.2 _ al, pz_u16 (hB _ al), pz_iof q1 q2 t1 (hB _ al) h t2.1 t2.2, pz_b]
    rcases (show key = 0 ∨ key = 1 ∨ key = 2 by omega) with rfl | rfl | rfl
    · rw [if_pos (show nI 0 = (0 : Int32) from rfl)]
      exact fin 4 rfl rfl
    · rw [if_neg (show ¬ nI 1 = (0 : Int32) by decide), if_pos (show nI 1 = (1 : Int32) from rfl)]
      exact fin 5 rfl rfl
    · rw [if_neg (show ¬ nI 2 = (0 : Int32) by decide), if_neg (show ¬ nI 2 = (1 : Int32) by decide)]
      exact fin 6 rfl rfl
  · rw [if_neg (show ¬ nI (τ.2.2 - τ.2.1) = (1 : Int32) from fun w => z ((nI_eq (b := 1) (by omega) (by omega)).mp w)), if_neg z]; rfl
theorem pz_number9 {h : kv_H} {len : Nat} {B : Nat → Nat} {τ : Nat × Nat × Nat} (l : pz_L9 h len B) (hl : len ≤ 96) (t : pz_t9 h τ) (hae : τ.2.1 ≤ τ.2.2 ∧ τ.2.2 ≤ len) (hd : ∀ k, τ.2.1 ≤ k → k < τ.2.2 → 48 ≤ B k) : f_X5_numberHere h = some (nI (pz_nv B (τ.2.2 - τ.2.1) τ.2.1 0), h) := by
  rw [f_X5_numberHere, t.2.1, pz_vl]
  have main : ∀ d i v fu, i + d = τ.2.2 → τ.2.1 ≤ i → d < fu → f_X5_numberHere_L7 fu (nI v) (nI i) h (fun z3 h4 => some (z3, h4)) = some (nI (pz_nv B d i v), h) := by
    intro d
    induction d with
    | zero =>
      intro i v fu e1 e2 e3
      obtain ⟨fu, rfl⟩ : ∃ f, fu = f + 1 := ⟨fu - 1, by omega⟩
      rw [f_X5_numberHere_L7, t.2.2, if_pos (nI_le (by omega) (by omega))]; rfl
    | succ d ih =>
      intro i v fu e1 e2 e3
      obtain ⟨fu, rfl⟩ : ∃ f, fu = f + 1 := ⟨fu - 1, by omega⟩
      have := hd i e2 (by omega)
      rw [f_X5_numberHere_L7, t.2.2, if_neg (nI_ge (by omega) (by omega)), pz_kN (by omega) (by omega), pz_cl (by omega), l.2 i (by omega), show (10 : Int32) = nI 10 from rfl, pz_mul, pz_add, show (48 : Int32) = nI 48 from rfl, pz_sub (by omega), pz_vl, nI_1, pz_nv]
      exact ih (i + 1) _ fu (by omega) (by omega) (by omega)
  exact main (τ.2.2 - τ.2.1) τ.2.1 0 kv_fu (by omega) (Nat.le_refl _) (by rw [show kv_fu = 5000 from rfl]; omega)

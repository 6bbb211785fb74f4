/-! PURE PART: the class foresees -/
def pz_fit (TX : Nat → pz_T) (t : Nat) (D : Nat → Nat → Nat) (n sp : Nat) (s : Nat) : Bool := decide (pz_rmb (pz_rm TX t D) s n ≤ sp)
theorem pz_fit0 (TX : Nat → pz_T) (t : Nat) (D : Nat → Nat → Nat) (n sp : Nat) : pz_fit TX t D n sp 0 = true := by
  unfold pz_fit
  rw [show pz_rmb (pz_rm TX t D) 0 n = 0 from by rw [← Nat.zero_add n, pz_rmbLow (i := 0) (by decide)]; rfl]
  exact decide_eq_true (Nat.zero_le _)
def pz_mb (D : Nat → Nat → Nat) (ms : Nat → Nat) (T : Nat → Nat) (x s : Nat) : Nat := T (s ||| 2 ^ x) + (if pz_rd D s 8 (x + 1) then 0 else ms x)
def pz_ft (fit : Nat → Bool) (D : Nat → Nat → Nat) (ms : Nat → Nat) : List Nat → Nat → Nat
  | [], _ => 0
  | x :: r, s => pz_mb D ms (pz_win fit (pz_ft fit D ms r)) x s
theorem pz_winL {fit : Nat → Bool} {T : Nat → Nat} (f0 : fit 0 = true) (s : Nat) : pz_win fit T s ≤ T 0 := (pz_winW f0 s).2 0 (Nat.zero_and s) f0
theorem pz_ftB {fit : Nat → Bool} {D : Nat → Nat → Nat} {ms : Nat → Nat} (f0 : fit 0 = true) : ∀ (L : List Nat), (∀ x, x ∈ L → ms x ≤ 1013) → ∀ s, pz_ft fit D ms L s ≤ 1013 * L.length := by
  intro L
  induction L with
  | nil => intro _ s; exact Nat.le_refl 0
  | cons x r ih =>
    intro h s
    have a1 := ih (fun y hy => h y (List.mem_cons_of_mem _ hy)) 0
    have a2 := h x (List.mem_cons_self ..)
    have a3 := pz_winL (T := pz_ft fit D ms r) f0 (s ||| 2 ^ x)
    rw [pz_ft, pz_mb, List.length_cons]
    split <;> omega
theorem pz_mb9 {h : kv_H} {q n x : Nat} {D : Nat → Nat → Nat} {rm ms ch : Nat → Nat} {T : Nat → Nat} (hq : 50 < q) (lx : pz_LX h q n rm ms ch) (b : pz_LB n D) (c : pz_CH n D ch) (hx : x < n) (h46 : ∀ s, s < 2 ^ n → h 46 s = nI (T s)) : ∃ h', f_X2_missBefore q (nI x) (nI (2 ^ n)) h = some ((), h') ∧ (∀ s, s < 2 ^ n → h' 46 s = nI (pz_mb D ms T x s)) ∧ ∀ a, a ≠ 46 → h' a = h a := by
  have hn := b.1
  obtain ⟨N, eN⟩ : ∃ N, N = 2 ^ n := ⟨_, rfl⟩
  have N256 : N ≤ 256 := by rw [eN]; exact pz_p256 hn
  rw [← eN] at h46 ⊢
  have cl := (c x hx).2
  rw [f_X2_missBefore, pz_bit x (by omega), pz_vl, pz_kN (by omega) (by omega), pz_vl, pz_cl (by omega), (lx x hx).2.2, pz_kN (by omega) (by omega), pz_vl, (lx x hx).2.1]
  refine pz_for (fun f k (g : kv_H) => f_X2_missBefore_L24 (nI N) (nI (2 ^ x)) (nI (ch x)) (nI (ms x)) f (nI k) g (fun h6 => some ((), h6))) (fun k g => (∀ a, a ≠ 46 → g a = h a) ∧ ∀ s, s < N → g 46 s = nI (if s < k then pz_mb D ms T x s else T s)) (fun R => ∃ h', R = some ((), h') ∧ (∀ s, s < N → h' 46 s = nI (pz_mb D ms T x s)) ∧ ∀ a, a ≠ 46 → h' a = h a) N ?_ ?_ kv_fu 0 h (by omega) (by rw [show kv_fu = 5000 from rfl]; omega) ⟨fun _ _ => rfl, fun s hs => by rw [if_neg (by omega)]; exact h46 s hs⟩
  · intro f g ⟨g1, g2⟩
    refine ⟨g, ?_, fun s hs => by rw [g2 s hs, if_pos hs], g1⟩
    show f_X2_missBefore_L24 (nI N) (nI (2 ^ x)) (nI (ch x)) (nI (ms x)) (f + 1) (nI N) g _ = _
    rw [f_X2_missBefore_L24, if_pos (nI_le (Nat.le_refl _) (by omega))]
  · intro f k g hk ⟨g1, g2⟩
    right
    have ol : k ||| 2 ^ x < N := by rw [eN]; exact Nat.or_lt_two_pow (by rw [← eN]; exact hk) (Nat.pow_lt_pow_right (by omega) hx)
    have ge : k ≤ k ||| 2 ^ x := Nat.left_le_or
    have rd : g 46 (k ||| 2 ^ x) = nI (T (k ||| 2 ^ x)) := by rw [g2 _ ol, if_neg (by omega)]
    refine ⟨kv_up g 46 k (nI (pz_mb D ms T x k)), ⟨fun a q => by rw [pz_upne q]; exact g1 a q, fun s hs => ?_⟩, ?_⟩
    · rw [pz_upeq, pz_upd]
      by_cases z : s = k
      · rw [if_pos z, if_pos (by omega), z]
      · rw [if_neg z, g2 s hs]
        by_cases y : s < k
        · rw [if_pos y, if_pos (by omega)]
        · rw [if_neg y, if_neg (by omega)]
    · show f_X2_missBefore_L24 (nI N) (nI (2 ^ x)) (nI (ch x)) (nI (ms x)) (f + 1) (nI k) g _ = _
      have al : k &&& ch x ≤ ch x := Nat.and_le_right
      rw [f_X2_missBefore_L24, if_neg (nI_ge hk (by omega)), pz_or, pz_kN (by omega) (by omega), show (nI (k ||| 2 ^ x)).toNatClampNeg = k ||| 2 ^ x from pz_cl (by omega), rd, pz_and, nI_1, pz_mb]
      by_cases z : pz_rd D k 8 (x + 1) = true
      · rw [if_pos (by rw [(pz_rdC b c k 8 x hx (by omega)).mp z]), if_pos z, pz_kN (by omega) (by omega), pz_hl, pz_cl (by omega), show (0 : Int32) = nI 0 from rfl, pz_add]
      · rw [if_neg (fun y => z ((pz_rdC b c k 8 x hx (by omega)).mpr ((nI_eq (by omega) (by omega)).mp y))), if_neg z, pz_kN (by omega) (by omega), pz_hl, pz_cl (by omega), pz_add]
def pz_cf1 (T : Nat → Nat) (k : Nat) : Option Nat → Option Nat
  | none => some k
  | some j => if T k < T j then some k else some j
def pz_cf (fit : Nat → Bool) (T : Nat → Nat) (e : Nat) : Nat → Option Nat
  | 0 => none
  | k + 1 => if k &&& e = k ∧ fit k = true then pz_cf1 T k (pz_cf fit T e k) else pz_cf fit T e k
theorem pz_cfL (fit : Nat → Bool) (T : Nat → Nat) (e : Nat) : ∀ k j, pz_cf fit T e k = some j → j < k := by
  intro k
  induction k with
  | zero => intro j h; cases h
  | succ k ih =>
    intro j h
    rw [pz_cf] at h
    by_cases z : k &&& e = k ∧ fit k = true
    · rw [if_pos z] at h
      cases hc : pz_cf fit T e k with
      | none => rw [hc, pz_cf1] at h; cases h; omega
      | some i =>
        rw [hc, pz_cf1] at h
        by_cases y : T k < T i
        · rw [if_pos y] at h; cases h; omega
        · rw [if_neg y] at h; cases h; have := ih j hc; omega
    · rw [if_neg z] at h; have := ih j h; omega
theorem pz_cfS (fit : Nat → Bool) (T : Nat → Nat) (e : Nat) (f0 : fit 0 = true) : ∀ k, ∃ j, pz_cf fit T e (k + 1) = some j := by
  intro k
  induction k with
  | zero => exact ⟨0, by rw [pz_cf, if_pos ⟨Nat.zero_and e, f0⟩]; rfl⟩
  | succ k ih =>
    obtain ⟨j, hj⟩ := ih
    rw [pz_cf, hj]
    by_cases z : (k + 1) &&& e = k + 1 ∧ fit (k + 1) = true
    · rw [if_pos z, pz_cf1]; split
      · exact ⟨_, rfl⟩
      · exact ⟨_, rfl⟩
    · rw [if_neg z]; exact ⟨j, rfl⟩
theorem pz_subI {k e : Nat} (hk : k < 256) (he : e < 256) : (nI k &&& (nI e ^^^ (-1)) = (0 : Int32)) ↔ k &&& e = k := by
  obtain ⟨c, e1, e2, e3⟩ := pz_nand (a := k) (b := e) hk
  rw [e1]
  have : (nI c = (0 : Int32)) ↔ c = 0 := ⟨fun y => (nI_eq (b := 0) (by omega) (by omega)).mp y, fun y => by rw [y]; rfl⟩
  rw [this]
  constructor
  · intro h
    refine pz_ext8 (Nat.lt_of_le_of_lt Nat.and_le_left hk) hk (fun u hu => ?_)
    have := e3 u hu
    rw [h, Nat.zero_testBit] at this
    rw [Nat.testBit_and]
    revert this
    cases k.testBit u <;> cases e.testBit u <;> decide
  · intro h
    refine pz_ext8 e2 (by omega) (fun u hu => ?_)
    rw [e3 u hu, Nat.zero_testBit]
    have := congrArg (fun x => Nat.testBit x u) h
    simp only [Nat.testBit_and] at this
    revert this
    cases k.testBit u <;> cases e.testBit u <;> decide
def pz_b44 (T : Nat → Nat) : Option Nat → Int32
  | none => 536870912
  | some j => nI (T j)
theorem pz_first9 {h : kv_H} {w n x : Nat} {D : Nat → Nat → Nat} {t : Nat} {TX : Nat → pz_T} {ch : Nat → Nat} {sp ru ca : Nat} {V : List Nat} {X : Nat → Int32} {T : Nat → Nat} (hw : 50 < w) (e : pz_E9 h w n D t TX ch sp ru ca) (eb : pz_EB n D t TX ch sp ru ca) (cc : pz_CC h (w + 12) V X) (cb : pz_CB n V X) (hx : x < n) (h45 : ∀ s, s < 2 ^ n → h 45 s = nI (pz_rmb (pz_rm TX t D) s n)) (h46 : ∀ s, s < 2 ^ n → h 46 s = nI (T s)) (hT : ∀ s, s < 2 ^ n → T s < 536870912) (h443 : h 44 3 = -1000000005) : ∃ h' j, f_X2_chooseFirst w (nI x) (nI (2 ^ n)) h = some ((), h') ∧ pz_cf (pz_fit TX t D n sp) T (pz_bits V ||| 2 ^ x) (2 ^ n) = some j ∧ h' 44 2 = nI (T j + (if pz_rd D (pz_bits V) 8 (x + 1) then 0 else pz_ms TX t n D x)) ∧ h' 44 3 = nI j ∧ ∀ a, a ≠ 44 → h' a = h a := by
  have hn := eb.1.1
  have hsp := eb.2.2.2.1
  obtain ⟨N, eN⟩ : ∃ N, N = 2 ^ n := ⟨_, rfl⟩
  have N256 : N ≤ 256 := by rw [eN]; exact pz_p256 hn
  have N1 : 0 < N := by rw [eN]; exact Nat.two_pow_pos n
  have rb := fun s => pz_rmbB eb.1 TX t s n (Nat.le_refl n)
  have hV : ∀ v, v ∈ V → v < 8 := fun v hv => by have := cb.2.1 v hv; omega
  have bl := pz_bitsL V hV
  have el : pz_bits V ||| 2 ^ x < 256 := Nat.or_lt_two_pow (n := 8) bl (pz_p2 (by omega))
  rw [← eN] at h45 h46 hT ⊢
  obtain ⟨j, hj⟩ : ∃ j, pz_cf (pz_fit TX t D n sp) T (pz_bits V ||| 2 ^ x) N = some j := by
    obtain ⟨k, ek⟩ : ∃ k, N = k + 1 := ⟨N - 1, by omega⟩
    rw [ek]; exact pz_cfS _ _ _ (pz_fit0 TX t D n sp) k
  have loop : ∀ C : Int32 → kv_H → Option (Unit × kv_H), ∃ g, f_X2_chooseFirst_L24 w (nI x) (nI N) (nI (pz_bits V)) (nI (pz_bits V ||| 2 ^ x)) kv_fu 536870912 0 h C = C (nI (T j)) g ∧ g 44 3 = nI j ∧ ∀ a, a ≠ 44 → g a = h a := by
    intro C
    refine pz_for (fun f k (v : Int32 × kv_H) => f_X2_chooseFirst_L24 w (nI x) (nI N) (nI (pz_bits V)) (nI (pz_bits V ||| 2 ^ x)) f v.1 (nI k) v.2 C) (fun k v => v.1 = pz_b44 T (pz_cf (pz_fit TX t D n sp) T (pz_bits V ||| 2 ^ x) k) ∧ v.2 44 3 = pz_pl9 (pz_cf (pz_fit TX t D n sp) T (pz_bits V ||| 2 ^ x) k) ∧ ∀ a, a ≠ 44 → v.2 a = h a) (fun R => ∃ g, R = C (nI (T j)) g ∧ g 44 3 = nI j ∧ ∀ a, a ≠ 44 → g a = h a) N ?_ ?_ kv_fu 0 (536870912, h) (by omega) (by rw [show kv_fu = 5000 from rfl]; omega) ⟨rfl, h443, fun _ _ => rfl⟩
    · intro f v ⟨v1, v2, v3⟩
      rw [hj] at v1 v2
      refine ⟨v.2, ?_, v2, v3⟩
      show f_X2_chooseFirst_L24 w (nI x) (nI N) (nI (pz_bits V)) (nI (pz_bits V ||| 2 ^ x)) (f + 1) v.1 (nI N) v.2 C = _
      rw [f_X2_chooseFirst_L24, if_pos (nI_le (Nat.le_refl _) (by omega)), v1]; rfl
    · intro f k v hk ⟨v1, v2, v3⟩
      right
      have st := f_X2_chooseFirst_L24.eq_2 w (nI x) (nI N) (nI (pz_bits V)) (nI (pz_bits V ||| 2 ^ x)) v.1 (nI k) v.2 C f
      rw [if_neg (nI_ge hk (by omega))] at st
      have rk := rb k
      by_cases z : k &&& (pz_bits V ||| 2 ^ x) = k ∧ pz_fit TX t D n sp k = true
      · have fk : pz_rmb (pz_rm TX t D) k n ≤ sp := of_decide_eq_true z.2
        rw [if_pos ((pz_subI (by omega) el).mpr z.1), pz_kN (by omega) (by omega), v3 w (by omega), e.2.2.2.2.1, v3 45 (by omega), pz_cl (by omega), h45 k hk, if_neg (nI_nlt fk (by omega)), pz_kN (by omega) (by omega), v3 46 (by omega), h46 k hk] at st
        have Tk := hT k hk
        by_cases y : v.1 ≤ nI (T k)
        · refine ⟨v, ⟨?_, ?_, v3⟩, ?_⟩
          · rw [pz_cf, if_pos z]
            cases hc : pz_cf (pz_fit TX t D n sp) T (pz_bits V ||| 2 ^ x) k with
            | none =>
              exfalso; rw [v1, hc] at y
              exact nI_ge (b := 536870912) Tk (by omega) y
            | some i =>
              have Ti := hT i (by have := pz_cfL _ _ _ k i hc; omega)
              rw [v1, hc] at y
              have y' : T i ≤ T k := (nI_leI (by omega) (by omega)).mp y
              rw [pz_cf1, if_neg (by omega), v1, hc]
          · rw [pz_cf, if_pos z]
            cases hc : pz_cf (pz_fit TX t D n sp) T (pz_bits V ||| 2 ^ x) k with
            | none =>
              exfalso; rw [v1, hc] at y
              exact nI_ge (b := 536870912) Tk (by omega) y
            | some i =>
              have Ti := hT i (by have := pz_cfL _ _ _ k i hc; omega)
              rw [v1, hc] at y
              have y' : T i ≤ T k := (nI_leI (by omega) (by omega)).mp y
              rw [pz_cf1, if_neg (by omega), v2, hc]
          · rw [if_pos y, nI_1] at st; exact st
        · rw [if_neg y, pz_kN (by omega) (by omega), pz_vl, pz_hl, nI_1] at st
          have nx : pz_cf (pz_fit TX t D n sp) T (pz_bits V ||| 2 ^ x) (k + 1) = some k := by
            rw [pz_cf, if_pos z]
            cases hc : pz_cf (pz_fit TX t D n sp) T (pz_bits V ||| 2 ^ x) k with
            | none => rfl
            | some i =>
              have Ti := hT i (by have := pz_cfL _ _ _ k i hc; omega)
              rw [v1, hc] at y
              rw [pz_cf1, if_pos]
              rcases Nat.lt_or_ge (T k) (T i) with q | q
              · exact q
              · exact absurd (nI_le q (by omega)) y
          refine ⟨(nI (T k), kv_up v.2 44 3 (nI k)), ⟨by rw [nx]; rfl, ?_, fun a q => ?_⟩, st⟩
          · rw [nx]; show kv_up v.2 44 3 (nI k) 44 3 = _; rw [pz_upeq, pz_upd, if_pos rfl]; rfl
          · show kv_up v.2 44 3 (nI k) a = h a; rw [pz_upne q]; exact v3 a q
      · have nx : pz_cf (pz_fit TX t D n sp) T (pz_bits V ||| 2 ^ x) (k + 1) = pz_cf (pz_fit TX t D n sp) T (pz_bits V ||| 2 ^ x) k := by rw [pz_cf, if_neg z]
        refine ⟨v, ⟨by rw [nx]; exact v1, by rw [nx]; exact v2, v3⟩, ?_⟩
        by_cases z1 : k &&& (pz_bits V ||| 2 ^ x) = k
        · have fk : ¬ pz_rmb (pz_rm TX t D) k n ≤ sp := fun y => z ⟨z1, decide_eq_true y⟩
          rw [if_pos ((pz_subI (by omega) el).mpr z1), pz_kN (by omega) (by omega), v3 w (by omega), e.2.2.2.2.1, v3 45 (by omega), pz_cl (by omega), h45 k hk, if_pos (nI_lt (by omega) (by omega)), nI_1] at st
          exact st
        · rw [if_neg (fun y => z1 ((pz_subI (by omega) el).mp y)), nI_1] at st
          exact st
  rw [f_X2_chooseFirst, pz_vl, cc.2.1, pz_bit x (by omega), pz_or, pz_vl]
  obtain ⟨g, y1, y2, y3⟩ := loop (fun z5 h6 => kv_b (f_X1_isRead (w + 3) (nI (pz_bits V)) (nI x) h6) (fun r8 h7 =>
    if r8 = 0 then (kv_k (nI x) 8 (kv_hl (kv_up h7 44 2 (z5 + (h7 ((w + 3) + 7) (nI x).toNatClampNeg))) (fun h9 => some ((), h9))))
    else (kv_hl (kv_up h7 44 2 (z5 + 0)) (fun h10 => some ((), h10)))))
  have lxg : pz_LX g (w + 3) n (pz_rm TX t D) (pz_ms TX t n D) ch := fun i hi => by
    rw [y3 _ (by omega), y3 _ (by omega), y3 _ (by omega)]; exact e.2.1 i hi
  rw [pz_read9 lxg eb.1 eb.2.2.1 bl hx, pz_b] at y1
  refine ⟨kv_up g 44 2 (nI (T j + (if pz_rd D (pz_bits V) 8 (x + 1) then 0 else pz_ms TX t n D x))), j, ?_, hj, ?_, ?_, fun a q => by rw [pz_upne q]; exact y3 a q⟩
  · refine y1.trans ?_
    by_cases z : pz_rd D (pz_bits V) 8 (x + 1) = true
    · rw [if_pos z, if_neg (by decide), pz_hl, if_pos z, show (0 : Int32) = nI 0 from rfl, pz_add]
    · rw [if_neg z, if_pos rfl, pz_kN (by omega) (by omega), pz_hl, pz_cl (by omega), (lxg x hx).2.1, pz_add, if_neg z]
  · rw [pz_upeq, pz_upd, if_pos rfl]
  · rw [pz_upeq, pz_upd, if_neg (by omega)]; exact y2

/-! PURE PART: rooms and misses of the class: weighAll -/
theorem pz_roomAs (h : kv_H) (kd p : Nat) (hk : kd ≤ 5) (hp : p ≤ 999) : f_X9_roomAs 3 (nI kd) (nI p) h = some (nI (pz_ro kd p), h) := by
  have d2 : ∀ x : Nat, x < 2147483648 → nI x / 2 = nI (x / 2) := fun x hx => pk_div (d := 2) hx (by omega) (by omega)
  have a1 : ∀ d, f_X9_roomAs (d + 1) 1 (nI p) h = some (nI p + 1, h) := fun d => rfl
  have a2 : ∀ d, f_X9_roomAs (d + 1) 2 (nI p) h = some ((nI p + 1) / 2, h) := fun d => rfl
  have c : kd = 0 ∨ kd = 1 ∨ kd = 2 ∨ kd = 3 ∨ kd = 4 ∨ kd = 5 := by omega
  rcases c with rfl | rfl | rfl | rfl | rfl | rfl
  · rfl
  · show some (nI p + 1, h) = _; rw [nI_1]; rfl
  · show some ((nI p + 1) / 2, h) = _; rw [nI_1, d2 _ (by omega)]; rfl
  · show kv_b (f_X9_roomAs 2 1 (nI p) h) (fun r2 h1 => some ((r2 + 1) / 2, h1)) = _
    rw [a1 1, pz_b, nI_1, nI_1, d2 _ (by omega)]; rfl
  · show kv_b (f_X9_roomAs 2 2 (nI p) h) (fun r2 h1 => some (r2 + 1, h1)) = _
    rw [a2 1, pz_b, nI_1, d2 _ (by omega), nI_1]; rfl
  · rfl
theorem pz_missAs (h : kv_H) (kd m z l : Nat) (hk : kd ≤ 5) (hp : m ≤ 999) : f_X9_missAs 3 (nI kd) (nI m) (nI z) (nI l) h = some (nI (pz_mi kd m z l), h) := by
  have d2 : ∀ x : Nat, x < 2147483648 → nI x / 2 = nI (x / 2) := fun x hx => pk_div (d := 2) hx (by omega) (by omega)
  have a1 : ∀ d, f_X9_missAs (d + 1) 1 (nI m) (nI z) (nI l) h = some (nI m + 5, h) := fun d => rfl
  have a2 : ∀ d, f_X9_missAs (d + 1) 2 (nI m) (nI z) (nI l) h = some (nI m / 2, h) := fun d => rfl
  have c : kd = 0 ∨ kd = 1 ∨ kd = 2 ∨ kd = 3 ∨ kd = 4 ∨ kd = 5 := by omega
  rcases c with rfl | rfl | rfl | rfl | rfl | rfl
  · rfl
  · show some (nI m + 5, h) = _; rw [show (5 : Int32) = nI 5 from rfl, pz_add]; rfl
  · show some (nI m / 2, h) = _; rw [d2 _ (by omega)]; rfl
  · show kv_b (f_X9_missAs 2 1 (nI m) (nI z) (nI l) h) (fun r2 h1 => some (r2 + nI z, h1)) = _
    rw [a1 1, pz_b, show (5 : Int32) = nI 5 from rfl, pz_add, pz_add]; rfl
  · show kv_b (f_X9_missAs 2 2 (nI m) (nI z) (nI l) h) (fun r2 h1 => some (2 * r2, h1)) = _
    rw [a2 1, pz_b, d2 _ (by omega), show (2 : Int32) = nI 2 from rfl, pz_mul, Nat.mul_comm]; rfl
  · show some (nI m + nI l, h) = _; rw [pz_add]; rfl
theorem pz_bit : ∀ i, i < 8 → (1 : Int32) <<< (nI i &&& 31) = nI (2 ^ i)
  | 0, _ | 1, _ | 2, _ | 3, _ | 4, _ | 5, _ | 6, _ | 7, _ => by decide
  | n + 8, q => by omega
theorem pz_or (a b : Nat) : nI a ||| nI b = nI (a ||| b) := by
  apply Int32.toBitVec_inj.mp
  rw [Int32.toBitVec_or]
  apply BitVec.eq_of_toNat_eq
  show ((BitVec.ofNat 32 a) ||| (BitVec.ofNat 32 b)).toNat = (BitVec.ofNat 32 (a ||| b)).toNat
  rw [BitVec.toNat_or, BitVec.toNat_ofNat, BitVec.toNat_ofNat, BitVec.toNat_ofNat, Nat.or_mod_two_pow]
theorem pz_and (a b : Nat) : nI a &&& nI b = nI (a &&& b) := by
  apply Int32.toBitVec_inj.mp
  rw [Int32.toBitVec_and]
  apply BitVec.eq_of_toNat_eq
  show ((BitVec.ofNat 32 a) &&& (BitVec.ofNat 32 b)).toNat = (BitVec.ofNat 32 (a &&& b)).toNat
  rw [BitVec.toNat_and, BitVec.toNat_ofNat, BitVec.toNat_ofNat, BitVec.toNat_ofNat, Nat.and_mod_two_pow]
def pz_LW (h : kv_H) (w t : Nat) (TX : Nat → pz_T) : Prop := ∀ k, k < 3 → h (w + 2) k = pz_none (pz_law TX t k)
def pz_LX (h : kv_H) (q n : Nat) (rm ms ch : Nat → Nat) : Prop := ∀ i, i < n → h (q + 6) i = nI (rm i) ∧ h (q + 7) i = nI (ms i) ∧ h (q + 8) i = nI (ch i)
def pz_CH (n : Nat) (D : Nat → Nat → Nat) (ch : Nat → Nat) : Prop := ∀ i, i < n → ch i = 2 ^ i ||| (if D 4 i = 0 then 0 else ch (D 4 i - 1)) ∧ ch i < 256
theorem pz_p2 {i : Nat} (hi : i < 8) : 2 ^ i < 256 := Nat.pow_lt_pow_right (a := 2) (n := 8) (by omega) hi
theorem pz_or256 {a b : Nat} (ha : a < 256) (hb : b < 256) : a ||| b < 256 := Nat.or_lt_two_pow (n := 8) ha hb
theorem pz_weigh {w n t : Nat} {D : Nat → Nat → Nat} {TX : Nat → pz_T} {h : kv_H} (hw : 79 ≤ w) (l : pz_LC h (w + 3) n D) (b : pz_LB n D) (tc : pz_TC h t TX) (tb : pz_TB t TX) (lw : pz_LW h w t TX) : ∃ h' ch, f_X8_weighAll w h = some ((), h') ∧ pz_LX h' (w + 3) n (pz_rm TX t D) (pz_ms TX t n D) ch ∧ pz_CH n D ch ∧ ∀ a, a ≠ 49 → a ≠ 50 → a ≠ w + 3 + 6 → a ≠ w + 3 + 7 → a ≠ w + 3 + 8 → h' a = h a := by
  have hn := b.1
  have ht := tb.1
  unfold f_X8_weighAll
  refine pz_for (fun m k (g : kv_H) => f_X8_weighAll_L2 w m (nI k) g (fun h24 => some ((), h24))) (fun k g => (∃ ch, pz_LX g (w + 3) k (pz_rm TX t D) (pz_ms TX t n D) ch ∧ pz_CH k D ch) ∧ ∀ a, a ≠ 49 → a ≠ 50 → a ≠ w + 3 + 6 → a ≠ w + 3 + 7 → a ≠ w + 3 + 8 → g a = h a) (fun R => ∃ h' ch, R = some ((), h') ∧ pz_LX h' (w + 3) n (pz_rm TX t D) (pz_ms TX t n D) ch ∧ pz_CH n D ch ∧ ∀ a, a ≠ 49 → a ≠ 50 → a ≠ w + 3 + 6 → a ≠ w + 3 + 7 → a ≠ w + 3 + 8 → h' a = h a) n ?_ ?_ kv_fu 0 _ (by omega) (by rw [show kv_fu = 5000 from rfl]; omega) ⟨⟨fun _ => 0, fun i hi => absurd hi (by omega), fun i hi => absurd hi (by omega)⟩, fun _ _ _ _ _ _ => rfl⟩
  · intro m g ⟨⟨ch, g1, g3⟩, g2⟩
    refine ⟨g, ch, ?_, g1, g3, g2⟩
    show f_X8_weighAll_L2 w (m + 1) (nI n) g _ = _
    rw [f_X8_weighAll_L2, g2 (w + 3) (by omega) (by omega) (by omega) (by omega) (by omega), l.1, if_pos (nI_le (Nat.le_refl n) (by omega))]
  · intro m k g hk ⟨⟨ch, g1, g3⟩, g2⟩
    right
    have ll := l.2 k hk
    have bb := b.2 k hk
    have pb := pz_prB b TX t k hk
    have pmb := pz_pmB b TX t k hk
    -- the rest, once plain room and plain miss are there
    have fin : ∀ gg : kv_H, (∀ a, a ≠ 49 → a ≠ 50 → gg a = g a) → ∃ s', ((∃ ch, pz_LX s' (w + 3) (k + 1) (pz_rm TX t D) (pz_ms TX t n D) ch ∧ pz_CH (k + 1) D ch) ∧ ∀ a, a ≠ 49 → a ≠ 50 → a ≠ w + 3 + 6 → a ≠ w + 3 + 7 → a ≠ w + 3 + 8 → s' a = h a) ∧
        kv_k (nI k) 8 (kv_b (f_X9_roomAs 3 (gg ((w + 3) + 1) (nI k).toNatClampNeg) (nI (pz_pr TX t D k)) gg) (fun r9 h8 =>
          kv_k (nI k) 8 (kv_hl (kv_up h8 ((w + 3) + 6) (nI k).toNatClampNeg r9) (fun h10 =>
          kv_k (nI k) 8 (kv_b (f_X1_leanersOn (w + 3) (nI k) h10) (fun r12 h11 =>
          kv_b (f_X9_missAs 3 (h10 ((w + 3) + 1) (nI k).toNatClampNeg) (nI (pz_pm TX t D k)) (nI (D 1 k)) r12 h11) (fun r14 h13 =>
          kv_k (nI k) 8 (kv_hl (kv_up h13 ((w + 3) + 7) (nI k).toNatClampNeg r14) (fun h15 =>
          if 0 ≤ pz_on (D 4 k) then (kv_k (pz_on (D 4 k)) 8 (kv_k (nI k) 8 (kv_hl (kv_up h15 ((w + 3) + 8) (nI k).toNatClampNeg ((1 <<< ((nI k) &&& 31)) ||| (h15 ((w + 3) + 8) (pz_on (D 4 k)).toNatClampNeg))) (fun h16 =>
            f_X8_weighAll_L2 w m ((nI k) + 1) h16 (fun h24 => some ((), h24))))))
          else (kv_k (nI k) 8 (kv_hl (kv_up h15 ((w + 3) + 8) (nI k).toNatClampNeg ((1 <<< ((nI k) &&& 31)) ||| 0)) (fun h17 =>
            f_X8_weighAll_L2 w m ((nI k) + 1) h17 (fun h24 => some ((), h24)))))))))))))) = f_X8_weighAll_L2 w m (nI (k + 1)) s' (fun h24 => some ((), h24)) := by
      intro gg hgg
      have e1 : ∀ a, a ≠ 49 → a ≠ 50 → a ≠ w + 3 + 6 → a ≠ w + 3 + 7 → a ≠ w + 3 + 8 → gg a = h a := fun a q1 q2 q3 q4 q5 => (hgg a q1 q2).trans (g2 a q1 q2 q3 q4 q5)
      have k1 : gg (w + 3 + 1) k = nI (D 0 k) := by rw [e1 _ (by omega) (by omega) (by omega) (by omega) (by omega)]; exact ll.1
      have lc : ∀ v, pz_LC (kv_up gg (w + 3 + 6) k v) (w + 3) n D := by
        intro v
        refine ⟨?_, ?_⟩
        · rw [pz_upne (by omega), e1 _ (by omega) (by omega) (by omega) (by omega) (by omega)]; exact l.1
        · intro i hi
          rw [pz_upne (by omega), pz_upne (by omega), pz_upne (by omega), pz_upne (by omega), pz_upne (by omega), e1 _ (by omega) (by omega) (by omega) (by omega) (by omega), e1 _ (by omega) (by omega) (by omega) (by omega) (by omega), e1 _ (by omega) (by omega) (by omega) (by omega) (by omega), e1 _ (by omega) (by omega) (by omega) (by omega) (by omega), e1 _ (by omega) (by omega) (by omega) (by omega) (by omega)]; exact l.2 i hi
      -- the new cells for a chain c
      have done : ∀ c, c = 2 ^ k ||| (if D 4 k = 0 then 0 else ch (D 4 k - 1)) → c < 256 → ((∃ ch, pz_LX (kv_up (kv_up (kv_up gg (w + 3 + 6) k (nI (pz_rm TX t D k))) (w + 3 + 7) k (nI (pz_ms TX t n D k))) (w + 3 + 8) k (nI c)) (w + 3) (k + 1) (pz_rm TX t D) (pz_ms TX t n D) ch ∧ pz_CH (k + 1) D ch) ∧ ∀ a, a ≠ 49 → a ≠ 50 → a ≠ w + 3 + 6 → a ≠ w + 3 + 7 → a ≠ w + 3 + 8 → (kv_up (kv_up (kv_up gg (w + 3 + 6) k (nI (pz_rm TX t D k))) (w + 3 + 7) k (nI (pz_ms TX t n D k))) (w + 3 + 8) k (nI c)) a = h a) := by
        intro c ec hc
        refine ⟨⟨fun j => if j = k then c else ch j, ?_, ?_⟩, ?_⟩
        · intro i hi
          dsimp only
          by_cases z : i = k
          · subst z
            refine ⟨?_, ?_, ?_⟩
            · rw [pz_upne (by omega), pz_upne (by omega), pz_upeq, pz_upd, if_pos rfl]
            · rw [pz_upne (by omega), pz_upeq, pz_upd, if_pos rfl]
            · rw [pz_upeq, pz_upd, if_pos rfl, if_pos rfl]
          · have := g1 i (by omega)
            refine ⟨?_, ?_, ?_⟩
            · rw [pz_upne (by omega), pz_upne (by omega), pz_upeq, pz_upd, if_neg z, hgg _ (by omega) (by omega)]; exact this.1
            · rw [pz_upne (by omega), pz_upeq, pz_upd, if_neg z, pz_upne (by omega), hgg _ (by omega) (by omega)]; exact this.2.1
            · rw [pz_upeq, pz_upd, if_neg z, pz_upne (by omega), pz_upne (by omega), hgg _ (by omega) (by omega), if_neg z]; exact this.2.2
        · intro i hi
          dsimp only
          by_cases z : i = k
          · subst z
            rw [if_pos rfl]
            refine ⟨?_, hc⟩
            rw [ec]
            by_cases y : D 4 i = 0
            · rw [if_pos y, if_pos y]
            · rw [if_neg y, if_neg y, if_neg (by omega)]
          · have c3 := g3 i (by omega)
            have b3 := b.2 i (by omega)
            rw [if_neg z]
            refine ⟨?_, c3.2⟩
            rw [c3.1]
            by_cases y : D 4 i = 0
            · rw [if_pos y, if_pos y]
            · rw [if_neg y, if_neg y, if_neg (by omega)]
        · intro a q1 q2 q3 q4 q5
          rw [pz_upne q5, pz_upne q4, pz_upne q3]; exact e1 a q1 q2 q3 q4 q5
      rw [pz_cl (by omega), pz_kN (by omega) (by omega), k1, pz_roomAs _ _ _ (by omega) (by omega), pz_b, pz_kN (by omega) (by omega), pz_hl, pz_kN (by omega) (by omega), pz_leaners9 (lc _) b k hk, pz_b, pz_upne (by omega), k1, pz_missAs _ _ _ _ _ (by omega) (by omega), pz_b, pz_kN (by omega) (by omega), pz_hl, pz_bit k (by omega)]
      by_cases y : D 4 k = 0
      · refine ⟨_, done (2 ^ k ||| 0) (by rw [if_pos y]) (pz_or256 (pz_p2 (by omega)) (by omega)), ?_⟩
        rw [y, if_neg (by decide), pz_kN (by omega) (by omega), pz_hl, show (0 : Int32) = nI 0 from rfl, pz_or, nI_1]; rfl
      · obtain ⟨p, hp⟩ : ∃ p, D 4 k = p + 1 := ⟨D 4 k - 1, by omega⟩
        have g1p := g1 p (by omega)
        have g3p := g3 p (by omega)
        refine ⟨_, done (2 ^ k ||| ch p) (by rw [if_neg y, hp]; rfl) (pz_or256 (pz_p2 (by omega)) g3p.2), ?_⟩
        rw [hp, show pz_on (p + 1) = nI p from rfl, if_pos (pz_g0 (by omega)), pz_kN (by omega) (by omega), pz_kN (by omega) (by omega), pz_hl, pz_cl (by omega), pz_upne (by omega), pz_upne (by omega), hgg _ (by omega) (by omega), g1p.2.2, pz_or, nI_1]; rfl
    have c0 : ∀ a, a ≠ 49 → a ≠ 50 → a ≠ w + 3 + 6 → a ≠ w + 3 + 7 → a ≠ w + 3 + 8 → g a = h a := g2
    have tcg : ∀ gg : kv_H, (∀ a, a ≠ 49 → a ≠ 50 → gg a = g a) → pz_TC gg t TX := by
      intro gg hgg i hi
      rw [hgg _ (by omega) (by omega), hgg _ (by omega) (by omega), c0 _ (by omega) (by omega) (by omega) (by omega) (by omega), c0 _ (by omega) (by omega) (by omega) (by omega) (by omega)]; exact tc i hi
    -- plain miss
    have ms : ∀ (gg : kv_H), (∀ a, a ≠ 49 → a ≠ 50 → gg a = g a) → ∀ (J : Int32 → kv_H → Option (Unit × kv_H)) (Q : Option (Unit × kv_H) → Prop), (∀ g3, (∀ a, a ≠ 49 → a ≠ 50 → g3 a = g a) → Q (J (nI (pz_pm TX t D k)) g3)) → Q (if (gg (w + 2) 1) = (-1000000005 : Int32) then (J (nI (D 2 k)) gg) else (kv_b (f_X7_valueOf (gg (w + 2) 1) (nI (D 2 k)) (nI k) (nI (D 1 k)) 0 gg) (fun r19 h18 => kv_vl (if (0 : Int32) < (if r19 < (999 : Int32) then r19 else (999 : Int32)) then (if r19 < (999 : Int32) then r19 else (999 : Int32)) else (0 : Int32)) (fun e20 => J e20 h18)))) := by
      intro gg hgg J Q hJ
      have lwe : gg (w + 2) 1 = pz_none (pz_law TX t 1) := by
        rw [hgg _ (by omega) (by omega), c0 _ (by omega) (by omega) (by omega) (by omega) (by omega)]; exact lw 1 (by omega)
      have lle := pz_law_le TX 1 t
      rw [lwe]
      by_cases q : pz_law TX t 1 = 0
      · rw [q, if_pos (show pz_none 0 = -1000000005 from rfl)]
        have := hJ gg hgg
        rw [pz_pm, if_pos q] at this; exact this
      · obtain ⟨p, hp⟩ : ∃ p, pz_law TX t 1 = p + 1 := ⟨pz_law TX t 1 - 1, by omega⟩
        obtain ⟨h', x1, x2⟩ := pz_val9 (tcg gg hgg) tb p (by omega) (nI (D 2 k)) (nI k) (nI (D 1 k)) (nI 0)
        have pb := pmb.2 q
        rw [hp] at pb
        have pb' : pz_clp (nI 0) (nI 999) (pz_val (TX p) (pz_nm4 (nI (D 2 k)) (nI k) (nI (D 1 k)) (nI 0))) = nI (pz_pm TX t D k) := pb
        rw [hp, show pz_none (p + 1) = nI p from rfl, if_neg (show ¬ nI p = -1000000005 by show ¬ nI p = -nI 1000000005; rw [pz_neq1 (by omega) (by omega) (by omega)]; exact fun z => z), show (0 : Int32) = nI 0 from rfl, x1, pz_b, pz_vl, show (999 : Int32) = nI 999 from rfl, pz_clpC _ _ _ (by decide), pb']
        exact hJ h' (fun a q1 q2 => (x2 a q1 q2).trans (hgg a q1 q2))
    have rs : ∀ (gg : kv_H), (∀ a, a ≠ 49 → a ≠ 50 → gg a = g a) → ∀ (J : Int32 → kv_H → Option (Unit × kv_H)) (Q : Option (Unit × kv_H) → Prop), (∀ g3, (∀ a, a ≠ 49 → a ≠ 50 → g3 a = g a) → Q (J (nI (pz_pr TX t D k)) g3)) → Q (if (gg (w + 2) 0) = (-1000000005 : Int32) then (J (nI (D 1 k)) gg) else (kv_b (f_X7_valueOf (gg (w + 2) 0) (nI (D 1 k)) (nI k) 0 0 gg) (fun r19 h18 => kv_vl (if (1 : Int32) < (if r19 < (9 : Int32) then r19 else (9 : Int32)) then (if r19 < (9 : Int32) then r19 else (9 : Int32)) else (1 : Int32)) (fun e20 => J e20 h18)))) := by
      intro gg hgg J Q hJ
      have lwe : gg (w + 2) 0 = pz_none (pz_law TX t 0) := by
        rw [hgg _ (by omega) (by omega), c0 _ (by omega) (by omega) (by omega) (by omega) (by omega)]; exact lw 0 (by omega)
      have lle := pz_law_le TX 0 t
      rw [lwe]
      by_cases q : pz_law TX t 0 = 0
      · rw [q, if_pos (show pz_none 0 = -1000000005 from rfl)]
        have := hJ gg hgg
        rw [pz_pr, if_pos q] at this; exact this
      · obtain ⟨p, hp⟩ : ∃ p, pz_law TX t 0 = p + 1 := ⟨pz_law TX t 0 - 1, by omega⟩
        obtain ⟨h', x1, x2⟩ := pz_val9 (tcg gg hgg) tb p (by omega) (nI (D 1 k)) (nI k) (nI 0) (nI 0)
        have pb1 := pb.2.2 q
        rw [hp] at pb1
        have pb' : pz_clp (nI 1) (nI 9) (pz_val (TX p) (pz_nm4 (nI (D 1 k)) (nI k) (nI 0) (nI 0))) = nI (pz_pr TX t D k) := pb1
        rw [hp, show pz_none (p + 1) = nI p from rfl, if_neg (show ¬ nI p = -1000000005 by show ¬ nI p = -nI 1000000005; rw [pz_neq1 (by omega) (by omega) (by omega)]; exact fun z => z), show (0 : Int32) = nI 0 from rfl, x1, pz_b, pz_vl, show (9 : Int32) = nI 9 from rfl, show (1 : Int32) = nI 1 from rfl, pz_clpC _ _ _ (by decide), pb']
        exact hJ h' (fun a q1 q2 => (x2 a q1 q2).trans (hgg a q1 q2))
    show ∃ s', _ ∧ f_X8_weighAll_L2 w (m + 1) (nI k) g _ = _
    rw [f_X8_weighAll_L2, c0 (w + 3) (by omega) (by omega) (by omega) (by omega) (by omega), l.1, if_neg (nI_ge hk (by omega)), pz_kN (by omega) (by omega)]
    rw [pz_cl (by omega), c0 (w + 3 + 2) (by omega) (by omega) (by omega) (by omega) (by omega), ll.2.1, pz_vl, pz_kN (by omega) (by omega), c0 (w + 3 + 3) (by omega) (by omega) (by omega) (by omega) (by omega), ll.2.2.1, pz_vl, pz_kN (by omega) (by omega), c0 (w + 3 + 5) (by omega) (by omega) (by omega) (by omega) (by omega), ll.2.2.2.2, pz_vl, pz_jn]
    refine rs g (fun _ _ _ => rfl) _ (fun R => ∃ s', ((∃ ch, pz_LX s' (w + 3) (k + 1) (pz_rm TX t D) (pz_ms TX t n D) ch ∧ pz_CH (k + 1) D ch) ∧ ∀ a, a ≠ 49 → a ≠ 50 → a ≠ w + 3 + 6 → a ≠ w + 3 + 7 → a ≠ w + 3 + 8 → s' a = h a) ∧ R = f_X8_weighAll_L2 w m (nI (k + 1)) s' (fun h24 => some ((), h24))) ?_
    intro g4 h4
    refine ms g4 h4 _ (fun R => ∃ s', ((∃ ch, pz_LX s' (w + 3) (k + 1) (pz_rm TX t D) (pz_ms TX t n D) ch ∧ pz_CH (k + 1) D ch) ∧ ∀ a, a ≠ 49 → a ≠ 50 → a ≠ w + 3 + 6 → a ≠ w + 3 + 7 → a ≠ w + 3 + 8 → s' a = h a) ∧ R = f_X8_weighAll_L2 w m (nI (k + 1)) s' (fun h24 => some ((), h24))) ?_
    intro g5 h5
    have F := fin g5 h5
    rw [pz_cl (by omega)] at F
    exact F

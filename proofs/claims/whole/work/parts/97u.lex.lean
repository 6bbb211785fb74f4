/-! PURE PART: the reference's lexer: a token -/
theorem pz_adv10g {h : kv_H} {len s e : Nat} {B : Nat → Nat} (l : pz_L10 h len B) (hl : len ≤ 96) (hB : ∀ k, k < len → B k < 256) (t23 : h 111 23 = nI e) (t24 : h 111 24 = nI s) (hs : s ≤ 4) (he : e ≤ len) (pos : s = 1 ∨ s = 2 → 0 < e) : ∃ h', f_X10_nextToken h = some ((), h') ∧ pz_t10 h' B (pz_nx B len s e) ∧ (∀ a, a ≠ 111 → h' a = h a) ∧ ∀ b, b < 22 ∨ 26 < b → h' 111 b = h 111 b := by
  obtain ⟨z, ez⟩ : ∃ z, z = pz_sk B (len - e) e := ⟨_, rfl⟩
  have zb := pz_skB B (len - e) e
  rw [← ez] at zb
  obtain ⟨y, ey⟩ : ∃ y : Nat, y = if (s = 1 ∨ s = 2) ∧ z = e then 1 else 0 := ⟨_, rfl⟩
  have y1 : y ≤ 1 := by rw [ey]; split <;> omega
  obtain ⟨g, eg⟩ : ∃ g, g = kv_up (kv_up h 111 23 (nI z)) 111 22 (nI z) := ⟨_, rfl⟩
  have sk := fun c1 c2 C => pz_skip10 hl hB c1 c2 C (len - e) e kv_fu h (by omega) (by rw [show kv_fu = 5000 from rfl]; omega) l t23
  rw [← ez] at sk
  have p23 : kv_up h 111 23 (nI z) 111 23 = nI z := by rw [pz_upeq, pz_upd, if_pos rfl]
  have body : f_X10_nextToken h = (if (g 111 22) = (g 111 21) then (kv_hl (kv_up g 111 24 0) (fun h36 =>
          some ((), h36)))
        else (kv_b (f_X10_isLetter (g 111 22) g) (fun r10 h9 =>
          if r10 = 0 then (kv_b (f_X10_isDigit (h9 111 22) h9) (fun r12 h11 =>
            if r12 = 0 then (kv_hl (kv_up h11 111 24 3) (fun h13 =>
              kv_k (h13 111 22) 96 (kv_hl (kv_up h13 111 26 (h13 130 (h13 111 22).toNatClampNeg)) (fun h14 =>
              kv_hl (kv_up h14 111 23 ((h14 111 23) + 1)) (fun h15 =>
              some ((), h15))))))
            else (kv_hl (kv_up h11 111 25 0) (fun h16 =>
              f_X10_nextToken_L214 (nI y) kv_fu  h16 (fun  h23 =>
              if nI y = 0 then (if ((h23 111 23) - (h23 111 22)) ≤ (4 : Int32) then (kv_hl (kv_up h23 111 24 2) (fun h25 =>
                    some ((), h25)))
                  else (kv_hl (kv_up h23 111 24 4) (fun h26 =>
                    some ((), h26))))
                else (kv_hl (kv_up h23 111 24 4) (fun h24 =>
                  some ((), h24))))))))
          else (f_X10_nextToken_L128 (nI y) kv_fu  h9 (fun  h30 =>
            kv_jn (fun (y31 : Int32) (h32 : kv_H) =>
              kv_hl (kv_up h32 111 24 y31) (fun h33 =>
                if ((h33 111 23) - (h33 111 22)) = (1 : Int32) then (kv_k (h33 111 22) 96 (kv_hl (kv_up h33 111 26 (h33 130 (h33 111 22).toNatClampNeg)) (fun h35 =>
                  some ((), h35))))
                else (kv_hl (kv_up h33 111 26 0) (fun h34 =>
                  some ((), h34))))) (fun (J162 : Int32 → kv_H → Option (Unit × kv_H)) =>
              if nI y = 0 then (J162 1 h30)
              else (J162 4 h30))))))) := by
    rw [f_X10_nextToken, pz_jn, pz_jn, t23, t24]
    have J0 : ∀ s' : Prop, ¬ (s = 1 ∨ s = 2) → nI y = 0 := fun _ w => by rw [ey, if_neg (fun v => w v.1)]; rfl
    by_cases q1 : s = 1 ∨ s = 2
    · have ep := pos q1
      rw [if_neg (show ¬ nI e ≤ (0 : Int32) from nI_ge (a := 0) ep (by omega))]
      have two : ∀ (P : kv_H → Option (Unit × kv_H)) (Q : Option (Unit × kv_H)), (if nI s = (1 : Int32) then Q else if nI s = (2 : Int32) then Q else P h) = Q := by
        intro P Q
        rcases q1 with q | q
        · rw [if_pos (show nI s = (1 : Int32) by rw [q]; rfl)]
        · rw [if_neg (show ¬ nI s = (1 : Int32) by rw [q]; decide), if_pos (show nI s = (2 : Int32) by rw [q]; rfl)]
      refine (two _ _).trans ?_
      dsimp only
      rw [t23, pz_vl, sk, pz_jn, pz_jn, if_neg (by decide), p23]
      by_cases q2 : z = e
      · rw [if_pos (by rw [q2]), show nI y = 1 from by rw [ey, if_pos ⟨q1, q2⟩]; rfl]
        dsimp only
        rw [p23, pz_hl, ← eg]
      · rw [if_neg (fun w => q2 ((nI_eq (by omega) (by omega)).mp w).symm), show nI y = 0 from by rw [ey, if_neg (fun w => q2 w.2)]; rfl]
        dsimp only
        rw [p23, pz_hl, ← eg]
    · have ny := J0 True q1
      have two : ∀ (P Q : Option (Unit × kv_H)), (if nI e ≤ (0 : Int32) then P else if nI s = (1 : Int32) then Q else if nI s = (2 : Int32) then Q else P) = P := by
        intro P Q
        by_cases w : nI e ≤ (0 : Int32)
        · rw [if_pos w]
        · rw [if_neg w, if_neg (show ¬ nI s = (1 : Int32) from fun v => q1 (Or.inl ((nI_eq (b := 1) (by omega) (by omega)).mp v))), if_neg (show ¬ nI s = (2 : Int32) from fun v => q1 (Or.inr ((nI_eq (b := 2) (by omega) (by omega)).mp v)))]
      refine (two _ _).trans ?_
      dsimp only
      rw [t23, pz_vl, sk, pz_jn, pz_jn, if_pos rfl, ny]
      dsimp only
      rw [p23, pz_hl, ← eg]
  have g22 : g 111 22 = nI z := by rw [eg, pz_upeq, pz_upd, if_pos rfl]
  have g23 : g 111 23 = nI z := by rw [eg, pz_upeq, pz_upd, if_neg (by omega), pz_upeq, pz_upd, if_pos rfl]
  have lg : pz_L10 g len B := by rw [eg]; exact pz_L10u (pz_L10u l 23 _ (by omega)) 22 _ (by omega)
  have fg : ∀ a, a ≠ 111 → g a = h a := fun a q => by rw [eg, pz_upne q, pz_upne q]
  have fgb : ∀ b, b < 22 ∨ 26 < b → g 111 b = h 111 b := fun b q => by rw [eg, pz_upeq, pz_upd, if_neg (by omega), pz_upeq, pz_upd, if_neg (by omega)]
  rw [body, g22, lg.1]
  unfold pz_nx
  rw [← ez]
  by_cases q : z = len
  · rw [if_pos (by rw [q]), pz_hl, if_pos q]
    refine ⟨kv_up g 111 24 0, rfl, ⟨?_, ?_, ?_, fun w => absurd w (by show ¬ 0 = 3; decide), fun w => absurd w (by show ¬ 0 = 1; decide), fun w => absurd w (by show ¬ pz_msr (0, len, len) = 2; unfold pz_msr; rw [if_neg (by show ¬ (0 = 2 ∧ _); omega)]; show ¬ 0 = 2; decide)⟩, fun a q => by rw [pz_upne q]; exact fg a q, fun b b1 => by rw [pz_upeq, pz_upd, if_neg (by omega)]; exact fgb b b1⟩
    · rw [pz_upeq, pz_upd, if_neg (by omega), g22, q]
    · rw [pz_upeq, pz_upd, if_neg (by omega), g23, q]
    · rw [pz_upeq, pz_upd, if_pos rfl]; rfl
  · have zl : z < len := by omega
    have sb := pz_srtB (B z)
    have bz := hB z zl
    have lz : len - z = (len - (z + 1)) + 1 := by omega
    rw [if_neg (fun w => q ((nI_eq (by omega) (by omega)).mp w)), if_neg q]
    by_cases s1 : pz_srt (B z) = 1
    · have rnz : pz_rn B 1 (len - z) z = pz_rn B 1 (len - (z + 1)) (z + 1) := by rw [lz, pz_rn, if_pos s1]
      rw [pz_let10T lg hl hB zl s1, pz_b, if_neg (by decide), pz_let10L hl hB (nI y) _ (len - z) z kv_fu g (by omega) (by rw [show kv_fu = 5000 from rfl]; omega) lg g23, rnz, pz_jn, if_neg (show ¬ pz_srt (B z) = 3 by omega), s1]
      obtain ⟨e', ee⟩ : ∃ e', e' = pz_rn B 1 (len - (z + 1)) (z + 1) := ⟨_, rfl⟩
      have eb := pz_rnB B 1 (len - (z + 1)) (z + 1)
      rw [← ee] at eb ⊢
      obtain ⟨m, em⟩ : ∃ m, m = kv_up g 111 23 (nI e') := ⟨_, rfl⟩
      rw [← em]
      have m22 : m 111 22 = nI z := by rw [em, pz_upeq, pz_upd, if_neg (by omega)]; exact g22
      have m23 : m 111 23 = nI e' := by rw [em, pz_upeq, pz_upd, if_pos rfl]
      have fm : ∀ a, a ≠ 111 → m a = h a := fun a q => by rw [em, pz_upne q]; exact fg a q
      have fmb : ∀ b, b < 22 ∨ 26 < b → m 111 b = h 111 b := fun b q => by rw [em, pz_upeq, pz_upd, if_neg (by omega)]; exact fgb b q
      have fin : ∀ s' : Nat, s' ≤ 4 → s' ≠ 2 → s' ≠ 3 → ∃ h', (kv_hl (kv_up m 111 24 (nI s')) (fun h33 =>
                if ((h33 111 23) - (h33 111 22)) = (1 : Int32) then (kv_k (h33 111 22) 96 (kv_hl (kv_up h33 111 26 (h33 130 (h33 111 22).toNatClampNeg)) (fun h35 =>
                  some ((), h35))))
                else (kv_hl (kv_up h33 111 26 0) (fun h34 =>
                  some ((), h34))))) = some ((), h') ∧ pz_t10 h' B (s', z, e') ∧ (∀ a, a ≠ 111 → h' a = h a) ∧ ∀ b, b < 22 ∨ 26 < b → h' 111 b = h 111 b := by
        intro s' b1 b2 b3
        obtain ⟨k, ek⟩ : ∃ k, k = kv_up m 111 24 (nI s') := ⟨_, rfl⟩
        have k22 : k 111 22 = nI z := by rw [ek, pz_upeq, pz_upd, if_neg (by omega)]; exact m22
        have k23 : k 111 23 = nI e' := by rw [ek, pz_upeq, pz_upd, if_neg (by omega)]; exact m23
        have k130 : k 130 = h 130 := by rw [ek, pz_upne (by omega)]; exact fm 130 (by omega)
        have ms : pz_msr (s', z, e') = s' := by unfold pz_msr; rw [if_neg (fun w => b2 w.1)]
        obtain ⟨v, ev⟩ : ∃ v : Int32, v = if e' - z = 1 then nI (B z) else 0 := ⟨_, rfl⟩
        refine ⟨kv_up k 111 26 v, ?_, ⟨?_, ?_, ?_, fun w => absurd w b3, fun _ => ?_, fun w => absurd w (by rw [ms]; exact b2)⟩, fun a q => by rw [pz_upne q, ek, pz_upne q]; exact fm a q, fun b q => by rw [pz_upeq, pz_upd, if_neg (by omega), ek, pz_upeq, pz_upd, if_neg (by omega)]; exact fmb b q⟩
        · rw [pz_hl, ← ek, k22, k23, pz_sub (by omega), ev]
          by_cases w : e' - z = 1
          · rw [if_pos (show nI (e' - z) = (1 : Int32) by rw [w]; rfl), if_pos w, pz_kN (by omega) (by omega), pz_hl, pz_cl (by omega), k130, l.2 z zl]
          · rw [if_neg (show ¬ nI (e' - z) = (1 : Int32) from fun v => w ((nI_eq (b := 1) (by omega) (by omega)).mp v)), if_neg w, pz_hl]
        · rw [pz_upeq, pz_upd, if_neg (by omega)]; exact k22
        · rw [pz_upeq, pz_upd, if_neg (by omega)]; exact k23
        · rw [pz_upeq, pz_upd, if_neg (by omega), ek, pz_upeq, pz_upd, if_pos rfl, ms]
        · rw [pz_upeq, pz_upd, if_pos rfl, ev]
      by_cases q4 : (s = 1 ∨ s = 2) ∧ z = e
      · rw [if_pos q4, ey, if_pos q4, if_neg (by decide)]
        exact fin 4 (by omega) (by omega) (by omega)
      · rw [if_neg q4, ey, if_neg q4, if_pos (show nI 0 = (0 : Int32) from rfl)]
        exact fin 1 (by omega) (by omega) (by omega)
    · rw [pz_let10F lg hl hB (by omega) (fun w => s1 w.2), pz_b, if_pos rfl, g22]
      by_cases s2 : pz_srt (B z) = 2
      · have rnz : pz_rn B 2 (len - z) z = pz_rn B 2 (len - (z + 1)) (z + 1) := by rw [lz, pz_rn, if_pos s2]
        rw [pz_dig10T lg hl hB zl s2, pz_b, if_neg (by decide), pz_hl, if_neg (show ¬ pz_srt (B z) = 3 by omega), s2]
        obtain ⟨h', x1, x2, x3, x4, x5⟩ := pz_dig10L (a := z) hl hB (nI y) (fun h23 =>
              if nI y = 0 then (if ((h23 111 23) - (h23 111 22)) ≤ (4 : Int32) then (kv_hl (kv_up h23 111 24 2) (fun h25 =>
                    some ((), h25)))
                  else (kv_hl (kv_up h23 111 24 4) (fun h26 =>
                    some ((), h26))))
                else (kv_hl (kv_up h23 111 24 4) (fun h24 =>
                  some ((), h24)))) (len - z) z kv_fu (kv_up g 111 25 0) (by omega) (by rw [show kv_fu = 5000 from rfl]; omega) (Nat.le_refl z) (pz_L10u lg 25 _ (by omega)) (by rw [pz_upeq, pz_upd, if_neg (by omega)]; exact g22) (by rw [pz_upeq, pz_upd, if_neg (by omega)]; exact g23) (by rw [pz_upeq, pz_upd, if_pos rfl, Nat.sub_self]; rfl) (fun k h1 h2 => by omega)
        rw [rnz] at x2 x3
        obtain ⟨e', ee⟩ : ∃ e', e' = pz_rn B 2 (len - (z + 1)) (z + 1) := ⟨_, rfl⟩
        have eb := pz_rnB B 2 (len - (z + 1)) (z + 1)
        rw [← ee] at eb x2 x3 ⊢
        have m22 : h' 111 22 = nI z := by rw [x5 22 (by omega) (by omega), pz_upeq, pz_upd, if_neg (by omega)]; exact g22
        have fm : ∀ a, a ≠ 111 → h' a = h a := fun a q => by rw [x4 a q, pz_upne q]; exact fg a q
        have fmb : ∀ b, b < 22 ∨ 26 < b → h' 111 b = h 111 b := fun b q => by rw [x5 b (by omega) (by omega), pz_upeq, pz_upd, if_neg (by omega)]; exact fgb b q
        rw [x1]
        have fin : ∀ s' v : Nat, s' = 2 ∨ s' = 4 → v = pz_msr (s', z, e') → ∃ h2, kv_hl (kv_up h' 111 24 (nI v)) (fun h24 => some ((), h24)) = some ((), h2) ∧ pz_t10 h2 B (s', z, e') ∧ (∀ a, a ≠ 111 → h2 a = h a) ∧ ∀ b, b < 22 ∨ 26 < b → h2 111 b = h 111 b := by
          intro s' v b1 b2
          refine ⟨kv_up h' 111 24 (nI v), rfl, ⟨?_, ?_, ?_, fun w => absurd w (by show ¬ s' = 3; omega), fun w => absurd w (by show ¬ s' = 1; omega), fun w => ?_⟩, fun a q => by rw [pz_upne q]; exact fm a q, fun b q => by rw [pz_upeq, pz_upd, if_neg (by omega)]; exact fmb b q⟩
          · rw [pz_upeq, pz_upd, if_neg (by omega)]; exact m22
          · rw [pz_upeq, pz_upd, if_neg (by omega)]; exact x2
          · rw [pz_upeq, pz_upd, if_pos rfl, b2]
          · rw [pz_upeq, pz_upd, if_neg (by omega), x3]
            have : e' - z ≤ 4 := by
              unfold pz_msr at w
              dsimp only at w
              by_cases y : s' = 2 ∧ 4 < e' - z
              · rw [if_pos y] at w; omega
              · rw [if_neg y] at w; omega
            rw [Nat.min_eq_left this]
        by_cases q4 : (s = 1 ∨ s = 2) ∧ z = e
        · rw [if_pos q4, ey, if_pos q4, if_neg (by decide)]
          exact fin 4 4 (Or.inr rfl) (by unfold pz_msr; rw [if_neg (by show ¬ (4 = 2 ∧ _); omega)])
        · rw [if_neg q4, ey, if_neg q4, if_pos (show nI 0 = (0 : Int32) from rfl), x2, m22, pz_sub (by omega)]
          by_cases w : e' - z ≤ 4
          · rw [if_pos (show nI (e' - z) ≤ (4 : Int32) from nI_le (b := 4) w (by omega))]
            exact fin 2 2 (Or.inl rfl) (by unfold pz_msr; rw [if_neg (by show ¬ (2 = 2 ∧ 4 < e' - z); omega)])
          · rw [if_neg (show ¬ nI (e' - z) ≤ (4 : Int32) from nI_ge (a := 4) (by omega) (by omega))]
            exact fin 2 4 (Or.inl rfl) (by unfold pz_msr; rw [if_pos (by show 2 = 2 ∧ 4 < e' - z; omega)])
      · have s3 : pz_srt (B z) = 3 := by omega
        rw [pz_dig10F lg hl hB (by omega) (fun w => s2 w.2), pz_b, if_pos rfl, pz_hl, if_pos s3]
        obtain ⟨k, ek⟩ : ∃ k, k = kv_up g 111 24 3 := ⟨_, rfl⟩
        have k22 : k 111 22 = nI z := by rw [ek, pz_upeq, pz_upd, if_neg (by omega)]; exact g22
        have k23 : k 111 23 = nI z := by rw [ek, pz_upeq, pz_upd, if_neg (by omega)]; exact g23
        have k130 : k 130 = h 130 := by rw [ek, pz_upne (by omega)]; exact fg 130 (by omega)
        rw [← ek, k22, pz_kN (by omega) (by omega), pz_hl, pz_cl (by omega), k130, l.2 z zl, show kv_up k 111 26 (nI (B z)) 111 23 = nI z from by rw [pz_upeq, pz_upd, if_neg (by omega)]; exact k23, nI_1, pz_hl]
        refine ⟨kv_up (kv_up k 111 26 (nI (B z))) 111 23 (nI (z + 1)), rfl, ⟨?_, ?_, ?_, fun _ => ?_, fun w => absurd w (by show ¬ 3 = 1; decide), fun w => absurd w ?_⟩, fun a q => by rw [pz_upne q, pz_upne q, ek, pz_upne q]; exact fg a q, fun b q => by rw [pz_upeq, pz_upd, if_neg (by omega), pz_upeq, pz_upd, if_neg (by omega), ek, pz_upeq, pz_upd, if_neg (by omega)]; exact fgb b q⟩
        · rw [pz_upeq, pz_upd, if_neg (by omega), pz_upeq, pz_upd, if_neg (by omega)]; exact k22
        · rw [pz_upeq, pz_upd, if_pos rfl]
        · rw [pz_upeq, pz_upd, if_neg (by omega), pz_upeq, pz_upd, if_neg (by omega), ek, pz_upeq, pz_upd, if_pos rfl]; rfl
        · rw [pz_upeq, pz_upd, if_neg (by omega), pz_upeq, pz_upd, if_pos rfl]
        · show ¬ pz_msr (3, z, z + 1) = 2
          unfold pz_msr; rw [if_neg (by show ¬ (3 = 2 ∧ _); omega)]; show ¬ 3 = 2; decide
theorem pz_adv10 {h : kv_H} {len : Nat} {B : Nat → Nat} {τ : Nat × Nat × Nat} (l : pz_L10 h len B) (hl : len ≤ 96) (hB : ∀ k, k < len → B k < 256) (t : pz_t10 h B τ) (hs : τ.1 ≤ 4) (he : τ.2.2 ≤ len) (good : τ.1 = 2 → τ.2.2 - τ.2.1 ≤ 4) (pos : τ.1 = 1 ∨ τ.1 = 2 → 0 < τ.2.2) : ∃ h', f_X10_nextToken h = some ((), h') ∧ pz_t10 h' B (pz_nx B len τ.1 τ.2.2) ∧ (∀ a, a ≠ 111 → h' a = h a) ∧ ∀ b, b < 22 ∨ 26 < b → h' 111 b = h 111 b := by
  have t24 := t.2.2.1
  unfold pz_msr at t24
  rw [if_neg (fun w => by have := good w.1; omega)] at t24
  exact pz_adv10g l hl hB t.2.1 t24 hs he pos

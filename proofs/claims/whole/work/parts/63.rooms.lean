/-! PURE PART: rooms and misses: room, miss, knows -/
theorem pz_room10 {n t : Nat} {D : Nat → Nat → Nat} {TX : Nat → pz_T} {h : kv_H} (w : pz_M (h 112) n D t TX) (i : Nat) (hi : i < n) : ∃ h', f_X10_room (nI i) h = some (nI (pz_rm TX t D i), h') ∧ ∀ a, a ≠ 131 → a ≠ 132 → h' a = h a := by
  have ll := w.1.2 i hi
  have bb := w.2.1.2 i hi
  have hn := w.2.1.1
  have pb := pz_prB w.2.1 TX t i hi
  obtain ⟨h', x1, x2⟩ := pz_plain10 w i hi
  have e2 : (10 : Int32) + 7 * nI i = nI (10 + 7 * i) := by
    rw [show (7 : Int32) = nI 7 from rfl, pz_mul, show (10 : Int32) = nI 10 from rfl, pz_add]
  have d2 : ∀ x : Nat, x < 2147483648 → nI x / 2 = nI (x / 2) := fun x hx => pk_div (d := 2) hx (by omega) (by omega)
  have st : f_X10_room (nI i) h = (if nI (D 0 i) = (5 : Int32) then some (1, h) else kv_b (f_X10_plainRoom (nI i) h) (fun r5 h4 => if nI (D 0 i) = (1 : Int32) then some (r5 + 1, h4) else if nI (D 0 i) = (3 : Int32) then some ((r5 + 2) / 2, h4) else if nI (D 0 i) = (2 : Int32) then some ((r5 + 1) / 2, h4) else if nI (D 0 i) = (4 : Int32) then some ((r5 + 1) / 2 + 1, h4) else some (r5, h4))) := by
    rw [f_X10_room, pz_leafAtU, pz_b, e2, pz_kN (by omega) (by omega), pz_cl (by omega), ll.1, pz_vl]
  have c : D 0 i = 5 ∨ D 0 i = 1 ∨ D 0 i = 3 ∨ D 0 i = 2 ∨ D 0 i = 4 ∨ D 0 i = 0 := by omega
  by_cases c5 : D 0 i = 5
  · refine ⟨h, ?_, fun _ _ _ => rfl⟩
    rw [st, c5, if_pos (by decide), pz_rm, c5]; rfl
  · refine ⟨h', ?_, x2⟩
    rw [st, if_neg (by show ¬ nI (D 0 i) = nI 5; rw [pz_eq (by omega) (by omega)]; exact c5), x1, pz_b, pz_rm, pz_ro, if_neg c5]
    rcases c with z | z | z | z | z | z
    · exact absurd z c5
    · rw [z, if_pos (by decide), if_pos rfl, nI_1]
    · rw [z, if_neg (by decide), if_pos (by decide), if_neg (by decide), if_pos rfl, show (2 : Int32) = nI 2 from rfl, pz_add, show nI 2 = (2 : Int32) from rfl, d2 _ (by omega)]
    · rw [z, if_neg (by decide), if_neg (by decide), if_pos (by decide), if_neg (by decide), if_neg (by decide), if_pos rfl, nI_1, d2 _ (by omega)]
    · rw [z, if_neg (by decide), if_neg (by decide), if_neg (by decide), if_pos (by decide), if_neg (by decide), if_neg (by decide), if_neg (by decide), if_pos rfl, nI_1, d2 _ (by omega), nI_1]
    · rw [z, if_neg (by decide), if_neg (by decide), if_neg (by decide), if_neg (by decide), if_neg (by decide), if_neg (by decide), if_neg (by decide), if_neg (by decide)]
theorem pz_miss10 {n t : Nat} {D : Nat → Nat → Nat} {TX : Nat → pz_T} {h : kv_H} (w : pz_M (h 112) n D t TX) (i : Nat) (hi : i < n) : ∃ h', f_X10_miss (nI i) h = some (nI (pz_ms TX t n D i), h') ∧ ∀ a, a ≠ 131 → a ≠ 132 → h' a = h a := by
  obtain ⟨l, b, tm, tb, e1⟩ := w
  have hn := b.1
  have ll := l.2 i hi
  have bb := b.2 i hi
  have lw := pz_law_le TX 1 t
  have ht := tb.1
  have cn := pz_counts tm tb e1 1 (by omega)
  have pmb := pz_pmB b TX t i hi
  have e0 : (10 : Int32) + 7 * nI i = nI (10 + 7 * i) := by
    rw [show (7 : Int32) = nI 7 from rfl, pz_mul, show (10 : Int32) = nI 10 from rfl, pz_add]
  have e2 : nI (10 + 7 * i) + 2 = nI (12 + 7 * i) := by
    rw [show (2 : Int32) = nI 2 from rfl, pz_add]; congr 1; omega
  have e3 : nI (10 + 7 * i) + 1 = nI (11 + 7 * i) := by
    rw [show (1 : Int32) = nI 1 from rfl, pz_add]; congr 1; omega
  have d2 : ∀ x : Nat, x < 2147483648 → nI x / 2 = nI (x / 2) := fun x hx => pk_div (d := 2) hx (by omega) (by omega)
  have tail : ∀ g : kv_H, g 112 = h 112 → ∀ m : Nat, m ≤ 999 → kv_k (nI (10 + 7 * i)) 3098 (kv_sw (g 112 (nI (10 + 7 * i)).toNatClampNeg) [1, 2, 3, 4, 5] [(some ((nI m + 5), g)), (some ((nI m / 2), g)), (kv_k (nI (10 + 7 * i) + 1) 3098 (some (((nI m + 5) + (g 112 (nI (10 + 7 * i) + 1).toNatClampNeg)), g))), (some (((nI m / 2) * 2), g)), (kv_b (f_X10_leaners (nI i) g) (fun r9 h8 => some ((nI m + r9), h8)))] (some (nI m, g))) = some (nI (pz_mi (D 0 i) m (D 1 i) (pz_ln D i n)), g) := by
    intro g eg m hm
    rw [pz_kN (by omega) (by omega), e3, pz_kN (by omega) (by omega), pz_cl (by omega), pz_cl (by omega), eg, ll.1, ll.2.1, pz_leaners10 (by rw [eg]; exact l) b i hi, pz_b, d2 _ (by omega), show (5 : Int32) = nI 5 from rfl, show (2 : Int32) = nI 2 from rfl, pz_add, pz_add, pz_add, pz_mul]
    have c : D 0 i = 5 ∨ D 0 i = 1 ∨ D 0 i = 3 ∨ D 0 i = 2 ∨ D 0 i = 4 ∨ D 0 i = 0 := by omega
    unfold pz_mi
    rcases c with z | z | z | z | z | z <;> rw [z] <;> rfl
  by_cases q : pz_law TX t 1 = 0
  · refine ⟨h, ?_, fun _ _ _ => rfl⟩
    rw [f_X10_miss, pz_leafAtU, pz_b, e0, e2, pz_kN (by omega) (by omega), pz_cl (by omega), ll.2.2.1, pz_vl, show f_X10_counts 1 h = _ from cn, pz_b, q, pz_jn, if_pos (by decide)]
    refine (tail h rfl (D 2 i) (by omega)).trans ?_
    rw [pz_ms, pz_pm, if_pos q]
  · obtain ⟨p, hp⟩ : ∃ p, pz_law TX t 1 = p + 1 := ⟨pz_law TX t 1 - 1, by omega⟩
    have pk := lw.2 (by omega)
    rw [hp] at pk
    have pk' : (TX p).1 = 1 := pk
    obtain ⟨h', x1, x2⟩ := pz_val10 (h := kv_up (kv_up (kv_up h 131 108 (nI (D 2 i))) 131 110 (nI i)) 131 115 (nI (D 1 i))) (by rw [pz_upne (by omega), pz_upne (by omega), pz_upne (by omega)]; exact tm) tb p (by omega) (pz_nm4 (nI (D 2 i)) (nI i) (nI (D 1 i)) (nI 0)) (by
      intro j hj
      rw [pk'] at hj ⊢
      have : j = 0 ∨ j = 1 ∨ j = 2 := by have : j < 3 := hj
                                         omega
      rcases this with rfl | rfl | rfl <;> rfl)
    have pb := pmb.2 q
    rw [hp] at pb
    have pb' : pz_clp (nI 0) (nI 999) (pz_val (TX p) (pz_nm4 (nI (D 2 i)) (nI i) (nI (D 1 i)) (nI 0))) = nI (pz_pm TX t D i) := pb
    have fr : h' 112 = h 112 := by rw [x2 112 (by omega), pz_upne (by omega), pz_upne (by omega), pz_upne (by omega)]
    refine ⟨h', ?_, ?_⟩
    · rw [f_X10_miss, pz_leafAtU, pz_b, e0, e2, pz_kN (by omega) (by omega), pz_cl (by omega), ll.2.2.1, pz_vl, show f_X10_counts 1 h = _ from cn, pz_b, hp, pz_jn, if_neg (show ¬ pz_on (p + 1) < 0 from pz_ng (by omega)), pz_hl, pz_hl, e3, pz_kN (by omega) (by omega), pz_hl, pz_cl (by omega), pz_upne (by omega), pz_upne (by omega), ll.2.1, show pz_on (p + 1) = nI p from rfl, x1, pz_b]
      have tl := tail h' fr (pz_pm TX t D i) pmb.1
      rw [e3, pz_cl (show 11 + 7 * i < 2147483648 by omega)] at tl
      rw [pz_ms]
      unfold pz_clp at pb'
      by_cases z1 : nI 0 ≤ pz_val (TX p) (pz_nm4 (nI (D 2 i)) (nI i) (nI (D 1 i)) (nI 0))
      · rw [if_pos z1] at pb'
        rw [if_pos (show (0 : Int32) ≤ _ from z1)]
        by_cases z2 : pz_val (TX p) (pz_nm4 (nI (D 2 i)) (nI i) (nI (D 1 i)) (nI 0)) ≤ nI 999
        · rw [if_pos z2] at pb'
          rw [if_pos (show _ ≤ (999 : Int32) from z2), pb']
          exact tl
        · rw [if_neg z2] at pb'
          rw [if_neg (show ¬ _ ≤ (999 : Int32) from z2), show (999 : Int32) = nI 999 from rfl, pb']
          exact tl
      · rw [if_neg z1] at pb'
        rw [if_neg (show ¬ (0 : Int32) ≤ _ from z1), show (0 : Int32) = nI 0 from rfl, pb']
        exact tl
    · intro a a1 a2; rw [x2 a a2, pz_upne a1, pz_upne a1, pz_upne a1]
/-- what `knows` leaves behind -/
def pz_K (h : kv_H) (n : Nat) (rm ms : Nat → Nat) : Prop := ∀ i, i < n → h 123 i = nI (rm i) ∧ h 124 i = nI (ms i)
theorem pz_knows {n t : Nat} {D : Nat → Nat → Nat} {TX : Nat → pz_T} {h : kv_H} (w : pz_M (h 112) n D t TX) : ∃ h', f_X10_knows h = some ((), h') ∧ pz_K h' n (pz_rm TX t D) (pz_ms TX t n D) ∧ ∀ a, a ≠ 131 → a ≠ 132 → a ≠ 123 → a ≠ 124 → h' a = h a := by
  have hn := w.2.1.1
  unfold f_X10_knows
  refine pz_for (fun m k (g : kv_H) => f_X10_knows_L2 m (nI k) g (fun h7 => some ((), h7))) (fun k g => pz_K g k (pz_rm TX t D) (pz_ms TX t n D) ∧ ∀ a, a ≠ 131 → a ≠ 132 → a ≠ 123 → a ≠ 124 → g a = h a) (fun R => ∃ h', R = some ((), h') ∧ pz_K h' n (pz_rm TX t D) (pz_ms TX t n D) ∧ ∀ a, a ≠ 131 → a ≠ 132 → a ≠ 123 → a ≠ 124 → h' a = h a) n ?_ ?_ kv_fu 0 _ (by omega) (by rw [show kv_fu = 5000 from rfl]; omega) ⟨fun i hi => absurd hi (by omega), fun _ _ _ _ _ => rfl⟩
  · intro m g ⟨g1, g2⟩
    refine ⟨g, ?_, g1, g2⟩
    show f_X10_knows_L2 (m + 1) (nI n) g _ = _
    rw [f_X10_knows_L2, g2 112 (by omega) (by omega) (by omega) (by omega), w.1.1, if_pos (nI_le (Nat.le_refl n) (by omega))]
  · intro m k g hk ⟨g1, g2⟩
    right
    have e112 := g2 112 (by omega) (by omega) (by omega) (by omega)
    obtain ⟨ga, a1, a2⟩ := pz_room10 (h := g) (by rw [e112]; exact w) k hk
    obtain ⟨gb, b1, b2⟩ := pz_miss10 (h := kv_up ga 123 k (nI (pz_rm TX t D k))) (by rw [pz_upne (by omega), a2 112 (by omega) (by omega), e112]; exact w) k hk
    refine ⟨kv_up gb 124 k (nI (pz_ms TX t n D k)), ⟨?_, ?_⟩, ?_⟩
    · intro i hi
      by_cases z : i = k
      · subst z
        refine ⟨?_, ?_⟩
        · rw [pz_upne (by omega), b2 123 (by omega) (by omega), pz_upeq, pz_upd, if_pos rfl]
        · rw [pz_upeq, pz_upd, if_pos rfl]
      · have := g1 i (by omega)
        refine ⟨?_, ?_⟩
        · rw [pz_upne (by omega), b2 123 (by omega) (by omega), pz_upeq, pz_upd, if_neg z, a2 123 (by omega) (by omega)]; exact this.1
        · rw [pz_upeq, pz_upd, if_neg z, b2 124 (by omega) (by omega), pz_upne (by omega), a2 124 (by omega) (by omega)]; exact this.2
    · intro a q1 q2 q3 q4
      rw [pz_upne q4, b2 a q1 q2, pz_upne q3, a2 a q1 q2]; exact g2 a q1 q2 q3 q4
    · show f_X10_knows_L2 (m + 1) (nI k) g _ = _
      rw [f_X10_knows_L2, e112, w.1.1, if_neg (nI_ge hk (by omega)), a1, pz_b, pz_kN (by omega) (by omega), pz_hl, pz_cl (by omega), b1, pz_b, pz_kN (by omega) (by omega), pz_hl, nI_1]

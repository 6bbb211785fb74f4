/-! PURE PART: as, why, textTold, at -/
theorem pz_as (x1 x2 : Int32) (h : kv_H) (c : pz_c5 h) : pz_op [5] pz_c5 (f_X9_as x1 x2) (f_X10_as x1 x2) h := by
  obtain ⟨n, D, t, TX, ch, V, X, sp, ru, ca, R, w⟩ := c
  have c : pz_c5 h := ⟨n, D, t, TX, ch, V, X, sp, ru, ca, R, w⟩
  have hn := w.1.2.1.2.1.1
  have l9 : h 82 8 = nI n := w.1.1.1
  have l10 : h 112 0 = nI n := w.1.2.1.1.1
  rcases pz_cases x1 n (by omega) with q | ⟨i, hi, rfl⟩
  · exact pz_op_same (-1000000001) c (by rw [f_X9_as, pz_leaf9B l9 (by omega) q]; rfl) (by rw [f_X10_as, pz_leaf10B l10 (by omega) q]; rfl)
  rcases pz_cases x2 6 (by omega) with q | ⟨k, hk, rfl⟩
  · exact pz_op_same (-1000000001) c (by rw [f_X9_as, pz_leaf9G l9 (by omega) hi, pz_b, if_neg (by decide), pz_isKindB q]; rfl) (by rw [f_X10_as, pz_leaf10G l10 (by omega) hi, pz_b, if_neg (by decide), pz_in_0_5B q]; rfl)
  have bb := w.1.2.1.2.1.2 i hi
  have a := w.1.1.2 i hi
  have b := w.1.2.1.1.2 i hi
  have a0 : h 83 i = nI (D 0 i) := a.1
  have a1 : h 84 i = nI (D 1 i) := a.2.1
  have e0 : (10 : Int32) + 7 * nI i = nI (10 + 7 * i) := by
    rw [show (7 : Int32) = nI 7 from rfl, pz_mul, show (10 : Int32) = nI 10 from rfl, pz_add]
  have e1 : nI (10 + 7 * i) + 1 = nI (11 + 7 * i) := by rw [nI_1]; congr 1; omega
  have F9 : f_X9_as (nI i) (nI k) h = (if pz_un (D 0 i) k = 0 then some (-1000000012, h) else some (nI (D 1 i), h)) := by
    rw [f_X9_as, pz_leaf9G l9 (by omega) hi, pz_b, if_neg (by decide), pz_isKindG hk, pz_b, if_neg (by decide), pz_kN (by omega) (by omega), pz_cl (by omega), a0, pz_under9 _ _ (by omega) _ hk, pz_b, pz_kN (by omega) (by omega), a1]
  have F10 : f_X10_as (nI i) (nI k) h = (if pz_un (D 0 i) k = 0 then some (-1000000012, h) else some (nI (D 1 i), h)) := by
    rw [f_X10_as, pz_leaf10G l10 (by omega) hi, pz_b, if_neg (by decide), pz_in_0_5G hk, pz_b, if_neg (by decide), pz_leafAtU, pz_b, e0, pz_kN (by omega) (by omega), pz_cl (by omega), b.1, pz_under10 _ _ (by omega) _ hk, pz_b, pz_leafAtU, pz_b, e0, e1, pz_kN (by omega) (by omega), pz_cl (by omega), b.2.1]
  rw [pz_ifs] at F9 F10
  exact pz_op_same _ c F9 F10
theorem pz_why (x : Int32) (h : kv_H) (c : pz_c5 h) : pz_op [5] pz_c5 (f_X9_why x) (f_X10_why x) h := by
  obtain ⟨n, D, t, TX, ch, V, X, sp, ru, ca, R, w⟩ := c
  have c : pz_c5 h := ⟨n, D, t, TX, ch, V, X, sp, ru, ca, R, w⟩
  rcases pz_cases x 3 (by omega) with q | ⟨k, hk, rfl⟩
  · refine pz_op_same (-1000000001) c ?_ (by rw [f_X10_why, pz_in_0_2B q]; rfl)
    rw [f_X9_why]
    rcases q with q | q
    · exact if_pos q
    · rw [if_neg (show ¬ x < (3 : Int32) by rw [pz_lt_not]; exact q)]; exact ite_self _
  · have m := w.1.2.1
    have lw : h 81 k = pz_none (pz_law TX t k) := w.1.2.2.2.2.2.1 k hk
    have lb := pz_law_le TX k t
    have ht := m.2.2.2.1.1
    refine pz_op_same (pz_none (pz_law TX t k)) c ?_ ?_
    · rw [f_X9_why, if_neg (pz_ng (by omega)), if_pos (show nI k < (3 : Int32) from nI_lt (b := 3) hk (by omega)), pz_kN hk (by omega), pz_cl (by omega), lw]
    · rw [f_X10_why, pz_in_0_2G hk, pz_b, if_neg (by decide), pz_counts m.2.2.1 m.2.2.2.1 m.2.2.2.2 k (by omega), pz_b, pz_orNoneU, pz_b]
      cases e : pz_law TX t k with
      | zero => rfl
      | succ p => rw [show pz_on (p + 1) = nI p from rfl, if_pos (pz_g0 (by omega))]; rfl
theorem pz_textTold (x1 x2 : Int32) (h : kv_H) (c : pz_c5 h) : pz_op [5] pz_c5 (f_X9_textTold x1 x2) (f_X10_textTold x1 x2) h := by
  obtain ⟨n, D, t, TX, ch, V, X, sp, ru, ca, R, w⟩ := c
  have c : pz_c5 h := ⟨n, D, t, TX, ch, V, X, sp, ru, ca, R, w⟩
  have m := w.1.2.1
  have ht := m.2.2.2.1.1
  have e9 : h 79 6 = nI t := w.1.2.2.2.2.2.2
  have e10 : h 112 1 = nI t := m.2.2.2.2
  rcases pz_cases x1 t (by omega) with q | ⟨i, hi, rfl⟩
  · refine pz_op_same (-1000000001) c ?_ ?_
    · rw [f_X9_textTold, e9]
      rcases q with q | q
      · exact if_pos q
      · rw [if_pos q]; exact ite_self _
    · rw [f_X10_textTold, pz_isTextU10, e10, if_pos (show x1 < 0 ∨ nI t - 1 < x1 from of_eq_true (pz_hasT q (by omega)).2)]; rfl
  have T10 : f_X10_isText (nI i) h = some (1, h) := by
    rw [pz_isTextU10, e10, show (1 : Int32) = nI 1 from rfl, pz_sub (by omega), if_neg (pz_goodI (n := t - 1) (by omega) (by omega))]
  have T9 : f_X9_textTold (nI i) x2 h = (if x2 < 0 then some (-1000000001, h) else if x2 ≤ 1 then (if x2 = 0 then some (h (51 + 2 * i) 2, h) else some (h (51 + 2 * i) 3, h)) else some (-1000000001, h)) := by
    rw [f_X9_textTold, e9, if_neg (pz_ng (by omega)), if_neg (nI_ge hi (by omega)), pz_kN (by omega) (by omega), pz_kN (by omega) (by omega), pz_cl (by omega)]
  rcases pz_cases x2 2 (by omega) with q | ⟨k, hk, rfl⟩
  · refine pz_op_same (-1000000001) c ?_ (by rw [f_X10_textTold, T10, pz_b, if_neg (by decide), pz_in_0_1B q]; rfl)
    rw [T9]
    rcases pz_badI (n := 1) q (by omega) with z | z
    · exact if_pos z
    · rw [if_neg (show ¬ x2 ≤ (1 : Int32) from (pz_lt_asym z).2.1)]; exact ite_self _
  · have a := w.1.2.2.2.2.1 i hi
    have b := m.2.2.1 i hi
    have e0 : (98 : Int32) + 200 * nI i + nI k = nI (98 + 200 * i + k) := by
      rw [show (200 : Int32) = nI 200 from rfl, pz_mul, show (98 : Int32) = nI 98 from rfl, pz_add, pz_add]
    have : k = 0 ∨ k = 1 := by omega
    rcases this with rfl | rfl
    · refine pz_op_same (nI (TX i).1) c (by rw [T9, a.2.1]; rfl) ?_
      rw [f_X10_textTold, T10, pz_b, if_neg (by decide), pz_in_0_1G hk, pz_b, if_neg (by decide), pz_textAtU, pz_b, e0, pz_kN (by omega) (by omega), pz_cl (by omega), Nat.add_zero, b.1]
    · refine pz_op_same (nI (TX i).2.1) c (by rw [T9, a.2.2.1]; rfl) ?_
      rw [f_X10_textTold, T10, pz_b, if_neg (by decide), pz_in_0_1G hk, pz_b, if_neg (by decide), pz_textAtU, pz_b, e0, pz_kN (by omega) (by omega), pz_cl (by omega), show 98 + 200 * i + 1 = 99 + 200 * i from by omega, b.2.1]

def kv_wF : List kd_E := [.inr (.inr (9, [.ref 1, .ref 33, .ref 49, .ref 65, .ref 68, .ref 71, .ref 72, .ref 73, .ref 74, .ref 75, .int 0, .int 0])), .inr (.inr (7, [.ref 2, .ref 3, .ref 4])), .inr (.inl (6, [some 5, some 7, some 9, some 11, some 13, some 15, some 17, some 19, some 21, some 23, some 25, some 27, some 29, some 31])), .inl (96, fun _ => 0), .inl (4, fun _ => 0), .inr (.inr (6, [.ref 6, .int 0, .int 0, .int 0])), .inl (96, fun _ => 0), .inr (.inr (6, [.ref 8, .int 0, .int 0, .int 0])), .inl (96, fun _ => 0), .inr (.inr (6, [.ref 10, .int 0, .int 0, .int 0])), .inl (96, fun _ => 0), .inr (.inr (6, [.ref 12, .int 0, .int 0, .int 0])), .inl (96, fun _ => 0), .inr (.inr (6, [.ref 14, .int 0, .int 0, .int 0])), .inl (96, fun _ => 0), .inr (.inr (6, [.ref 16, .int 0, .int 0, .int 0])), .inl (96, fun _ => 0), .inr (.inr (6, [.ref 18, .int 0, .int 0, .int 0])), .inl (96, fun _ => 0), .inr (.inr (6, [.ref 20, .int 0, .int 0, .int 0])), .inl (96, fun _ => 0), .inr (.inr (6, [.ref 22, .int 0, .int 0, .int 0])), .inl (96, fun _ => 0), .inr (.inr (6, [.ref 24, .int 0, .int 0, .int 0])), .inl (96, fun _ => 0), .inr (.inr (6, [.ref 26, .int 0, .int 0, .int 0])), .inl (96, fun _ => 0), .inr (.inr (6, [.ref 28, .int 0, .int 0, .int 0])), .inl (96, fun _ => 0), .inr (.inr (6, [.ref 30, .int 0, .int 0, .int 0])), .inl (96, fun _ => 0), .inr (.inr (6, [.ref 32, .int 0, .int 0, .int 0])), .inl (96, fun _ => 0), .inr (.inr (8, [.ref 1, .ref 34, .ref 43, .ref 47, .ref 48, .int 0, .int 0, .int 12, .int 0, .int 0])), .inr (.inr (1, [.ref 35, .ref 36, .ref 37, .ref 38, .ref 39, .ref 40, .ref 41, .ref 42, .int 0])), .inl (8, fun _ => 0), .inl (8, fun _ => 0), .inl (8, fun _ => 0), .inl (8, fun _ => 0), .inl (8, fun _ => 0), .inl (8, fun _ => 0), .inl (8, fun _ => 0), .inl (8, fun _ => 0), .inr (.inr (0, [.ref 44, .ref 45, .ref 46, .int 0, .int 0, .int 0, .int 0, .int 1])), .inl (8, fun _ => 0), .inl (8, fun _ => 0), .inl (8, fun _ => 0), .inl (24, fun _ => 0), .inl (3, upd (upd (upd (fun _ => 0) 0 (-1000000005)) 1 (-1000000005)) 2 (-1000000005)), .inr (.inr (8, [.ref 1, .ref 50, .ref 59, .ref 63, .ref 64, .int 0, .int 0, .int 12, .int 0, .int 0])), .inr (.inr (1, [.ref 51, .ref 52, .ref 53, .ref 54, .ref 55, .ref 56, .ref 57, .ref 58, .int 0])), .inl (8, fun _ => 0), .inl (8, fun _ => 0), .inl (8, fun _ => 0), .inl (8, fun _ => 0), .inl (8, fun _ => 0), .inl (8, fun _ => 0), .inl (8, fun _ => 0), .inl (8, fun _ => 0), .inr (.inr (0, [.ref 60, .ref 61, .ref 62, .int 0, .int 0, .int 0, .int 0, .int 1])), .inl (8, fun _ => 0), .inl (8, fun _ => 0), .inl (8, fun _ => 0), .inl (24, fun _ => 0), .inl (3, upd (upd (upd (fun _ => 0) 0 (-1000000005)) 1 (-1000000005)) 2 (-1000000005)), .inr (.inr (5, [.ref 66, .int 0, .ref 67, .int 0, .int 0, .int 0, .int 0, .int 0, .int 0, .int 0])), .inl (96, fun _ => 0), .inl (96, fun _ => 0), .inr (.inr (2, [.ref 69, .ref 70, .int 0, .int 0])), .inl (256, fun _ => 0), .inl (256, fun _ => 0), .inr (.inl (0, [some 76, some 80, some 84])), .inl (2, fun _ => 0), .inr (.inl (3, [some 88, some 90, some 92, some 94])), .inr (.inl (4, [some 96, some 99, some 102, some 105, some 108])), .inl (60, fun _ => 0), .inr (.inr (0, [.ref 77, .ref 78, .ref 79, .int 0, .int 0, .int 0, .int 0, .int 1])), .inl (8, fun _ => 0), .inl (8, fun _ => 0), .inl (8, fun _ => 0), .inr (.inr (0, [.ref 81, .ref 82, .ref 83, .int 0, .int 0, .int 0, .int 0, .int 1])), .inl (8, fun _ => 0), .inl (8, fun _ => 0), .inl (8, fun _ => 0), .inr (.inr (0, [.ref 85, .ref 86, .ref 87, .int 0, .int 0, .int 0, .int 0, .int 1])), .inl (8, fun _ => 0), .inl (8, fun _ => 0), .inl (8, fun _ => 0), .inr (.inr (3, [.ref 89, .int (-1), .int 0])), .inl (24, fun _ => 0), .inr (.inr (3, [.ref 91, .int (-1), .int 0])), .inl (24, fun _ => 0), .inr (.inr (3, [.ref 93, .int (-1), .int 0])), .inl (24, fun _ => 0), .inr (.inr (3, [.ref 95, .int (-1), .int 0])), .inl (24, fun _ => 0), .inr (.inr (4, [.ref 97, .int 0, .int 0, .int 0, .int 0, .int 0, .int 0])), .inr (.inr (3, [.ref 98, .int (-1), .int 0])), .inl (24, fun _ => 0), .inr (.inr (4, [.ref 100, .int 0, .int 0, .int 0, .int 0, .int 0, .int 0])), .inr (.inr (3, [.ref 101, .int (-1), .int 0])), .inl (24, fun _ => 0), .inr (.inr (4, [.ref 103, .int 0, .int 0, .int 0, .int 0, .int 0, .int 0])), .inr (.inr (3, [.ref 104, .int (-1), .int 0])), .inl (24, fun _ => 0), .inr (.inr (4, [.ref 106, .int 0, .int 0, .int 0, .int 0, .int 0, .int 0])), .inr (.inr (3, [.ref 107, .int (-1), .int 0])), .inl (24, fun _ => 0), .inr (.inr (4, [.ref 109, .int 0, .int 0, .int 0, .int 0, .int 0, .int 0])), .inr (.inr (3, [.ref 110, .int (-1), .int 0])), .inl (24, fun _ => 0), .inr (.inr (10, [.ref 112, .ref 113, .ref 114, .int 0, .ref 115, .ref 116, .ref 117, .ref 118, .ref 119, .ref 120, .ref 121, .ref 122, .ref 123, .ref 124, .ref 125, .ref 126, .ref 127, .ref 128, .ref 129, .int 0, .ref 130, .int 0, .int 0, .int 0, .int 0, .int 0, .int 0, .int 0, .int 0, .int 0, .int 0, .int 0, .ref 131, .ref 132, .ref 133, .ref 134, .int 0, .ref 135])), .inl (3098, upd (upd (fun _ => 0) 3 12) 9 1), .inl (3098, fun _ => 0), .inl (3098, fun _ => 0), .inl (4, upd (upd (upd (upd (fun _ => 0) 0 (-1)) 1 (-1)) 2 (-1)) 3 (-1)), .inl (4, fun _ => 0), .inl (96, fun _ => 0), .inl (5, fun _ => 0), .inl (5, fun _ => 0), .inl (5, fun _ => 0), .inl (5, fun _ => 0), .inl (120, fun _ => 0), .inl (8, fun _ => 0), .inl (8, fun _ => 0), .inl (256, fun _ => 0), .inl (98, fun _ => 0), .inl (24, fun _ => 0), .inl (256, fun _ => 0), .inl (256, fun _ => 0), .inl (96, fun _ => 0), .inl (128, fun _ => 0), .inl (100, fun _ => 0), .inl (24, fun _ => 0), .inl (60, fun _ => 0), .inl (60, fun _ => 0)]
def kv_pi : List Nat := [0, 71, 72, 73, 74, 75, 76, 77, 78, 79, 80, 81, 82, 83, 84, 85, 86, 87, 88, 89, 90, 91, 92, 93, 94, 95, 96, 97, 98, 99, 100, 101, 102, 103, 104, 105, 106, 107, 108, 109, 110, 65, 66, 67, 68, 69, 70, 1, 2, 3, 4, 5, 6, 7, 8, 9, 10, 11, 12, 13, 14, 15, 16, 17, 18, 19, 20, 21, 22, 23, 24, 25, 26, 27, 28, 29, 30, 31, 32, 33, 47, 48, 34, 35, 36, 37, 38, 39, 40, 41, 42, 43, 44, 45, 46, 49, 63, 64, 50, 51, 52, 53, 54, 55, 56, 57, 58, 59, 60, 61, 62, 111, 112, 113, 114, 115, 116, 117, 118, 119, 120, 121, 122, 123, 124, 125, 126, 127, 128, 129, 130, 131, 132, 133, 134, 135]
def kv_h0 : kv_H := fun k j => match kv_wF[kv_pi.getD k 0]? with
  | some (.inl (_, f)) => f j
  | some (.inr (.inr (_, fs))) => (match fs[j]? with | some (.int v) => v | _ => 0)
  | _ => 0
def kv_ck (k : Nat) : Bool := match kv_sh[k]?, kv_wF[kv_pi.getD k 0]? with
  | some (.inl (n, none)), some (.inl (n2, _)) => n == n2
  | some (.inl (n, some (c, b, t))), some (.inr (.inl (c2, L))) => n == L.length && (c == c2 && (List.range n).all (fun j => (L.getD j none == some (kv_pi.getD (b + t * j) 0)) && decide (b + t * j < 136)))
  | some (.inr (c, fd)), some (.inr (.inr (c2, fs))) => c == c2 && (fd.length == fs.length && (List.range fd.length).all (fun j => match fd[j]?, fs[j]? with | some none, some (.int _) => true | some (some q), some (.ref r) => (r == kv_pi.getD q 0) && decide (q < 136) | _, _ => false))
  | _, _ => false
theorem kv_ck_all : (List.range 136).all kv_ck = true := by decide +kernel
theorem kv_arrV {cI : ClassId} {n : Nat} {f g : Nat → Value} (h : ∀ j, j < n → f j = g j) : arrV cI n f = arrV cI n g := by
  unfold arrV
  have : (fun (j : Fin n) => f j.val) = fun (j : Fin n) => g j.val := funext (fun j => h j.val j.isLt)
  rw [this]
theorem kv_conv {G Gs : kv_G} {H : Heap} (hB : Gs.1 = G.1 ∧ Gs.2.1 = G.2.1 ∧ Gs.2.2.1 = G.2.2.1) (had : ∀ k, k < 136 → kv_ad Gs k = kv_ad G (kv_pi.getD k 0)) (hP : va_P G.2.2.1 kv_cl (kd_w G kv_wF) H) : va_P Gs.2.2.1 kv_cl (kv_w Gs kv_h0) H := by
  intro k q hk
  unfold kv_w at hk
  rw [List.getElem?_mapIdx] at hk
  cases hs : kv_sh[k]? with
  | none => rw [hs] at hk; cases hk
  | some d =>
    rw [hs] at hk
    cases hk
    have hk136 : k < 136 := kv_lt hs
    have hck := List.all_eq_true.mp kv_ck_all k (List.mem_range.mpr hk136)
    unfold kv_ck at hck
    rw [hs] at hck
    rw [had k hk136]
    cases hw : kv_wF[kv_pi.getD k 0]? with
    | none => rw [hw] at hck; rcases d with ⟨n, _ | ⟨c, b, t⟩⟩ | ⟨c, fd⟩ <;> cases hck
    | some e =>
      rw [hw] at hck
      have hat := hP _ _ (kd_w_at hw)
      rcases d with ⟨n, _ | ⟨c, b, t⟩⟩ | ⟨c, fd⟩
      · rcases e with ⟨n2, f⟩ | ⟨c2, L⟩ | ⟨c2, fs⟩
        · have hn : n = n2 := by simpa using hck
          subst hn
          have hf : kv_h0 k = f := by
            funext j
            unfold kv_h0
            rw [hw]
          show H[kv_ad G (kv_pi.getD k 0)]? = some (vp_cell Gs.1 (n, .inl (kv_h0 k)))
          rw [hf, hB.1]
          exact hat
        · cases hck
        · cases hck
      · rcases e with ⟨n2, f⟩ | ⟨c2, L⟩ | ⟨c2, fs⟩
        · cases hck
        · simp only [Bool.and_eq_true, beq_iff_eq, List.all_eq_true, List.mem_range, decide_eq_true_eq] at hck
          obtain ⟨hn, hc, hall⟩ := hck
          subst hn hc
          show H[kv_ad G (kv_pi.getD k 0)]? = some (vp_cell (Gs.2.1 c) (L.length, .inr (.inr (.inr (.inr (fun j => some (kv_ad Gs (b + t * j))))))))
          have h2 : H[kv_ad G (kv_pi.getD k 0)]? = some (vp_cell (G.2.1 c) (L.length, .inr (.inr (.inr (.inr (fun j => (L.getD j none).map (kv_ad G))))))) := hat
          rw [h2, hB.2.1]
          congr 1
          rw [vp_cell_q, vp_cell_q]
          refine kv_arrV (fun j hj => ?_)
          obtain ⟨h3, h4⟩ := hall j hj
          rw [h3, had _ h4]
          rfl
        · cases hck
      · rcases e with ⟨n2, f⟩ | ⟨c2, L⟩ | ⟨c2, fs⟩
        · cases hck
        · cases hck
        · simp only [Bool.and_eq_true, beq_iff_eq, List.all_eq_true, List.mem_range] at hck
          obtain ⟨hc, hl, hall⟩ := hck
          subst hc
          have hfs : fd.mapIdx (kv_f Gs kv_h0 k) = fs.map (kv_v G) := by
            apply List.ext_getElem?
            intro j
            rw [List.getElem?_mapIdx, List.getElem?_map]
            by_cases hj : j < fd.length
            · have h3 := hall j hj
              cases h5 : fd[j]? with
              | none => rw [List.getElem?_eq_none_iff] at h5; omega
              | some x =>
                cases h6 : fs[j]? with
                | none => rw [List.getElem?_eq_none_iff] at h6; omega
                | some y =>
                  rw [h5, h6] at h3
                  cases x with
                  | none =>
                    cases y <;> first | cases h3 | skip
                    rename_i v
                    show some (Value.int (kv_h0 k j)) = some (Value.int v)
                    have : kv_h0 k j = v := by
                      unfold kv_h0
                      rw [hw]
                      show (match fs[j]? with | some (.int v) => v | _ => 0) = v
                      rw [h6]
                    rw [this]
                  | some q2 =>
                    cases y <;> first | cases h3 | skip
                    rename_i r
                    simp only [Bool.and_eq_true, beq_iff_eq, decide_eq_true_eq] at h3
                    show some (Value.ref (kv_ad Gs q2)) = some (Value.ref (kv_ad G r))
                    rw [had q2 h3.2, h3.1]
            · rw [List.getElem?_eq_none (by omega), List.getElem?_eq_none (by omega)]
              rfl
          show ∃ r : vw_C, kv_cl[c]? = some r ∧ t_OB (kv_ad G (kv_pi.getD k 0)) (Gs.2.2.1.1 c) r.2.2 (Gs.2.2.1.2 c) H (vp_V (fd.mapIdx (kv_f Gs kv_h0 k)))
          rw [hfs, hB.2.2]
          exact hat
theorem kv_pi_inj : ∀ i, i < 136 → ∀ j, j < 136 → kv_pi.getD i 0 = kv_pi.getD j 0 → i = j := by decide +kernel
theorem kv_pi_lt : ∀ i, i < 136 → kv_pi.getD i 0 < 136 := by decide +kernel
theorem kv_wF_len : kv_wF.length = 136 := by decide +kernel
theorem kv_conv_J {G Gs : kv_G} {A : Nat → Prop} (had : ∀ k, k < 136 → kv_ad Gs k = kv_ad G (kv_pi.getD k 0)) (hD : va_D A (kd_w G kv_wF)) : kv_J Gs ∧ ∀ q, kv_A Gs q → A q := by
  have at1 : ∀ i, i < 136 → ∃ e, (kd_w G kv_wF)[kv_pi.getD i 0]? = some (kv_ad Gs i, e) := by
    intro i hi
    have h1 : kv_pi.getD i 0 < kv_wF.length := by rw [kv_wF_len]; exact kv_pi_lt i hi
    exact ⟨_, by rw [kd_w_at (List.getElem?_eq_getElem h1), had i hi]⟩
  refine ⟨fun i j hi hj e => ?_, fun q hq => ?_⟩
  · obtain ⟨x, hx⟩ := at1 i hi
    obtain ⟨y, hy⟩ := at1 j hj
    exact kv_pi_inj i hi j hj (hD.1 _ _ _ _ hx hy e)
  · obtain ⟨k, hk, rfl⟩ := hq
    obtain ⟨x, hx⟩ := at1 k hk
    exact hD.2 _ _ hx


/-! PURE PART: draws, deal -/
theorem pz_znX : ∃ f : Int32 → Int32, ∀ z, f z = z * 1103515245 + 12345 := ⟨fun z => z * 1103515245 + 12345, fun _ => rfl⟩
noncomputable def pz_zn : Int32 → Int32 := Classical.choose pz_znX
theorem pz_znE (z : Int32) : z * 1103515245 + 12345 = pz_zn z := (Classical.choose_spec pz_znX z).symm
theorem pz_dzX : ∃ f : Int32 → Nat, ∀ z : Int32, f z < 16777216 ∧ (z.toUInt32 >>> (Int32.toUInt32 8 &&& Int32.toUInt32 31)).toInt32 = nI (f z) := by
  refine ⟨fun z => z.toBitVec.toNat / 256, fun z => ?_⟩
  have lt := z.toBitVec.isLt
  have b : z.toBitVec.toNat / 256 < 16777216 := by omega
  refine ⟨b, ?_⟩
  have e := pk_ushr z 8 8 rfl
  apply Int32.toBitVec_inj.mp
  apply BitVec.eq_of_toNat_eq
  rw [e]
  show _ = z.toBitVec.toNat / 256 % 4294967296
  rw [Nat.mod_eq_of_lt (by omega)]
noncomputable def pz_dz : Int32 → Nat := Classical.choose pz_dzX
theorem pz_dzB (z : Int32) : pz_dz z < 16777216 := (Classical.choose_spec pz_dzX z).1
theorem pz_dzE (z : Int32) : (z.toUInt32 >>> (Int32.toUInt32 8 &&& Int32.toUInt32 31)).toInt32 = nI (pz_dz z) := (Classical.choose_spec pz_dzX z).2
theorem pz_draw9 {k : Nat} {z : Int32} {h : kv_H} (e : h k 7 = z) : f_X0_draw k h = some (nI (pz_dz (pz_zn z)), kv_up h k 7 (pz_zn z)) := by
  rw [f_X0_draw, pz_hl, pz_upeq, pz_upd, if_pos rfl, e, pz_znE, pz_dzE]
theorem pz_draw10 {z : Int32} {h : kv_H} (e : h 112 9 = z) : f_X10_drawn h = some (nI (pz_dz (pz_zn z)), kv_up h 112 9 (pz_zn z)) := by
  rw [f_X10_drawn, pz_hl, pz_upeq, pz_upd, if_pos rfl, e, pz_znE, pz_dzE]
theorem pz_mod {d : Nat} (z : Int32) (h0 : 0 < d) (hd : d < 2147483648) : nI (pz_dz z) - nI (pz_dz z) / nI d * nI d = nI (pz_dz z % d) := pk_rem (Nat.lt_trans (pz_dzB z) (by decide)) h0 hd
noncomputable def pz_don (z : Int32) (n : Nat) : Nat := if pz_dz z % (1 + n) = n then 0 else pz_dz z % (1 + n) + 1
noncomputable def pz_dl : Nat → Nat → (Nat → Nat → Nat) → Int32 → (Nat → Nat → Nat) × Int32
  | 0, _, D, z => (D, z)
  | m + 1, n, D, z => pz_dl m (n + 1) (pz_dadd D n 0 (1 + pz_dz (pz_zn z) % 9) (pz_dz (pz_zn (pz_zn z)) % 100) (pz_don (pz_zn (pz_zn (pz_zn z))) n)) (pz_zn (pz_zn (pz_zn z)))
theorem pz_donL (z : Int32) (n : Nat) : pz_don z n ≤ n := by
  unfold pz_don
  have := Nat.mod_lt (pz_dz z) (show 0 < 1 + n from by omega)
  split <;> omega
theorem pz_deal9 (c : Nat) (C : kv_H → Option (Int32 × kv_H)) (hc : c ≤ 8) : ∀ (m k n : Nat) (D : Nat → Nat → Nat) (z : Int32) (h : kv_H) (fu : Nat), k + m = c → n + m ≤ 8 → m < fu → pz_LC h 82 n D → h 91 7 = z → ∃ h', f_X9_deal_L34 (nI c) fu (nI k) h C = C h' ∧ pz_LC h' 82 (n + m) (pz_dl m n D z).1 ∧ h' 91 7 = (pz_dl m n D z).2 ∧ (∀ a, (a < 82 ∨ 87 < a) → a ≠ 91 → h' a = h a) ∧ (∀ b, b ≠ 7 → h' 91 b = h 91 b) := by
  intro m
  induction m with
  | zero =>
    intro k n D z h fu e1 e2 e3 lc ez
    obtain ⟨f, rfl⟩ : ∃ f, fu = f + 1 := ⟨fu - 1, by omega⟩
    refine ⟨h, ?_, lc, ez, fun _ _ _ => rfl, fun _ _ => rfl⟩
    rw [f_X9_deal_L34, if_pos (nI_le (by omega) (by omega))]
  | succ m ih =>
    intro k n D z h fu e1 e2 e3 lc ez
    obtain ⟨f, rfl⟩ : ∃ f, fu = f + 1 := ⟨fu - 1, by omega⟩
    obtain ⟨g, eg⟩ : ∃ g, g = kv_up (kv_up (kv_up h 91 7 (pz_zn z)) 91 7 (pz_zn (pz_zn z))) 91 7 (pz_zn (pz_zn (pz_zn z))) := ⟨_, rfl⟩
    have g0 : ∀ a, a ≠ 91 → g a = h a := fun a q => by rw [eg]; simp (disch := omega) only [pz_upne, pz_upeq, pz_upd, if_neg, if_pos, if_true, if_false]
    have g1 : ∀ b, b ≠ 7 → g 91 b = h 91 b := fun b q => by rw [eg]; simp (disch := omega) only [pz_upne, pz_upeq, pz_upd, if_neg, if_pos, if_true, if_false]
    have g2 : g 91 7 = pz_zn (pz_zn (pz_zn z)) := by rw [eg]; simp (disch := omega) only [pz_upne, pz_upeq, pz_upd, if_neg, if_pos, if_true, if_false]
    have lg : pz_LC g 82 n D := by
      refine ⟨by rw [g0 _ (by omega)]; exact lc.1, fun i hi => ?_⟩
      rw [g0 _ (by omega), g0 _ (by omega), g0 _ (by omega), g0 _ (by omega), g0 _ (by omega)]; exact lc.2 i hi
    obtain ⟨ha, a1, a2, a3⟩ := pz_add9 lg (by omega) 0 (1 + pz_dz (pz_zn z) % 9) (pz_dz (pz_zn (pz_zn z)) % 100) (pz_don (pz_zn (pz_zn (pz_zn z))) n)
    have dl : f_X9_drawLeaf h = some ((), ha) := by
      rw [f_X9_drawLeaf, pz_vl, pz_draw9 ez, pz_b, pz_vl, pz_draw9 (show kv_up h 91 7 (pz_zn z) 91 7 = pz_zn z from by simp (disch := omega) only [pz_upne, pz_upeq, pz_upd, if_neg, if_pos, if_true, if_false]), pz_b, pz_vl, pz_draw9 (show kv_up (kv_up h 91 7 (pz_zn z)) 91 7 (pz_zn (pz_zn z)) 91 7 = pz_zn (pz_zn z) from by simp (disch := omega) only [pz_upne, pz_upeq, pz_upd, if_neg, if_pos, if_true, if_false]), pz_b, ← eg, show h 82 8 = nI n from lc.1, show (1 : Int32) = nI 1 from rfl, pz_add, pz_z (fun y => absurd ((nI_eq (a := 1 + n) (b := 0) (by omega) (by omega)).mp y) (by omega)), pz_mod _ (by omega) (by omega), pz_vl, show (9 : Int32) = nI 9 from rfl, pz_mod _ (by omega) (by omega), pz_add, show (100 : Int32) = nI 100 from rfl, pz_mod _ (by omega) (by omega)]
      have md := Nat.mod_lt (pz_dz (pz_zn (pz_zn (pz_zn z)))) (show 0 < 1 + n from by omega)
      unfold pz_don at a1
      by_cases q : pz_dz (pz_zn (pz_zn (pz_zn z))) % (1 + n) = n
      · rw [if_pos (by rw [q])]
        rw [if_pos q] at a1
        rw [show (-nI 1) = pz_on 0 from rfl, show (0 : Int32) = nI 0 from rfl, a1, pz_b]
      · rw [if_neg (fun y => q ((nI_eq (by omega) (by omega)).mp y))]
        rw [if_neg q] at a1
        rw [show (0 : Int32) = nI 0 from rfl, show nI (pz_dz (pz_zn (pz_zn (pz_zn z))) % (1 + n)) = pz_on (pz_dz (pz_zn (pz_zn (pz_zn z))) % (1 + n) + 1) from rfl, a1, pz_b]
    obtain ⟨h', b1, b2, b3, b4, b5⟩ := ih (k + 1) (n + 1) _ (pz_zn (pz_zn (pz_zn z))) ha f (by omega) (by omega) (by omega) a2 (by rw [a3 _ (by omega)]; exact g2)
    refine ⟨h', ?_, ?_, b3, ?_, ?_⟩
    · rw [f_X9_deal_L34, if_neg (nI_ge (by omega) (by omega)), dl, pz_b, nI_1]; exact b1
    · rw [show n + (m + 1) = n + 1 + m from by omega]; exact b2
    · intro a q1 q2; rw [b4 a q1 q2, a3 a q1, g0 a q2]
    · intro b q; rw [b5 b q, a3 91 (by omega), g1 b q]
def pz_X2 (X : Nat → Int32) (z : Int32) : Nat → Int32 := fun i => if i = 2 then z else X i
theorem pz_X2_CM {s s' : Nat → Int32} {n : Nat} {V : List Nat} {X : Nat → Int32} {z : Int32} (hn : n ≤ 8) (vl : V.length ≤ 8) (cm : pz_CM s n V X) (f : ∀ b, b ≠ 9 → s' b = s b) (e : s' 9 = z) : pz_CM s' n V (pz_X2 X z) := by
  obtain ⟨b1, b2, b3, b4, b5, b6⟩ := cm
  have il : ∀ i v, V[i]? = some v → i < 8 := fun i v hv => by
    obtain ⟨q, _⟩ := List.getElem?_eq_some_iff.mp hv
    omega
  refine ⟨by rw [f _ (by omega)]; exact b1, by rw [f _ (by omega)]; exact b2, by rw [f _ (by omega)]; exact b3, e, ?_, ?_⟩
  · intro i v hv
    have := il i v hv
    rw [f _ (by omega)]; exact b5 i v hv
  · intro i hi
    unfold pz_X2
    rw [f _ (by omega), f _ (by omega), if_neg (by omega), if_neg (by omega)]; exact b6 i hi
theorem pz_X2_CB {n : Nat} {V : List Nat} {X : Nat → Int32} (z : Int32) (cb : pz_CB n V X) : pz_CB n V (pz_X2 X z) := by
  refine ⟨cb.1, cb.2.1, fun i h1 h2 => ?_⟩
  unfold pz_X2
  rw [if_neg (by omega), if_neg (by omega)]; exact cb.2.2 i h1 h2
theorem pz_X2_2 (X : Nat → Int32) (y z : Int32) : pz_X2 (pz_X2 X y) z = pz_X2 X z := by
  funext i; unfold pz_X2; by_cases q : i = 2
  · rw [if_pos q, if_pos q]
  · rw [if_neg q, if_neg q, if_neg q]
theorem pz_X2_s {X : Nat → Int32} : pz_X2 X (X 2) = X := by
  funext i; unfold pz_X2; by_cases q : i = 2
  · rw [if_pos q, q]
  · rw [if_neg q]
theorem pz_deal10 (c : Nat) (V : List Nat) (t : Nat) (TX : Nat → pz_T) (C : Int32 → kv_H → Option (Int32 × kv_H)) (hc : c ≤ 8) : ∀ (m k n : Nat) (D : Nat → Nat → Nat) (X : Nat → Int32) (h : kv_H) (fu : Nat), k + m ≤ c → n + m ≤ 8 → (k + m = c ∨ n + m = 8) → m < fu → pz_M (h 112) n D t TX → pz_CM (h 112) n V X → pz_CB n V X → ∃ h', f_X10_deal_L17 (nI c) fu (nI k) h C = C (nI (k + m)) h' ∧ pz_M (h' 112) (n + m) (pz_dl m n D (X 2)).1 t TX ∧ pz_CM (h' 112) (n + m) V (pz_X2 X (pz_dl m n D (X 2)).2) ∧ pz_CB (n + m) V (pz_X2 X (pz_dl m n D (X 2)).2) ∧ (∀ a, a ≠ 112 → h' a = h a) ∧ (∀ b, b = 3 ∨ b = 4 ∨ b = 5 ∨ b = 8 ∨ (74 ≤ b ∧ b < 98) → h' 112 b = h 112 b) := by
  intro m
  induction m with
  | zero =>
    intro k n D X h fu e1 e2 e4 e3 mm cm cb
    obtain ⟨f, rfl⟩ : ∃ f, fu = f + 1 := ⟨fu - 1, by omega⟩
    refine ⟨h, ?_, mm, ?_, ?_, fun _ _ => rfl, fun _ _ => rfl⟩
    · by_cases q : k = c
      · rw [f_X10_deal_L17, if_pos (nI_le (by omega) (by omega))]; rfl
      · rw [f_X10_deal_L17, if_neg (nI_ge (by omega) (by omega)), if_pos (show (8 : Int32) ≤ h 112 0 from by rw [mm.1.1]; exact nI_le (a := 8) (by omega) (by omega))]; rfl
    · show pz_CM _ _ _ (pz_X2 X (X 2)); rw [pz_X2_s]; exact cm
    · show pz_CB _ _ (pz_X2 X (X 2)); rw [pz_X2_s]; exact cb
  | succ m ih =>
    intro k n D X h fu e1 e2 e4 e3 mm cm cb
    obtain ⟨f, rfl⟩ : ∃ f, fu = f + 1 := ⟨fu - 1, by omega⟩
    have vl : V.length ≤ 8 := Nat.le_trans (pz_nodup_le n V cb.1 cb.2.1) (by omega)
    obtain ⟨z, ez⟩ : ∃ z, z = X 2 := ⟨_, rfl⟩
    have e9 : h 112 9 = z := by rw [ez]; exact cm.2.2.2.1
    obtain ⟨g, eg⟩ : ∃ g, g = kv_up (kv_up (kv_up h 112 9 (pz_zn z)) 112 9 (pz_zn (pz_zn z))) 112 9 (pz_zn (pz_zn (pz_zn z))) := ⟨_, rfl⟩
    have g0 : ∀ a, a ≠ 112 → g a = h a := fun a q => by rw [eg]; simp (disch := omega) only [pz_upne, pz_upeq, pz_upd, if_neg, if_pos, if_true, if_false]
    have g1 : ∀ b, b ≠ 9 → g 112 b = h 112 b := fun b q => by rw [eg]; simp (disch := omega) only [pz_upne, pz_upeq, pz_upd, if_neg, if_pos, if_true, if_false]
    have g2 : g 112 9 = pz_zn (pz_zn (pz_zn z)) := by rw [eg]; simp (disch := omega) only [pz_upne, pz_upeq, pz_upd, if_neg, if_pos, if_true, if_false]
    have mg : pz_M (g 112) n D t TX := pz_M_fr mm (g1 _ (by omega)) (g1 _ (by omega)) (fun i j q1 q2 => g1 _ (by omega)) (fun b q1 q2 => g1 _ (by omega))
    have md9 := Nat.mod_lt (pz_dz (pz_zn z)) (show 0 < 9 from by omega)
    have md100 := Nat.mod_lt (pz_dz (pz_zn (pz_zn z))) (show 0 < 100 from by omega)
    obtain ⟨ha, a1, a2, a3, a4, a5, a6⟩ := pz_add10 (h := g) mg (pz_X2_CM (by omega) vl cm g1 g2) (pz_X2_CB _ cb) (by omega) (kd := 0) (sz := 1 + pz_dz (pz_zn z) % 9) (ls := pz_dz (pz_zn (pz_zn z)) % 100) (on := pz_don (pz_zn (pz_zn (pz_zn z))) n) (by omega) (by omega) (by omega) (by omega) (pz_donL _ n)
    obtain ⟨h', b1, b2, b3, b4, b5, b6⟩ := ih (k + 1) (n + 1) _ _ ha f (by omega) (by omega) (by omega) (by omega) a2 a3 a4
    rw [pz_X2_2, show n + 1 + m = n + (m + 1) from by omega] at b3 b4
    rw [show n + 1 + m = n + (m + 1) from by omega] at b2
    have ed : pz_dl (m + 1) n D z = pz_dl m (n + 1) (pz_dadd D n 0 (1 + pz_dz (pz_zn z) % 9) (pz_dz (pz_zn (pz_zn z)) % 100) (pz_don (pz_zn (pz_zn (pz_zn z))) n)) (pz_zn (pz_zn (pz_zn z))) := rfl
    rw [← ez, ed]
    refine ⟨h', ?_, b2, b3, b4, ?_, ?_⟩
    · rw [f_X10_deal_L17, if_neg (nI_ge (by omega) (by omega)), mm.1.1, if_neg (show ¬ (8 : Int32) ≤ nI n from nI_ge (b := 8) (by omega) (by omega))]
      rw [pz_draw10 e9, pz_b, pz_vl, pz_draw10 (show kv_up h 112 9 (pz_zn z) 112 9 = pz_zn z from by simp (disch := omega) only [pz_upne, pz_upeq, pz_upd, if_neg, if_pos, if_true, if_false]), pz_b, pz_vl, pz_draw10 (show kv_up (kv_up h 112 9 (pz_zn z)) 112 9 (pz_zn (pz_zn z)) 112 9 = pz_zn (pz_zn z) from by simp (disch := omega) only [pz_upne, pz_upeq, pz_upd, if_neg, if_pos, if_true, if_false]), pz_b, ← eg, mg.1.1, show (1 : Int32) = nI 1 from rfl, pz_add, pz_z (fun y => absurd ((nI_eq (a := 1 + n) (b := 0) (by omega) (by omega)).mp y) (by omega)), pz_mod _ (by omega) (by omega), pz_vl, show (9 : Int32) = nI 9 from rfl, pz_mod _ (by omega) (by omega), pz_add, show (100 : Int32) = nI 100 from rfl, pz_mod _ (by omega) (by omega)]
      have md := Nat.mod_lt (pz_dz (pz_zn (pz_zn (pz_zn z)))) (show 0 < 1 + n from by omega)
      rw [show k + (m + 1) = k + 1 + m from by omega, pz_add]
      unfold pz_don at a1
      by_cases q : pz_dz (pz_zn (pz_zn (pz_zn z))) % (1 + n) = n
      · rw [if_pos (by rw [q])]
        rw [if_pos q] at a1
        rw [show (-nI 1) = pz_on 0 from rfl, show (0 : Int32) = nI 0 from rfl, a1, pz_b]; exact b1
      · rw [if_neg (fun y => q ((nI_eq (by omega) (by omega)).mp y))]
        rw [if_neg q] at a1
        rw [show (0 : Int32) = nI 0 from rfl, show nI (pz_dz (pz_zn (pz_zn (pz_zn z))) % (1 + n)) = pz_on (pz_dz (pz_zn (pz_zn (pz_zn z))) % (1 + n) + 1) from rfl, a1, pz_b]; exact b1
    · intro a q; rw [b5 a q, a5 a q, g0 a q]
    · intro b q; rw [b6 b q, a6 b q, g1 b (by omega)]

/-! PURE PART: all calls -/
def pz_PP (h : kv_H) : Prop := pz_c1 h ∧ pz_c2 h ∧ pz_c3 h ∧ pz_c4 h ∧ pz_c5 h ∧ pz_c6 h
theorem pz_frR {S : List Nat} {h h2 : kv_H} (f : pz_fr S h h2) (r : Nat) (hr : ¬ r ∈ S) (h7 : r ≠ 7) : ∀ a b, pz_reg a b = r → h2 a b = h a b := fun a b e => f a b (by rw [e]; exact hr) (by rw [e]; exact h7)
theorem pz_mkP {S : List Nat} {h h2 : kv_H} (p : pz_PP h) (f : pz_fr S h h2) (k1 : ¬ 1 ∈ S ∨ pz_c1 h2) (k2 : ¬ 2 ∈ S ∨ pz_c2 h2) (k3 : ¬ 3 ∈ S ∨ pz_c3 h2) (k4 : ¬ 4 ∈ S ∨ pz_c4 h2) (k5 : (¬ 5 ∈ S ∧ ¬ 8 ∈ S ∧ ¬ 9 ∈ S) ∨ pz_c5 h2) (k6 : (¬ 6 ∈ S ∧ ¬ 8 ∈ S ∧ ¬ 9 ∈ S) ∨ pz_c6 h2) : pz_PP h2 := by
  obtain ⟨p1, p2, p3, p4, p5, p6⟩ := p
  refine ⟨?_, ?_, ?_, ?_, ?_, ?_⟩
  · rcases k1 with k | k
    · exact pz_c1_fr p1 (pz_frR f 1 k (by decide))
    · exact k
  · rcases k2 with k | k
    · exact pz_c2_fr p2 (pz_frR f 2 k (by decide))
    · exact k
  · rcases k3 with k | k
    · exact pz_c3_fr p3 (pz_frR f 3 k (by decide))
    · exact k
  · rcases k4 with k | k
    · exact pz_c4_fr p4 (pz_frR f 4 k (by decide))
    · exact k
  · rcases k5 with ⟨a, b, c⟩ | k
    · exact pz_c5_fr p5 (fun x y e => by
        rcases e with e | e | e
        · exact pz_frR f 5 a (by decide) x y e
        · exact pz_frR f 8 b (by decide) x y e
        · exact pz_frR f 9 c (by decide) x y e)
    · exact k
  · rcases k6 with ⟨a, b, c⟩ | k
    · exact pz_c6_fr p6 (fun x y e => by
        rcases e with e | e | e
        · exact pz_frR f 6 a (by decide) x y e
        · exact pz_frR f 8 b (by decide) x y e
        · exact pz_frR f 9 c (by decide) x y e)
    · exact k
theorem pz_o1 {F F2 : kv_H → Option (Int32 × kv_H)} (o : ∀ h, pz_PP h → pz_op [1] pz_c1 F F2 h) : kl_Op pz_PP F F2 := fun h p => by
  obtain ⟨r, h1, h2, e1, e2, c, f⟩ := o h p
  exact ⟨r, h1, h2, e1, e2, pz_mkP p f (Or.inr c) (Or.inl (by decide)) (Or.inl (by decide)) (Or.inl (by decide)) (Or.inl (by decide)) (Or.inl (by decide))⟩
theorem pz_o2 {F F2 : kv_H → Option (Int32 × kv_H)} (o : ∀ h, pz_PP h → pz_op [2] pz_c2 F F2 h) : kl_Op pz_PP F F2 := fun h p => by
  obtain ⟨r, h1, h2, e1, e2, c, f⟩ := o h p
  exact ⟨r, h1, h2, e1, e2, pz_mkP p f (Or.inl (by decide)) (Or.inr c) (Or.inl (by decide)) (Or.inl (by decide)) (Or.inl (by decide)) (Or.inl (by decide))⟩
theorem pz_o3 {F F2 : kv_H → Option (Int32 × kv_H)} (o : ∀ h, pz_PP h → pz_op [3] pz_c3 F F2 h) : kl_Op pz_PP F F2 := fun h p => by
  obtain ⟨r, h1, h2, e1, e2, c, f⟩ := o h p
  exact ⟨r, h1, h2, e1, e2, pz_mkP p f (Or.inl (by decide)) (Or.inl (by decide)) (Or.inr c) (Or.inl (by decide)) (Or.inl (by decide)) (Or.inl (by decide))⟩
theorem pz_o4 {F F2 : kv_H → Option (Int32 × kv_H)} (o : ∀ h, pz_PP h → pz_op [4] pz_c4 F F2 h) : kl_Op pz_PP F F2 := fun h p => by
  obtain ⟨r, h1, h2, e1, e2, c, f⟩ := o h p
  exact ⟨r, h1, h2, e1, e2, pz_mkP p f (Or.inl (by decide)) (Or.inl (by decide)) (Or.inl (by decide)) (Or.inr c) (Or.inl (by decide)) (Or.inl (by decide))⟩
theorem pz_o5 {F F2 : kv_H → Option (Int32 × kv_H)} (o : ∀ h, pz_PP h → pz_op [5] pz_c5 F F2 h) : kl_Op pz_PP F F2 := fun h p => by
  obtain ⟨r, h1, h2, e1, e2, c, f⟩ := o h p
  exact ⟨r, h1, h2, e1, e2, pz_mkP p f (Or.inl (by decide)) (Or.inl (by decide)) (Or.inl (by decide)) (Or.inl (by decide)) (Or.inr c) (Or.inl (by decide))⟩
theorem pz_o35 {F F2 : kv_H → Option (Int32 × kv_H)} (o : ∀ h, pz_PP h → pz_op [5] (fun g => pz_c3 g ∧ pz_c5 g) F F2 h) : kl_Op pz_PP F F2 := fun h p => by
  obtain ⟨r, h1, h2, e1, e2, c, f⟩ := o h p
  exact ⟨r, h1, h2, e1, e2, pz_mkP p f (Or.inl (by decide)) (Or.inl (by decide)) (Or.inr c.1) (Or.inl (by decide)) (Or.inr c.2) (Or.inl (by decide))⟩
theorem pz_o6 {F F2 : kv_H → Option (Int32 × kv_H)} (o : ∀ h, pz_PP h → pz_op [6] pz_c6 F F2 h) : kl_Op pz_PP F F2 := fun h p => by
  obtain ⟨r, h1, h2, e1, e2, c, f⟩ := o h p
  exact ⟨r, h1, h2, e1, e2, pz_mkP p f (Or.inl (by decide)) (Or.inl (by decide)) (Or.inl (by decide)) (Or.inl (by decide)) (Or.inl (by decide)) (Or.inr c)⟩
theorem pz_o59 {F F2 : kv_H → Option (Int32 × kv_H)} (o : ∀ h, pz_PP h → pz_op [5, 9] (fun g => pz_c5 g ∧ pz_c6 g) F F2 h) : kl_Op pz_PP F F2 := fun h p => by
  obtain ⟨r, h1, h2, e1, e2, c, f⟩ := o h p
  exact ⟨r, h1, h2, e1, e2, pz_mkP p f (Or.inl (by decide)) (Or.inl (by decide)) (Or.inl (by decide)) (Or.inl (by decide)) (Or.inr c.1) (Or.inr c.2)⟩
theorem pz_oT {F F2 : kv_H → Option (Int32 × kv_H)} (o : ∀ h, pz_PP h → pz_op [2, 5, 8, 9] (fun g => pz_c2 g ∧ pz_c5 g ∧ pz_c6 g) F F2 h) : kl_Op pz_PP F F2 := fun h p => by
  obtain ⟨r, h1, h2, e1, e2, c, f⟩ := o h p
  exact ⟨r, h1, h2, e1, e2, pz_mkP p f (Or.inl (by decide)) (Or.inr c.1) (Or.inl (by decide)) (Or.inl (by decide)) (Or.inr c.2.1) (Or.inr c.2.2)⟩
theorem pz_o0 {F F2 : kv_H → Option (Int32 × kv_H)} (o : ∀ h, pz_PP h → pz_op [] (fun _ => True) F F2 h) : kl_Op pz_PP F F2 := fun h p => by
  obtain ⟨r, h1, h2, e1, e2, c, f⟩ := o h p
  exact ⟨r, h1, h2, e1, e2, pz_mkP p f (Or.inl (by decide)) (Or.inl (by decide)) (Or.inl (by decide)) (Or.inl (by decide)) (Or.inl (by decide)) (Or.inl (by decide))⟩
theorem pz_ops : kl_Ops pz_PP := by
  refine ⟨fun a0 a1 a2 a3 => pz_o5 (fun h p => pz_leaf a0 a1 a2 a3 h p.2.2.2.2.1),
    fun a0 a1 => pz_o0 (fun h p => pz_told a0 a1 h p.2.2.2.2.1),
    fun a0 a1 => pz_o5 (fun h p => pz_as a0 a1 h p.2.2.2.2.1),
    fun a0 a1 => pz_o5 (fun h p => pz_turns a0 a1 h p.2.2.2.2.1),
    fun a0 a1 a2 => pz_o5 (fun h p => pz_set a0 a1 a2 h p.2.2.2.2.1),
    fun a0 a1 => pz_o5 (fun h p => pz_leans a0 a1 h p.2.2.2.2.1),
    fun a0 => pz_o5 (fun h p => pz_deal a0 h p.2.2.2.2.1),
    fun a0 => pz_o5 (fun h p => pz_space a0 h p.2.2.2.2.1),
    fun a0 => pz_o5 (fun h p => pz_rule a0 h p.2.2.2.2.1),
    fun a0 => pz_o5 (fun h p => pz_care a0 h p.2.2.2.2.1),
    fun a0 => pz_o5 (fun h p => pz_want a0 h p.2.2.2.2.1),
    pz_o5 (fun h p => pz_next h p.2.2.2.2.1),
    fun a0 => pz_o5 (fun h p => pz_out a0 h p.2.2.2.2.1),
    fun a0 => pz_o5 (fun h p => pz_at a0 h p.2.2.2.2.1),
    fun a0 => pz_o5 (fun h p => pz_fire a0 h p.2.2.2.2.1),
    fun a0 => pz_o5 (fun h p => pz_seed a0 h p.2.2.2.2.1),
    fun a0 => pz_o5 (fun h p => pz_plan a0 h p.2.2.2.2.1),
    pz_o5 (fun h p => pz_clear h p.2.2.2.2.1),
    fun a0 => pz_o5 (fun h p => pz_run a0 h p.2.2.2.2.1),
    pz_o5 (fun h p => pz_would h p.2.2.2.2.1),
    fun a0 => pz_o0 (fun h p => pz_least a0 h p.2.2.2.2.1),
    fun a0 => pz_o0 (fun h p => pz_hold a0 h p.2.2.2.2.1),
    fun a0 => pz_o0 (fun h p => pz_best a0 h p.2.2.2.2.1),
    fun a0 => pz_o0 (fun h p => pz_price a0 h p.2.2.2.2.1),
    fun a0 h p => (by
    obtain ⟨r, h1, h2, e1, e2, f⟩ := pz_means a0 h p.2.2.2.2.1
    exact ⟨r, h1, h2, e1, e2, pz_mkP p f (Or.inl (by decide)) (Or.inl (by decide)) (Or.inl (by decide)) (Or.inl (by decide)) (Or.inl (by decide)) (Or.inl (by decide))⟩),
    fun a0 a1 => pz_o0 (fun h p => pz_gap a0 a1 h p.2.2.2.2.1),
    fun a0 a1 a2 => pz_o2 (fun h p => pz_feed a0 a1 a2 h p.2.1),
    fun a0 => pz_o2 (fun h p => pz_trim a0 h p.2.1),
    pz_oT (fun h p => pz_text h p.2.1 p.2.2.2.2.1 p.2.2.2.2.2),
    fun a0 a1 => pz_o5 (fun h p => pz_textTold a0 a1 h p.2.2.2.2.1),
    fun a0 => pz_o5 (fun h p => pz_why a0 h p.2.2.2.2.1),
    fun a0 a1 a2 => pz_o3 (fun h p => pz_sheet a0 a1 a2 h p.2.2.1),
    fun a0 a1 a2 => pz_o3 (fun h p => pz_mark a0 a1 a2 h p.2.2.1),
    fun a0 => pz_o35 (fun h p => pz_pour a0 h p.2.2.1 p.2.2.2.2.1),
    fun a0 => pz_o35 (fun h p => pz_reads a0 h p.2.2.1 p.2.2.2.2.1),
    fun a0 a1 a2 a3 a4 => pz_o3 (fun h p => pz_copy a0 a1 a2 a3 a4 h p.2.2.1),
    fun a0 a1 a2 => pz_o4 (fun h p => pz_lay a0 a1 a2 h p.2.2.1 p.2.2.2.1 p.2.2.2.2.1),
    fun a0 a1 => pz_o4 (fun h p => pz_ask a0 a1 h p.2.2.2.1),
    fun a0 a1 => pz_o4 (fun h p => pz_item a0 a1 h p.2.2.2.1),
    fun a0 a1 => pz_o4 (fun h p => pz_rest a0 a1 h p.2.2.2.1),
    fun a0 => pz_o1 (fun h p => pz_tell a0 h p.1),
    fun a0 => pz_o1 (fun h p => pz_check a0 h p.1 p.2.2.2.2.2),
    pz_o6 (fun h p => pz_keep h p.2.2.2.2.1),
    pz_o59 (fun h p => pz_back h p.2.2.2.2.1 p.2.2.2.2.2),
    fun a0 => pz_o0 (fun h p => pz_count a0 h p.1 p.2.1 p.2.2.2.2.1)⟩
theorem pz_0 : pz_PP kv_h0 := by
  refine ⟨⟨0, by omega, by decide +kernel, by decide +kernel, fun j hj => absurd hj (by omega)⟩, ⟨0, fun _ => 0, by omega, by decide +kernel, by decide +kernel, fun k hk => absurd hk (by omega)⟩, ?_, ?_, ⟨0, fun _ _ => 0, 0, fun _ => (0, 0, []), fun _ => 0, [], fun i => if i = 2 then 1 else 0, 12, 0, 0, [], ?_, ?_, ?_, ?_⟩, Or.inl ⟨by decide +kernel, by decide +kernel⟩⟩
  · intro i hi
    have a : ∀ i : Fin 4, kv_h0 (18 + 2 * i.val) 1 = kv_h0 115 i.val ∧ kv_h0 115 i.val = -1 := by decide +kernel
    exact ⟨(a ⟨i, hi⟩).1, Or.inl (a ⟨i, hi⟩).2⟩
  · intro i hi
    have a : ∀ i : Fin 5, kv_h0 (26 + 3 * i.val) 1 = kv_h0 118 i.val ∧ kv_h0 118 i.val = 0 := by decide +kernel
    exact ⟨(a ⟨i, hi⟩).1, Or.inl (a ⟨i, hi⟩).2⟩
  · have lb : pz_LB 0 (fun _ _ => 0) := ⟨by omega, fun i hi => absurd hi (by omega)⟩
    have tb : pz_TB 0 (fun _ => (0, 0, [])) := ⟨by omega, fun i hi => absurd hi (by omega)⟩
    have a : ∀ k : Fin 3, kv_h0 81 k.val = -1000000005 := by decide +kernel
    exact ⟨⟨by decide +kernel, fun i hi => absurd hi (by omega)⟩, ⟨⟨by decide +kernel, fun i hi => absurd hi (by omega)⟩, lb, fun i hi => absurd hi (by omega), tb, by decide +kernel⟩, fun i hi => absurd hi (by omega), fun i hi => absurd hi (by omega), fun i hi => absurd hi (by omega), fun k hk => a ⟨k, hk⟩, by decide +kernel⟩
  · have a : ∀ i : Fin 8, kv_h0 93 i.val = 0 ∧ kv_h0 94 i.val = 0 := by decide +kernel
    refine ⟨⟨by decide +kernel, by decide +kernel, by decide +kernel, by decide +kernel, by decide +kernel, fun i v hv => (by cases hv), fun i hi => ?_⟩, ⟨by decide +kernel, by decide +kernel, by decide +kernel, by decide +kernel, fun i v hv => (by cases hv), fun i hi => absurd hi (by omega)⟩, ⟨List.nodup_nil, fun v hv => (by cases hv), fun i h1 h2 => ?_⟩⟩
    · have := a ⟨i, hi⟩
      dsimp only
      rw [if_neg (by omega), if_neg (by omega)]; exact this
    · dsimp only
      rw [if_neg (by omega), if_neg (by omega)]; exact ⟨rfl, rfl⟩
  · exact ⟨by decide +kernel, by decide +kernel, by decide +kernel, by decide +kernel, by decide +kernel, by decide +kernel, by omega, by omega, by omega⟩
  · exact ⟨by decide +kernel, by decide +kernel, by decide, fun i v hv => (by cases hv)⟩

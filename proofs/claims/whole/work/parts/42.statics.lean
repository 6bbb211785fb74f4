theorem kv_St.narrow {G : kv_G} {A B : Nat → Prop} {U : State} {H : Heap} (h : kv_St G A U H) (hAB : ∀ q, B q → A q) : kv_St G B U H := by
  obtain ⟨h1, h2, h3, h4, h5, h6, h7, h8, h9⟩ := h
  exact ⟨h1.narrow hAB, h2.narrow hAB, h3.narrow hAB, h4.narrow hAB, h5.narrow hAB, h6.imp (fun z => z.narrow hAB) (fun z => z.narrow hAB), h7.narrow hAB, h8, h9⟩
theorem kv_stat_ka {b : Nat} {s : State} (hts : ∀ w ∈ lw_tbl, w.before #[Value.ref b] s = true) (hgv : (Jvm.Cond.and given_1 narrow_1).before #[Value.ref b] s = true) : ∃ t : Nat, va_Z "KeptLeaves" "KIND_ABOVE" "[I" (.ref t) (kl_A s) s s.heap ∧ va_T .int t 6 (fun j => .int (kv_ka.getD j 0)) (kl_A s) s s.heap := by
  have hs := flat_of_before _ hgv
  have hA : ∀ a : Nat, a < s.heap.size → ¬ kl_A s a := fun a h z => Nat.not_le.mpr h z
  obtain ⟨t, h1, h2⟩ := va_Tof (tm := (Jvm.Term.static "KeptLeaves" "KIND_ABOVE" "[I")) (ty := .int) (N := 6) (f := fun j => .int (kv_ka.getD j 0)) (A := kl_A s) (by decide) (hs (Jvm.Cond.arrayOf (Jvm.Term.static "KeptLeaves" "KIND_ABOVE" "[I") .int) (by decide +kernel)) (va_eqt (hs (Jvm.Cond.eq (Jvm.Term.length (Jvm.Term.static "KeptLeaves" "KIND_ABOVE" "[I")) (Jvm.Term.int (6 : Int32))) (by decide +kernel))) (fun j hj => by
    rcases (show j = 0 ∨ j = 1 ∨ j = 2 ∨ j = 3 ∨ j = 4 ∨ j = 5 by omega) with rfl | rfl | rfl | rfl | rfl | rfl
    · exact va_eqt (hs (Jvm.Cond.eq (Jvm.Term.elem (Jvm.Term.static "KeptLeaves" "KIND_ABOVE" "[I") (Jvm.Term.int (0 : Int32))) (Jvm.Term.int (-1 : Int32))) (by decide +kernel))
    · exact va_eqt (hs (Jvm.Cond.eq (Jvm.Term.elem (Jvm.Term.static "KeptLeaves" "KIND_ABOVE" "[I") (Jvm.Term.int (1 : Int32))) (Jvm.Term.int (0 : Int32))) (by decide +kernel))
    · exact va_eqt (hs (Jvm.Cond.eq (Jvm.Term.elem (Jvm.Term.static "KeptLeaves" "KIND_ABOVE" "[I") (Jvm.Term.int (2 : Int32))) (Jvm.Term.int (0 : Int32))) (by decide +kernel))
    · exact va_eqt (hs (Jvm.Cond.eq (Jvm.Term.elem (Jvm.Term.static "KeptLeaves" "KIND_ABOVE" "[I") (Jvm.Term.int (3 : Int32))) (Jvm.Term.int (1 : Int32))) (by decide +kernel))
    · exact va_eqt (hs (Jvm.Cond.eq (Jvm.Term.elem (Jvm.Term.static "KeptLeaves" "KIND_ABOVE" "[I") (Jvm.Term.int (4 : Int32))) (Jvm.Term.int (2 : Int32))) (by decide +kernel))
    · exact va_eqt (hs (Jvm.Cond.eq (Jvm.Term.elem (Jvm.Term.static "KeptLeaves" "KIND_ABOVE" "[I") (Jvm.Term.int (5 : Int32))) (Jvm.Term.int (0 : Int32))) (by decide +kernel))) hA
  exact ⟨t, va_Zref (hts _ (List.mem_of_getElem? (i := 545) (by decide +kernel))) (hts _ (List.mem_of_getElem? (i := 75) (by decide +kernel))) h1 hA, h2⟩
theorem kv_stat_ti {b : Nat} {s : State} (hts : ∀ w ∈ lw_tbl, w.before #[Value.ref b] s = true) (hgv : (Jvm.Cond.and given_1 narrow_1).before #[Value.ref b] s = true) : ∃ t : Nat, va_Z "KeptLeaves" "TIGHTNESS" "[I" (.ref t) (kl_A s) s s.heap ∧ va_T .int t 9 (fun j => .int (kv_ti.getD j 0)) (kl_A s) s s.heap := by
  have hs := flat_of_before _ hgv
  have hA : ∀ a : Nat, a < s.heap.size → ¬ kl_A s a := fun a h z => Nat.not_le.mpr h z
  obtain ⟨t, h1, h2⟩ := va_Tof (tm := (Jvm.Term.static "KeptLeaves" "TIGHTNESS" "[I")) (ty := .int) (N := 9) (f := fun j => .int (kv_ti.getD j 0)) (A := kl_A s) (by decide) (hs (Jvm.Cond.arrayOf (Jvm.Term.static "KeptLeaves" "TIGHTNESS" "[I") .int) (by decide +kernel)) (va_eqt (hs (Jvm.Cond.eq (Jvm.Term.length (Jvm.Term.static "KeptLeaves" "TIGHTNESS" "[I")) (Jvm.Term.int (9 : Int32))) (by decide +kernel))) (fun j hj => by
    rcases (show j = 0 ∨ j = 1 ∨ j = 2 ∨ j = 3 ∨ j = 4 ∨ j = 5 ∨ j = 6 ∨ j = 7 ∨ j = 8 by omega) with rfl | rfl | rfl | rfl | rfl | rfl | rfl | rfl | rfl
    · exact va_eqt (hs (Jvm.Cond.eq (Jvm.Term.elem (Jvm.Term.static "KeptLeaves" "TIGHTNESS" "[I") (Jvm.Term.int (0 : Int32))) (Jvm.Term.int (0 : Int32))) (by decide +kernel))
    · exact va_eqt (hs (Jvm.Cond.eq (Jvm.Term.elem (Jvm.Term.static "KeptLeaves" "TIGHTNESS" "[I") (Jvm.Term.int (1 : Int32))) (Jvm.Term.int (1 : Int32))) (by decide +kernel))
    · exact va_eqt (hs (Jvm.Cond.eq (Jvm.Term.elem (Jvm.Term.static "KeptLeaves" "TIGHTNESS" "[I") (Jvm.Term.int (2 : Int32))) (Jvm.Term.int (2 : Int32))) (by decide +kernel))
    · exact va_eqt (hs (Jvm.Cond.eq (Jvm.Term.elem (Jvm.Term.static "KeptLeaves" "TIGHTNESS" "[I") (Jvm.Term.int (3 : Int32))) (Jvm.Term.int (2 : Int32))) (by decide +kernel))
    · exact va_eqt (hs (Jvm.Cond.eq (Jvm.Term.elem (Jvm.Term.static "KeptLeaves" "TIGHTNESS" "[I") (Jvm.Term.int (4 : Int32))) (Jvm.Term.int (2 : Int32))) (by decide +kernel))
    · exact va_eqt (hs (Jvm.Cond.eq (Jvm.Term.elem (Jvm.Term.static "KeptLeaves" "TIGHTNESS" "[I") (Jvm.Term.int (5 : Int32))) (Jvm.Term.int (3 : Int32))) (by decide +kernel))
    · exact va_eqt (hs (Jvm.Cond.eq (Jvm.Term.elem (Jvm.Term.static "KeptLeaves" "TIGHTNESS" "[I") (Jvm.Term.int (6 : Int32))) (Jvm.Term.int (3 : Int32))) (by decide +kernel))
    · exact va_eqt (hs (Jvm.Cond.eq (Jvm.Term.elem (Jvm.Term.static "KeptLeaves" "TIGHTNESS" "[I") (Jvm.Term.int (7 : Int32))) (Jvm.Term.int (4 : Int32))) (by decide +kernel))
    · exact va_eqt (hs (Jvm.Cond.eq (Jvm.Term.elem (Jvm.Term.static "KeptLeaves" "TIGHTNESS" "[I") (Jvm.Term.int (8 : Int32))) (Jvm.Term.int (4 : Int32))) (by decide +kernel))) hA
  exact ⟨t, va_Zref (hts _ (List.mem_of_getElem? (i := 949) (by decide +kernel))) (hts _ (List.mem_of_getElem? (i := 75) (by decide +kernel))) h1 hA, h2⟩
set_option maxRecDepth 100000 in
set_option maxHeartbeats 4000000 in
theorem kv_stat_str {b : Nat} {s : State} (hgv : (Jvm.Cond.and given_1 narrow_1).before #[Value.ref b] s = true) : ∃ adK adV : Nat → Nat, vk_S 7 kv_sl kv_sb adK adV (kl_A s) s s.heap ∧ ∀ i : Nat, i < 7 → (Term.string "KeptLeaves$Tape" (kv_si.getD i 0)).eval #[Value.ref b] s none [] s = some (.ref (adK i)) := by
  have hs := flat_of_before _ hgv
  have hA : ∀ a : Nat, a < s.heap.size → ¬ kl_A s a := fun a h z => Nat.not_le.mpr h z
  refine vk_Sof (N := 7) (tm := fun i => .string "KeptLeaves$Tape" (kv_si.getD i 0)) (len := kv_sl) (byt := kv_sb) (by decide) (fun i hi => ?_) (fun i hi => ?_) (fun i hi => ?_) (fun i hi => ?_) (fun i hi j hj => ?_) (fun i j hi hj hij => ?_) hA
  · rcases (show i = 0 ∨ i = 1 ∨ i = 2 ∨ i = 3 ∨ i = 4 ∨ i = 5 ∨ i = 6 by omega) with rfl | rfl | rfl | rfl | rfl | rfl | rfl
    · exact hs (Jvm.Cond.exactly (Jvm.Term.string "KeptLeaves$Tape" (61 : Nat)) "java/lang/String") (by decide +kernel)
    · exact hs (Jvm.Cond.exactly (Jvm.Term.string "KeptLeaves$Tape" (67 : Nat)) "java/lang/String") (by decide +kernel)
    · exact hs (Jvm.Cond.exactly (Jvm.Term.string "KeptLeaves$Tape" (69 : Nat)) "java/lang/String") (by decide +kernel)
    · exact hs (Jvm.Cond.exactly (Jvm.Term.string "KeptLeaves$Tape" (79 : Nat)) "java/lang/String") (by decide +kernel)
    · exact hs (Jvm.Cond.exactly (Jvm.Term.string "KeptLeaves$Tape" (114 : Nat)) "java/lang/String") (by decide +kernel)
    · exact hs (Jvm.Cond.exactly (Jvm.Term.string "KeptLeaves$Tape" (116 : Nat)) "java/lang/String") (by decide +kernel)
    · exact hs (Jvm.Cond.exactly (Jvm.Term.string "KeptLeaves$Tape" (118 : Nat)) "java/lang/String") (by decide +kernel)
  · rcases (show i = 0 ∨ i = 1 ∨ i = 2 ∨ i = 3 ∨ i = 4 ∨ i = 5 ∨ i = 6 by omega) with rfl | rfl | rfl | rfl | rfl | rfl | rfl
    · exact hs (Jvm.Cond.eq (Jvm.Term.field (Jvm.Term.string "KeptLeaves$Tape" (61 : Nat)) "java/lang/String" "coder" "B") (Jvm.Term.int (0 : Int32))) (by decide +kernel)
    · exact hs (Jvm.Cond.eq (Jvm.Term.field (Jvm.Term.string "KeptLeaves$Tape" (67 : Nat)) "java/lang/String" "coder" "B") (Jvm.Term.int (0 : Int32))) (by decide +kernel)
    · exact hs (Jvm.Cond.eq (Jvm.Term.field (Jvm.Term.string "KeptLeaves$Tape" (69 : Nat)) "java/lang/String" "coder" "B") (Jvm.Term.int (0 : Int32))) (by decide +kernel)
    · exact hs (Jvm.Cond.eq (Jvm.Term.field (Jvm.Term.string "KeptLeaves$Tape" (79 : Nat)) "java/lang/String" "coder" "B") (Jvm.Term.int (0 : Int32))) (by decide +kernel)
    · exact hs (Jvm.Cond.eq (Jvm.Term.field (Jvm.Term.string "KeptLeaves$Tape" (114 : Nat)) "java/lang/String" "coder" "B") (Jvm.Term.int (0 : Int32))) (by decide +kernel)
    · exact hs (Jvm.Cond.eq (Jvm.Term.field (Jvm.Term.string "KeptLeaves$Tape" (116 : Nat)) "java/lang/String" "coder" "B") (Jvm.Term.int (0 : Int32))) (by decide +kernel)
    · exact hs (Jvm.Cond.eq (Jvm.Term.field (Jvm.Term.string "KeptLeaves$Tape" (118 : Nat)) "java/lang/String" "coder" "B") (Jvm.Term.int (0 : Int32))) (by decide +kernel)
  · rcases (show i = 0 ∨ i = 1 ∨ i = 2 ∨ i = 3 ∨ i = 4 ∨ i = 5 ∨ i = 6 by omega) with rfl | rfl | rfl | rfl | rfl | rfl | rfl
    · exact hs (Jvm.Cond.arrayOf (Jvm.Term.field (Jvm.Term.string "KeptLeaves$Tape" (61 : Nat)) "java/lang/String" "value" "[B") .byte) (by decide +kernel)
    · exact hs (Jvm.Cond.arrayOf (Jvm.Term.field (Jvm.Term.string "KeptLeaves$Tape" (67 : Nat)) "java/lang/String" "value" "[B") .byte) (by decide +kernel)
    · exact hs (Jvm.Cond.arrayOf (Jvm.Term.field (Jvm.Term.string "KeptLeaves$Tape" (69 : Nat)) "java/lang/String" "value" "[B") .byte) (by decide +kernel)
    · exact hs (Jvm.Cond.arrayOf (Jvm.Term.field (Jvm.Term.string "KeptLeaves$Tape" (79 : Nat)) "java/lang/String" "value" "[B") .byte) (by decide +kernel)
    · exact hs (Jvm.Cond.arrayOf (Jvm.Term.field (Jvm.Term.string "KeptLeaves$Tape" (114 : Nat)) "java/lang/String" "value" "[B") .byte) (by decide +kernel)
    · exact hs (Jvm.Cond.arrayOf (Jvm.Term.field (Jvm.Term.string "KeptLeaves$Tape" (116 : Nat)) "java/lang/String" "value" "[B") .byte) (by decide +kernel)
    · exact hs (Jvm.Cond.arrayOf (Jvm.Term.field (Jvm.Term.string "KeptLeaves$Tape" (118 : Nat)) "java/lang/String" "value" "[B") .byte) (by decide +kernel)
  · rcases (show i = 0 ∨ i = 1 ∨ i = 2 ∨ i = 3 ∨ i = 4 ∨ i = 5 ∨ i = 6 by omega) with rfl | rfl | rfl | rfl | rfl | rfl | rfl
    · exact hs (Jvm.Cond.eq (Jvm.Term.length (Jvm.Term.field (Jvm.Term.string "KeptLeaves$Tape" (61 : Nat)) "java/lang/String" "value" "[B")) (Jvm.Term.int (4 : Int32))) (by decide +kernel)
    · exact hs (Jvm.Cond.eq (Jvm.Term.length (Jvm.Term.field (Jvm.Term.string "KeptLeaves$Tape" (67 : Nat)) "java/lang/String" "value" "[B")) (Jvm.Term.int (4 : Int32))) (by decide +kernel)
    · exact hs (Jvm.Cond.eq (Jvm.Term.length (Jvm.Term.field (Jvm.Term.string "KeptLeaves$Tape" (69 : Nat)) "java/lang/String" "value" "[B")) (Jvm.Term.int (5 : Int32))) (by decide +kernel)
    · exact hs (Jvm.Cond.eq (Jvm.Term.length (Jvm.Term.field (Jvm.Term.string "KeptLeaves$Tape" (79 : Nat)) "java/lang/String" "value" "[B")) (Jvm.Term.int (9 : Int32))) (by decide +kernel)
    · exact hs (Jvm.Cond.eq (Jvm.Term.length (Jvm.Term.field (Jvm.Term.string "KeptLeaves$Tape" (114 : Nat)) "java/lang/String" "value" "[B")) (Jvm.Term.int (2 : Int32))) (by decide +kernel)
    · exact hs (Jvm.Cond.eq (Jvm.Term.length (Jvm.Term.field (Jvm.Term.string "KeptLeaves$Tape" (116 : Nat)) "java/lang/String" "value" "[B")) (Jvm.Term.int (3 : Int32))) (by decide +kernel)
    · exact hs (Jvm.Cond.eq (Jvm.Term.length (Jvm.Term.field (Jvm.Term.string "KeptLeaves$Tape" (118 : Nat)) "java/lang/String" "value" "[B")) (Jvm.Term.int (4 : Int32))) (by decide +kernel)
  · rcases (show i = 0 ∨ i = 1 ∨ i = 2 ∨ i = 3 ∨ i = 4 ∨ i = 5 ∨ i = 6 by omega) with rfl | rfl | rfl | rfl | rfl | rfl | rfl
    · rcases (show j = 0 ∨ j = 1 ∨ j = 2 ∨ j = 3 by have : j < 4 := hj; omega) with rfl | rfl | rfl | rfl
      · exact hs (Jvm.Cond.eq (Jvm.Term.elem (Jvm.Term.field (Jvm.Term.string "KeptLeaves$Tape" (61 : Nat)) "java/lang/String" "value" "[B") (Jvm.Term.int (0 : Int32))) (Jvm.Term.int (114 : Int32))) (by decide +kernel)
      · exact hs (Jvm.Cond.eq (Jvm.Term.elem (Jvm.Term.field (Jvm.Term.string "KeptLeaves$Tape" (61 : Nat)) "java/lang/String" "value" "[B") (Jvm.Term.int (1 : Int32))) (Jvm.Term.int (111 : Int32))) (by decide +kernel)
      · exact hs (Jvm.Cond.eq (Jvm.Term.elem (Jvm.Term.field (Jvm.Term.string "KeptLeaves$Tape" (61 : Nat)) "java/lang/String" "value" "[B") (Jvm.Term.int (2 : Int32))) (Jvm.Term.int (111 : Int32))) (by decide +kernel)
      · exact hs (Jvm.Cond.eq (Jvm.Term.elem (Jvm.Term.field (Jvm.Term.string "KeptLeaves$Tape" (61 : Nat)) "java/lang/String" "value" "[B") (Jvm.Term.int (3 : Int32))) (Jvm.Term.int (109 : Int32))) (by decide +kernel)
    · rcases (show j = 0 ∨ j = 1 ∨ j = 2 ∨ j = 3 by have : j < 4 := hj; omega) with rfl | rfl | rfl | rfl
      · exact hs (Jvm.Cond.eq (Jvm.Term.elem (Jvm.Term.field (Jvm.Term.string "KeptLeaves$Tape" (67 : Nat)) "java/lang/String" "value" "[B") (Jvm.Term.int (0 : Int32))) (Jvm.Term.int (109 : Int32))) (by decide +kernel)
      · exact hs (Jvm.Cond.eq (Jvm.Term.elem (Jvm.Term.field (Jvm.Term.string "KeptLeaves$Tape" (67 : Nat)) "java/lang/String" "value" "[B") (Jvm.Term.int (1 : Int32))) (Jvm.Term.int (105 : Int32))) (by decide +kernel)
      · exact hs (Jvm.Cond.eq (Jvm.Term.elem (Jvm.Term.field (Jvm.Term.string "KeptLeaves$Tape" (67 : Nat)) "java/lang/String" "value" "[B") (Jvm.Term.int (2 : Int32))) (Jvm.Term.int (115 : Int32))) (by decide +kernel)
      · exact hs (Jvm.Cond.eq (Jvm.Term.elem (Jvm.Term.field (Jvm.Term.string "KeptLeaves$Tape" (67 : Nat)) "java/lang/String" "value" "[B") (Jvm.Term.int (3 : Int32))) (Jvm.Term.int (115 : Int32))) (by decide +kernel)
    · rcases (show j = 0 ∨ j = 1 ∨ j = 2 ∨ j = 3 ∨ j = 4 by have : j < 5 := hj; omega) with rfl | rfl | rfl | rfl | rfl
      · exact hs (Jvm.Cond.eq (Jvm.Term.elem (Jvm.Term.field (Jvm.Term.string "KeptLeaves$Tape" (69 : Nat)) "java/lang/String" "value" "[B") (Jvm.Term.int (0 : Int32))) (Jvm.Term.int (116 : Int32))) (by decide +kernel)
      · exact hs (Jvm.Cond.eq (Jvm.Term.elem (Jvm.Term.field (Jvm.Term.string "KeptLeaves$Tape" (69 : Nat)) "java/lang/String" "value" "[B") (Jvm.Term.int (1 : Int32))) (Jvm.Term.int (104 : Int32))) (by decide +kernel)
      · exact hs (Jvm.Cond.eq (Jvm.Term.elem (Jvm.Term.field (Jvm.Term.string "KeptLeaves$Tape" (69 : Nat)) "java/lang/String" "value" "[B") (Jvm.Term.int (2 : Int32))) (Jvm.Term.int (114 : Int32))) (by decide +kernel)
      · exact hs (Jvm.Cond.eq (Jvm.Term.elem (Jvm.Term.field (Jvm.Term.string "KeptLeaves$Tape" (69 : Nat)) "java/lang/String" "value" "[B") (Jvm.Term.int (3 : Int32))) (Jvm.Term.int (111 : Int32))) (by decide +kernel)
      · exact hs (Jvm.Cond.eq (Jvm.Term.elem (Jvm.Term.field (Jvm.Term.string "KeptLeaves$Tape" (69 : Nat)) "java/lang/String" "value" "[B") (Jvm.Term.int (4 : Int32))) (Jvm.Term.int (119 : Int32))) (by decide +kernel)
    · rcases (show j = 0 ∨ j = 1 ∨ j = 2 ∨ j = 3 ∨ j = 4 ∨ j = 5 ∨ j = 6 ∨ j = 7 ∨ j = 8 by have : j < 9 := hj; omega) with rfl | rfl | rfl | rfl | rfl | rfl | rfl | rfl | rfl
      · exact hs (Jvm.Cond.eq (Jvm.Term.elem (Jvm.Term.field (Jvm.Term.string "KeptLeaves$Tape" (79 : Nat)) "java/lang/String" "value" "[B") (Jvm.Term.int (0 : Int32))) (Jvm.Term.int (124 : Int32))) (by decide +kernel)
      · exact hs (Jvm.Cond.eq (Jvm.Term.elem (Jvm.Term.field (Jvm.Term.string "KeptLeaves$Tape" (79 : Nat)) "java/lang/String" "value" "[B") (Jvm.Term.int (1 : Int32))) (Jvm.Term.int (38 : Int32))) (by decide +kernel)
      · exact hs (Jvm.Cond.eq (Jvm.Term.elem (Jvm.Term.field (Jvm.Term.string "KeptLeaves$Tape" (79 : Nat)) "java/lang/String" "value" "[B") (Jvm.Term.int (2 : Int32))) (Jvm.Term.int (60 : Int32))) (by decide +kernel)
      · exact hs (Jvm.Cond.eq (Jvm.Term.elem (Jvm.Term.field (Jvm.Term.string "KeptLeaves$Tape" (79 : Nat)) "java/lang/String" "value" "[B") (Jvm.Term.int (3 : Int32))) (Jvm.Term.int (61 : Int32))) (by decide +kernel)
      · exact hs (Jvm.Cond.eq (Jvm.Term.elem (Jvm.Term.field (Jvm.Term.string "KeptLeaves$Tape" (79 : Nat)) "java/lang/String" "value" "[B") (Jvm.Term.int (4 : Int32))) (Jvm.Term.int (62 : Int32))) (by decide +kernel)
      · exact hs (Jvm.Cond.eq (Jvm.Term.elem (Jvm.Term.field (Jvm.Term.string "KeptLeaves$Tape" (79 : Nat)) "java/lang/String" "value" "[B") (Jvm.Term.int (5 : Int32))) (Jvm.Term.int (43 : Int32))) (by decide +kernel)
      · exact hs (Jvm.Cond.eq (Jvm.Term.elem (Jvm.Term.field (Jvm.Term.string "KeptLeaves$Tape" (79 : Nat)) "java/lang/String" "value" "[B") (Jvm.Term.int (6 : Int32))) (Jvm.Term.int (45 : Int32))) (by decide +kernel)
      · exact hs (Jvm.Cond.eq (Jvm.Term.elem (Jvm.Term.field (Jvm.Term.string "KeptLeaves$Tape" (79 : Nat)) "java/lang/String" "value" "[B") (Jvm.Term.int (7 : Int32))) (Jvm.Term.int (42 : Int32))) (by decide +kernel)
      · exact hs (Jvm.Cond.eq (Jvm.Term.elem (Jvm.Term.field (Jvm.Term.string "KeptLeaves$Tape" (79 : Nat)) "java/lang/String" "value" "[B") (Jvm.Term.int (8 : Int32))) (Jvm.Term.int (47 : Int32))) (by decide +kernel)
    · rcases (show j = 0 ∨ j = 1 by have : j < 2 := hj; omega) with rfl | rfl
      · exact hs (Jvm.Cond.eq (Jvm.Term.elem (Jvm.Term.field (Jvm.Term.string "KeptLeaves$Tape" (114 : Nat)) "java/lang/String" "value" "[B") (Jvm.Term.int (0 : Int32))) (Jvm.Term.int (115 : Int32))) (by decide +kernel)
      · exact hs (Jvm.Cond.eq (Jvm.Term.elem (Jvm.Term.field (Jvm.Term.string "KeptLeaves$Tape" (114 : Nat)) "java/lang/String" "value" "[B") (Jvm.Term.int (1 : Int32))) (Jvm.Term.int (110 : Int32))) (by decide +kernel)
    · rcases (show j = 0 ∨ j = 1 ∨ j = 2 by have : j < 3 := hj; omega) with rfl | rfl | rfl
      · exact hs (Jvm.Cond.eq (Jvm.Term.elem (Jvm.Term.field (Jvm.Term.string "KeptLeaves$Tape" (116 : Nat)) "java/lang/String" "value" "[B") (Jvm.Term.int (0 : Int32))) (Jvm.Term.int (108 : Int32))) (by decide +kernel)
      · exact hs (Jvm.Cond.eq (Jvm.Term.elem (Jvm.Term.field (Jvm.Term.string "KeptLeaves$Tape" (116 : Nat)) "java/lang/String" "value" "[B") (Jvm.Term.int (1 : Int32))) (Jvm.Term.int (110 : Int32))) (by decide +kernel)
      · exact hs (Jvm.Cond.eq (Jvm.Term.elem (Jvm.Term.field (Jvm.Term.string "KeptLeaves$Tape" (116 : Nat)) "java/lang/String" "value" "[B") (Jvm.Term.int (2 : Int32))) (Jvm.Term.int (115 : Int32))) (by decide +kernel)
    · rcases (show j = 0 ∨ j = 1 ∨ j = 2 ∨ j = 3 by have : j < 4 := hj; omega) with rfl | rfl | rfl | rfl
      · exact hs (Jvm.Cond.eq (Jvm.Term.elem (Jvm.Term.field (Jvm.Term.string "KeptLeaves$Tape" (118 : Nat)) "java/lang/String" "value" "[B") (Jvm.Term.int (0 : Int32))) (Jvm.Term.int (97 : Int32))) (by decide +kernel)
      · exact hs (Jvm.Cond.eq (Jvm.Term.elem (Jvm.Term.field (Jvm.Term.string "KeptLeaves$Tape" (118 : Nat)) "java/lang/String" "value" "[B") (Jvm.Term.int (1 : Int32))) (Jvm.Term.int (116 : Int32))) (by decide +kernel)
      · exact hs (Jvm.Cond.eq (Jvm.Term.elem (Jvm.Term.field (Jvm.Term.string "KeptLeaves$Tape" (118 : Nat)) "java/lang/String" "value" "[B") (Jvm.Term.int (2 : Int32))) (Jvm.Term.int (114 : Int32))) (by decide +kernel)
      · exact hs (Jvm.Cond.eq (Jvm.Term.elem (Jvm.Term.field (Jvm.Term.string "KeptLeaves$Tape" (118 : Nat)) "java/lang/String" "value" "[B") (Jvm.Term.int (3 : Int32))) (Jvm.Term.int (110 : Int32))) (by decide +kernel)
  · rcases (show i = 0 ∨ i = 1 ∨ i = 2 ∨ i = 3 ∨ i = 4 ∨ i = 5 ∨ i = 6 by omega) with rfl | rfl | rfl | rfl | rfl | rfl | rfl
    · rcases (show j = 0 ∨ j = 1 ∨ j = 2 ∨ j = 3 ∨ j = 4 ∨ j = 5 ∨ j = 6 by omega) with rfl | rfl | rfl | rfl | rfl | rfl | rfl
      · exact absurd rfl hij
      · exact Or.inl (hs (Jvm.Cond.not (Jvm.Cond.eq (Jvm.Term.string "KeptLeaves$Tape" (61 : Nat)) (Jvm.Term.string "KeptLeaves$Tape" (67 : Nat)))) (by decide +kernel))
      · exact Or.inl (hs (Jvm.Cond.not (Jvm.Cond.eq (Jvm.Term.string "KeptLeaves$Tape" (61 : Nat)) (Jvm.Term.string "KeptLeaves$Tape" (69 : Nat)))) (by decide +kernel))
      · exact Or.inl (hs (Jvm.Cond.not (Jvm.Cond.eq (Jvm.Term.string "KeptLeaves$Tape" (61 : Nat)) (Jvm.Term.string "KeptLeaves$Tape" (79 : Nat)))) (by decide +kernel))
      · exact Or.inl (hs (Jvm.Cond.not (Jvm.Cond.eq (Jvm.Term.string "KeptLeaves$Tape" (61 : Nat)) (Jvm.Term.string "KeptLeaves$Tape" (114 : Nat)))) (by decide +kernel))
      · exact Or.inl (hs (Jvm.Cond.not (Jvm.Cond.eq (Jvm.Term.string "KeptLeaves$Tape" (61 : Nat)) (Jvm.Term.string "KeptLeaves$Tape" (116 : Nat)))) (by decide +kernel))
      · exact Or.inl (hs (Jvm.Cond.not (Jvm.Cond.eq (Jvm.Term.string "KeptLeaves$Tape" (61 : Nat)) (Jvm.Term.string "KeptLeaves$Tape" (118 : Nat)))) (by decide +kernel))
    · rcases (show j = 0 ∨ j = 1 ∨ j = 2 ∨ j = 3 ∨ j = 4 ∨ j = 5 ∨ j = 6 by omega) with rfl | rfl | rfl | rfl | rfl | rfl | rfl
      · exact Or.inr (hs (Jvm.Cond.not (Jvm.Cond.eq (Jvm.Term.string "KeptLeaves$Tape" (61 : Nat)) (Jvm.Term.string "KeptLeaves$Tape" (67 : Nat)))) (by decide +kernel))
      · exact absurd rfl hij
      · exact Or.inl (hs (Jvm.Cond.not (Jvm.Cond.eq (Jvm.Term.string "KeptLeaves$Tape" (67 : Nat)) (Jvm.Term.string "KeptLeaves$Tape" (69 : Nat)))) (by decide +kernel))
      · exact Or.inl (hs (Jvm.Cond.not (Jvm.Cond.eq (Jvm.Term.string "KeptLeaves$Tape" (67 : Nat)) (Jvm.Term.string "KeptLeaves$Tape" (79 : Nat)))) (by decide +kernel))
      · exact Or.inl (hs (Jvm.Cond.not (Jvm.Cond.eq (Jvm.Term.string "KeptLeaves$Tape" (67 : Nat)) (Jvm.Term.string "KeptLeaves$Tape" (114 : Nat)))) (by decide +kernel))
      · exact Or.inl (hs (Jvm.Cond.not (Jvm.Cond.eq (Jvm.Term.string "KeptLeaves$Tape" (67 : Nat)) (Jvm.Term.string "KeptLeaves$Tape" (116 : Nat)))) (by decide +kernel))
      · exact Or.inl (hs (Jvm.Cond.not (Jvm.Cond.eq (Jvm.Term.string "KeptLeaves$Tape" (67 : Nat)) (Jvm.Term.string "KeptLeaves$Tape" (118 : Nat)))) (by decide +kernel))
    · rcases (show j = 0 ∨ j = 1 ∨ j = 2 ∨ j = 3 ∨ j = 4 ∨ j = 5 ∨ j = 6 by omega) with rfl | rfl | rfl | rfl | rfl | rfl | rfl
      · exact Or.inr (hs (Jvm.Cond.not (Jvm.Cond.eq (Jvm.Term.string "KeptLeaves$Tape" (61 : Nat)) (Jvm.Term.string "KeptLeaves$Tape" (69 : Nat)))) (by decide +kernel))
      · exact Or.inr (hs (Jvm.Cond.not (Jvm.Cond.eq (Jvm.Term.string "KeptLeaves$Tape" (67 : Nat)) (Jvm.Term.string "KeptLeaves$Tape" (69 : Nat)))) (by decide +kernel))
      · exact absurd rfl hij
      · exact Or.inl (hs (Jvm.Cond.not (Jvm.Cond.eq (Jvm.Term.string "KeptLeaves$Tape" (69 : Nat)) (Jvm.Term.string "KeptLeaves$Tape" (79 : Nat)))) (by decide +kernel))
      · exact Or.inl (hs (Jvm.Cond.not (Jvm.Cond.eq (Jvm.Term.string "KeptLeaves$Tape" (69 : Nat)) (Jvm.Term.string "KeptLeaves$Tape" (114 : Nat)))) (by decide +kernel))
      · exact Or.inl (hs (Jvm.Cond.not (Jvm.Cond.eq (Jvm.Term.string "KeptLeaves$Tape" (69 : Nat)) (Jvm.Term.string "KeptLeaves$Tape" (116 : Nat)))) (by decide +kernel))
      · exact Or.inl (hs (Jvm.Cond.not (Jvm.Cond.eq (Jvm.Term.string "KeptLeaves$Tape" (69 : Nat)) (Jvm.Term.string "KeptLeaves$Tape" (118 : Nat)))) (by decide +kernel))
    · rcases (show j = 0 ∨ j = 1 ∨ j = 2 ∨ j = 3 ∨ j = 4 ∨ j = 5 ∨ j = 6 by omega) with rfl | rfl | rfl | rfl | rfl | rfl | rfl
      · exact Or.inr (hs (Jvm.Cond.not (Jvm.Cond.eq (Jvm.Term.string "KeptLeaves$Tape" (61 : Nat)) (Jvm.Term.string "KeptLeaves$Tape" (79 : Nat)))) (by decide +kernel))
      · exact Or.inr (hs (Jvm.Cond.not (Jvm.Cond.eq (Jvm.Term.string "KeptLeaves$Tape" (67 : Nat)) (Jvm.Term.string "KeptLeaves$Tape" (79 : Nat)))) (by decide +kernel))
      · exact Or.inr (hs (Jvm.Cond.not (Jvm.Cond.eq (Jvm.Term.string "KeptLeaves$Tape" (69 : Nat)) (Jvm.Term.string "KeptLeaves$Tape" (79 : Nat)))) (by decide +kernel))
      · exact absurd rfl hij
      · exact Or.inr (hs (Jvm.Cond.not (Jvm.Cond.eq (Jvm.Term.string "KeptLeaves$Tape" (114 : Nat)) (Jvm.Term.string "KeptLeaves$Tape" (79 : Nat)))) (by decide +kernel))
      · exact Or.inr (hs (Jvm.Cond.not (Jvm.Cond.eq (Jvm.Term.string "KeptLeaves$Tape" (116 : Nat)) (Jvm.Term.string "KeptLeaves$Tape" (79 : Nat)))) (by decide +kernel))
      · exact Or.inr (hs (Jvm.Cond.not (Jvm.Cond.eq (Jvm.Term.string "KeptLeaves$Tape" (118 : Nat)) (Jvm.Term.string "KeptLeaves$Tape" (79 : Nat)))) (by decide +kernel))
    · rcases (show j = 0 ∨ j = 1 ∨ j = 2 ∨ j = 3 ∨ j = 4 ∨ j = 5 ∨ j = 6 by omega) with rfl | rfl | rfl | rfl | rfl | rfl | rfl
      · exact Or.inr (hs (Jvm.Cond.not (Jvm.Cond.eq (Jvm.Term.string "KeptLeaves$Tape" (61 : Nat)) (Jvm.Term.string "KeptLeaves$Tape" (114 : Nat)))) (by decide +kernel))
      · exact Or.inr (hs (Jvm.Cond.not (Jvm.Cond.eq (Jvm.Term.string "KeptLeaves$Tape" (67 : Nat)) (Jvm.Term.string "KeptLeaves$Tape" (114 : Nat)))) (by decide +kernel))
      · exact Or.inr (hs (Jvm.Cond.not (Jvm.Cond.eq (Jvm.Term.string "KeptLeaves$Tape" (69 : Nat)) (Jvm.Term.string "KeptLeaves$Tape" (114 : Nat)))) (by decide +kernel))
      · exact Or.inl (hs (Jvm.Cond.not (Jvm.Cond.eq (Jvm.Term.string "KeptLeaves$Tape" (114 : Nat)) (Jvm.Term.string "KeptLeaves$Tape" (79 : Nat)))) (by decide +kernel))
      · exact absurd rfl hij
      · exact Or.inl (hs (Jvm.Cond.not (Jvm.Cond.eq (Jvm.Term.string "KeptLeaves$Tape" (114 : Nat)) (Jvm.Term.string "KeptLeaves$Tape" (116 : Nat)))) (by decide +kernel))
      · exact Or.inl (hs (Jvm.Cond.not (Jvm.Cond.eq (Jvm.Term.string "KeptLeaves$Tape" (114 : Nat)) (Jvm.Term.string "KeptLeaves$Tape" (118 : Nat)))) (by decide +kernel))
    · rcases (show j = 0 ∨ j = 1 ∨ j = 2 ∨ j = 3 ∨ j = 4 ∨ j = 5 ∨ j = 6 by omega) with rfl | rfl | rfl | rfl | rfl | rfl | rfl
      · exact Or.inr (hs (Jvm.Cond.not (Jvm.Cond.eq (Jvm.Term.string "KeptLeaves$Tape" (61 : Nat)) (Jvm.Term.string "KeptLeaves$Tape" (116 : Nat)))) (by decide +kernel))
      · exact Or.inr (hs (Jvm.Cond.not (Jvm.Cond.eq (Jvm.Term.string "KeptLeaves$Tape" (67 : Nat)) (Jvm.Term.string "KeptLeaves$Tape" (116 : Nat)))) (by decide +kernel))
      · exact Or.inr (hs (Jvm.Cond.not (Jvm.Cond.eq (Jvm.Term.string "KeptLeaves$Tape" (69 : Nat)) (Jvm.Term.string "KeptLeaves$Tape" (116 : Nat)))) (by decide +kernel))
      · exact Or.inl (hs (Jvm.Cond.not (Jvm.Cond.eq (Jvm.Term.string "KeptLeaves$Tape" (116 : Nat)) (Jvm.Term.string "KeptLeaves$Tape" (79 : Nat)))) (by decide +kernel))
      · exact Or.inr (hs (Jvm.Cond.not (Jvm.Cond.eq (Jvm.Term.string "KeptLeaves$Tape" (114 : Nat)) (Jvm.Term.string "KeptLeaves$Tape" (116 : Nat)))) (by decide +kernel))
      · exact absurd rfl hij
      · exact Or.inl (hs (Jvm.Cond.not (Jvm.Cond.eq (Jvm.Term.string "KeptLeaves$Tape" (116 : Nat)) (Jvm.Term.string "KeptLeaves$Tape" (118 : Nat)))) (by decide +kernel))
    · rcases (show j = 0 ∨ j = 1 ∨ j = 2 ∨ j = 3 ∨ j = 4 ∨ j = 5 ∨ j = 6 by omega) with rfl | rfl | rfl | rfl | rfl | rfl | rfl
      · exact Or.inr (hs (Jvm.Cond.not (Jvm.Cond.eq (Jvm.Term.string "KeptLeaves$Tape" (61 : Nat)) (Jvm.Term.string "KeptLeaves$Tape" (118 : Nat)))) (by decide +kernel))
      · exact Or.inr (hs (Jvm.Cond.not (Jvm.Cond.eq (Jvm.Term.string "KeptLeaves$Tape" (67 : Nat)) (Jvm.Term.string "KeptLeaves$Tape" (118 : Nat)))) (by decide +kernel))
      · exact Or.inr (hs (Jvm.Cond.not (Jvm.Cond.eq (Jvm.Term.string "KeptLeaves$Tape" (69 : Nat)) (Jvm.Term.string "KeptLeaves$Tape" (118 : Nat)))) (by decide +kernel))
      · exact Or.inl (hs (Jvm.Cond.not (Jvm.Cond.eq (Jvm.Term.string "KeptLeaves$Tape" (118 : Nat)) (Jvm.Term.string "KeptLeaves$Tape" (79 : Nat)))) (by decide +kernel))
      · exact Or.inr (hs (Jvm.Cond.not (Jvm.Cond.eq (Jvm.Term.string "KeptLeaves$Tape" (114 : Nat)) (Jvm.Term.string "KeptLeaves$Tape" (118 : Nat)))) (by decide +kernel))
      · exact Or.inr (hs (Jvm.Cond.not (Jvm.Cond.eq (Jvm.Term.string "KeptLeaves$Tape" (116 : Nat)) (Jvm.Term.string "KeptLeaves$Tape" (118 : Nat)))) (by decide +kernel))
      · exact absurd rfl hij
theorem kv_stat {b : Nat} {s : State} (hts : ∀ w ∈ lw_tbl, w.before #[Value.ref b] s = true) (hgv : (Jvm.Cond.and given_1 narrow_1).before #[Value.ref b] s = true) : ∃ f : Nat → Nat, ∀ G : kv_G, (∀ k, 1000 ≤ k → k < 2000 → kv_ad G k = f k) → kv_St G (kl_A s) s s.heap := by
  have hs := flat_of_before _ hgv
  have hA : ∀ a : Nat, a < s.heap.size → ¬ kl_A s a := fun a h z => Nat.not_le.mpr h z
  obtain ⟨t1, z1, y1⟩ := kv_stat_ka hts hgv
  obtain ⟨t2, z2, y2⟩ := kv_stat_ti hts hgv
  obtain ⟨adK, adV, hS, hE⟩ := kv_stat_str hgv
  have hcs : va_Z "java/lang/String" "COMPACT_STRINGS" "Z" (.int 1) (kl_A s) s s.heap := va_Zof (hts _ (List.mem_of_getElem? (i := 808) (by decide +kernel))) (hts _ (List.mem_of_getElem? (i := 89) (by decide +kernel))) (va_eqi (hs (Jvm.Cond.eq (Jvm.Term.static "java/lang/String" "COMPACT_STRINGS" "Z") (Jvm.Term.int (1 : Int32))) (by decide +kernel))) hA
  have hfm : va_Zq "jdk/internal/util/Preconditions" "SIOOBE_FORMATTER" "Ljava/util/function/BiFunction;" (kl_A s) s s.heap := va_Zqof (hts _ (List.mem_of_getElem? (i := 824) (by decide +kernel))) (hts _ (List.mem_of_getElem? (i := 91) (by decide +kernel))) (hs (Jvm.Cond.isRef (Jvm.Term.static "jdk/internal/util/Preconditions" "SIOOBE_FORMATTER" "Ljava/util/function/BiFunction;")) (by decide +kernel)) hA
  obtain ⟨t3, hfm⟩ : ∃ t3, va_Z "jdk/internal/util/Preconditions" "SIOOBE_FORMATTER" "Ljava/util/function/BiFunction;" .null (kl_A s) s s.heap ∨ va_Z "jdk/internal/util/Preconditions" "SIOOBE_FORMATTER" "Ljava/util/function/BiFunction;" (.ref t3) (kl_A s) s s.heap := by
    rcases hfm with z | ⟨t, z⟩
    · exact ⟨0, Or.inl z⟩
    · exact ⟨t, Or.inr z⟩
  refine ⟨fun k => if k = 1000 then t1 else if k = 1001 then t2 else if k = 1002 then t3 else if k < 1020 then adK (k - 1010) else adV (k - 1020), fun G hG => ?_⟩
  have g0 : kv_ad G 1000 = t1 := hG 1000 (by omega) (by omega)
  have g1 : kv_ad G 1001 = t2 := hG 1001 (by omega) (by omega)
  have g2 : kv_ad G 1002 = t3 := hG 1002 (by omega) (by omega)
  have gK : ∀ i, i < 7 → kv_ad G (1010 + i) = adK i := fun i hi => by
    rw [hG (1010 + i) (by omega) (by omega)]
    dsimp only
    rw [if_neg (by omega), if_neg (by omega), if_neg (by omega), if_pos (by omega), show 1010 + i - 1010 = i by omega]
  have gV : ∀ i, i < 7 → kv_ad G (1020 + i) = adV i := fun i hi => by
    rw [hG (1020 + i) (by omega) (by omega)]
    dsimp only
    rw [if_neg (by omega), if_neg (by omega), if_neg (by omega), if_neg (by omega), show 1020 + i - 1020 = i by omega]
  refine ⟨by rw [g0]; exact z1, by rw [g0]; exact y1, by rw [g1]; exact z2, by rw [g1]; exact y2, hcs, by rw [g2]; exact hfm, ⟨fun i hi => ?_, fun i j hi hj e => ?_⟩, fun i hi => ?_, fun w hw => ?_⟩
  · dsimp only
    rw [gK i hi, gV i hi]
    exact hS.1 i hi
  · dsimp only at e
    rw [gK i hi, gK j hj] at e
    exact hS.2 i j hi hj e
  · refine vk_R.of (A := #[Value.ref b]) ?_ (by rw [gK i hi]; exact hE i hi)
    rcases (show i = 0 ∨ i = 1 ∨ i = 2 ∨ i = 3 ∨ i = 4 ∨ i = 5 ∨ i = 6 by omega) with rfl | rfl | rfl | rfl | rfl | rfl | rfl
    · exact hts _ (List.mem_of_getElem? (i := 794) (by decide +kernel))
    · exact hts _ (List.mem_of_getElem? (i := 847) (by decide +kernel))
    · exact hts _ (List.mem_of_getElem? (i := 848) (by decide +kernel))
    · exact hts _ (List.mem_of_getElem? (i := 947) (by decide +kernel))
    · exact hts _ (List.mem_of_getElem? (i := 877) (by decide +kernel))
    · exact hts _ (List.mem_of_getElem? (i := 878) (by decide +kernel))
    · exact hts _ (List.mem_of_getElem? (i := 879) (by decide +kernel))
  · have h1 := hts w (List.mem_filter.mp hw).1
    have q := (List.mem_filter.mp hw).2
    cases w <;> first | exact va_Nw.of rfl h1 | (simp [kv_isN] at q; done)
theorem kv_W0 {b : Nat} {s : State} (hts : ∀ w ∈ lw_tbl, w.before #[Value.ref b] s = true) : kd_W s := by
  refine ⟨fun w hw => ?_, va_AO.of (hts _ (List.mem_of_getElem? (i := 364) (by decide +kernel))), va_AO.of (hts _ (List.mem_of_getElem? (i := 366) (by decide +kernel))), va_AO.of (hts _ (List.mem_of_getElem? (i := 368) (by decide +kernel))), va_AO.of (hts _ (List.mem_of_getElem? (i := 109) (by decide +kernel)))⟩
  have h1 := hts w (List.mem_filter.mp hw).1
  have q := (List.mem_filter.mp hw).2
  cases w <;> first | exact va_Nw.of rfl h1 | (simp [kv_isN] at q; done)
theorem kv_ro {s : State} {C : String} (h : va_AO C s) : ∃ cA, ArrOfT s cA (.object C) ∧ va_RA s cA (.object C) := by
  obtain ⟨comp, c, k, h1, h2, h3, h4, h5⟩ := Cond.arrayOver_spec h
  exact ⟨c, fun n z => ⟨fun k h => (by cases h), k, h3, comp, h4⟩, k, comp, h3, h4, h1, h5⟩
theorem kv_K0 {b : Nat} {s : State} (hts : ∀ w ∈ lw_tbl, w.before #[Value.ref b] s = true) : ∃ B : kv_G, va_K B.2.2.1 kv_cl (kv_ty B) s := by
  have htk : ∀ w ∈ kv_T, w.before #[Value.ref b] s = true := fun w hw => hts w (List.mem_filter.mp hw).1
  have hW := kv_W0 hts
  obtain ⟨c0, i0, k0⟩ := u_known (C := RX0) (T := TX0) (N := 8) (n := 8) htk kv_in0 (htk _ (kv_T_at 210 (by decide +kernel) rfl))
  obtain ⟨c1, i1, k1⟩ := u_known (C := RX1) (T := TX1) (N := 9) (n := 9) htk kv_in1 (htk _ (kv_T_at 151 (by decide +kernel) rfl))
  obtain ⟨c2, i2, k2⟩ := u_known (C := RX2) (T := TX2) (N := 4) (n := 4) htk kv_in2 (htk _ (kv_T_at 343 (by decide +kernel) rfl))
  obtain ⟨c3, i3, k3⟩ := u_known (C := RX3) (T := TX3) (N := 3) (n := 3) htk kv_in3 (htk _ (kv_T_at 370 (by decide +kernel) rfl))
  obtain ⟨c4, i4, k4⟩ := u_known (C := RX4) (T := TX4) (N := 7) (n := 7) htk kv_in4 (htk _ (kv_T_at 388 (by decide +kernel) rfl))
  obtain ⟨c5, i5, k5⟩ := u_known (C := RX5) (T := TX5) (N := 10) (n := 10) htk kv_in5 (htk _ (kv_T_at 300 (by decide +kernel) rfl))
  obtain ⟨c6, i6, k6⟩ := u_known (C := RX6) (T := TX6) (N := 4) (n := 4) htk kv_in6 (htk _ (kv_T_at 110 (by decide +kernel) rfl))
  obtain ⟨c7, i7, k7⟩ := u_known (C := RX7) (T := TX7) (N := 3) (n := 3) htk kv_in7 (htk _ (kv_T_at 103 (by decide +kernel) rfl))
  obtain ⟨c8, i8, k8⟩ := u_known (C := RX8) (T := TX8) (N := 10) (n := 10) htk kv_in8 (htk _ (kv_T_at 145 (by decide +kernel) rfl))
  obtain ⟨c9, i9, k9⟩ := u_known (C := RX9) (T := TX9) (N := 12) (n := 12) htk kv_in9 (htk _ (kv_T_at 95 (by decide +kernel) rfl))
  obtain ⟨c10, i10, k10⟩ := u_known (C := RX10) (T := TX10) (N := 38) (n := 38) htk kv_in10 (htk _ (kv_T_at 1068 (by decide +kernel) rfl))
  obtain ⟨cI, kA, comp, f1, f2, f3⟩ := Cond.arrayClass_spec (htk (.arrayClass .int) (kv_T_at 132 (by decide +kernel) rfl))
  obtain ⟨r0, p0, q0⟩ := kv_ro hW.2.1
  obtain ⟨r3, p3, q3⟩ := kv_ro hW.2.2.1
  obtain ⟨r4, p4, q4⟩ := kv_ro hW.2.2.2.1
  obtain ⟨r6, p6, q6⟩ := kv_ro hW.2.2.2.2
  refine ⟨(cI, (fun k => if k = 0 then r0 else if k = 3 then r3 else if k = 4 then r4 else r6), (fun k => if k = 0 then c0 else if k = 1 then c1 else if k = 2 then c2 else if k = 3 then c3 else if k = 4 then c4 else if k = 5 then c5 else if k = 6 then c6 else if k = 7 then c7 else if k = 8 then c8 else if k = 9 then c9 else c10, fun k => if k = 0 then i0 else if k = 1 then i1 else if k = 2 then i2 else if k = 3 then i3 else if k = 4 then i4 else if k = 5 then i5 else if k = 6 then i6 else if k = 7 then i7 else if k = 8 then i8 else if k = 9 then i9 else i10), fun _ => 0), fun k q hq => ?_, fun k q hq => ?_⟩
  · match k, hq with
    | 0, hq => cases hq; exact k0
    | 1, hq => cases hq; exact k1
    | 2, hq => cases hq; exact k2
    | 3, hq => cases hq; exact k3
    | 4, hq => cases hq; exact k4
    | 5, hq => cases hq; exact k5
    | 6, hq => cases hq; exact k6
    | 7, hq => cases hq; exact k7
    | 8, hq => cases hq; exact k8
    | 9, hq => cases hq; exact k9
    | 10, hq => cases hq; exact k10
    | k + 11, hq => exact absurd hq (by simp [kv_cl])
  · match k, hq with
    | 0, hq => cases hq; exact ⟨fun n z => ⟨fun k h => (by cases h), kA, f2, comp, f3⟩, f1⟩
    | 1, hq => cases hq; exact ⟨p0, q0⟩
    | 2, hq => cases hq; exact ⟨p3, q3⟩
    | 3, hq => cases hq; exact ⟨p4, q4⟩
    | 4, hq => cases hq; exact ⟨p6, q6⟩
    | k + 5, hq => exact absurd hq (by simp [kv_ty])

section KS
variable {α : Type} {val : α → Option Value} {K : kv_K} {pc pc' tgt : Nat} {ls : List (Option Value)} {st : List Value} {h : kv_H} {R R1 R2 : Option (α × kv_H)}
def kv_fu : Nat := 5000
theorem kv_dl {a b d : Nat} (h : a ≤ b) : a ≤ d + b := Nat.le_trans h (Nat.le_add_left b d)
theorem kv_dr {d b : Nat} : d + b + 1 ≤ d + 1 + b := by omega
theorem kr_jn {β : Type} {J : β} {E : β → Option (α × kv_H)} (P : β → Prop) (hJ : P J) (k : ∀ J, P J → kv_S val K pc ls st h (E J)) : kv_S val K pc ls st h (kv_jn J E) := k J hJ
/-! String constants: number i < 7; the String has id 1010 + i, its bytes 1020 + i -/
theorem kr_ldcS (i : Nat) {idx : Nat} (hd : kv_d K pc (.ldc idx) 2 pc') (hi : i < 7) (hx : kv_si.getD i 0 = idx) (ho : K.1.cls = "KeptLeaves$Tape") (kk : kv_S val K pc' ls (.ref (1010 + i) :: st) h R) : kv_S val K pc ls st h R := by
  obtain ⟨h1, rfl⟩ := hd
  subst hx
  intro r h' hR p l e s m args below meth c H locs la G C hP hS hL
  exact va_ldcS C.1 C.2.1 (by rw [← ho]; exact C.2.2.2.1) (C.2.2.2.2.2.2.2.2.2.2.2.2.2.2.2.2.1 i hi) h1 (kk r h' hR p l e s m args below meth c H locs la G C hP hS hL)
theorem kr_sval {i idx : Nat} (hd : kv_d K pc (.getfield idx) 3 pc') (hi : i < 7) (hl : Cond.fieldLink K.1.cls idx "java/lang/String" "value" "[B" ∈ kv_T) (kk : kv_S val K pc' ls (.ref (1020 + i) :: st) h R) : kv_S val K pc ls (.ref (1010 + i) :: st) h R := by
  obtain ⟨h1, rfl⟩ := hd
  intro r h' hR p l e s m args below meth c H locs la G C hP hS hL
  exact vk_getf C.1 C.2.1 (C.2.2.2.2.2.2.2.2.2.2.2.2.2.2.2.1.1 i hi).2.2.1 hS C.2.2.2.1 (C.2.2.2.2.1 _ hl) (fun _ q => q) h1 (kk r h' hR p l e s m args below meth c H locs la G C hP hS hL)
theorem kr_scod {i idx : Nat} (hd : kv_d K pc (.getfield idx) 3 pc') (hi : i < 7) (hl : Cond.fieldLink K.1.cls idx "java/lang/String" "coder" "B" ∈ kv_T) (kk : kv_S val K pc' ls (.int 0 :: st) h R) : kv_S val K pc ls (.ref (1010 + i) :: st) h R := by
  obtain ⟨h1, rfl⟩ := hd
  intro r h' hR p l e s m args below meth c H locs la G C hP hS hL
  exact vk_getf C.1 C.2.1 (C.2.2.2.2.2.2.2.2.2.2.2.2.2.2.2.1.1 i hi).2.1 hS C.2.2.2.1 (C.2.2.2.2.1 _ hl) (fun _ q => q) h1 (kk r h' hR p l e s m args below meth c H locs la G C hP hS hL)
theorem kr_blen {i : Nat} (hd : kv_d K pc .arraylength 1 pc') (hi : i < 7) (kk : kv_S val K pc' ls (.int (nI (kv_sl.getD i 0)) :: st) h R) : kv_S val K pc ls (.ref (1020 + i) :: st) h R := by
  obtain ⟨h1, rfl⟩ := hd
  intro r h' hR p l e s m args below meth c H locs la G C hP hS hL
  exact va_tlen C.1 C.2.1 (C.2.2.2.2.2.2.2.2.2.2.2.2.2.2.2.1.1 i hi).2.2.2 hS rfl h1 (kk r h' hR p l e s m args below meth c H locs la G C hP hS hL)
theorem kr_bald {i : Nat} {x : Int32} (hd : kv_d K pc .baload 1 pc') (hi : i < 7) (kk : kv_S val K pc' ls (.int ((kv_sb.getD i []).getD x.toNatClampNeg 0) :: st) h R) : kv_S val K pc ls (.int x :: .ref (1020 + i) :: st) h (kv_k x (kv_sl.getD i 0) R) := by
  obtain ⟨h1, rfl⟩ := hd
  intro r h' hR p l e s m args below meth c H locs la G C hP hS hL
  obtain ⟨hin, hR⟩ := kv_k_some hR
  exact va_tb C.1 C.2.1 (C.2.2.2.2.2.2.2.2.2.2.2.2.2.2.2.1.1 i hi).2.2.2 hS hin rfl h1 (kk r h' hR p l e s m args below meth c H locs la G C hP hS hL)
theorem kr_gsCS {idx : Nat} (hd : kv_d K pc (.getstatic idx) 3 pc') (hl : Cond.fieldLink K.1.cls idx "java/lang/String" "COMPACT_STRINGS" "Z" ∈ kv_T) (kk : kv_S val K pc' ls (.int 1 :: st) h R) : kv_S val K pc ls st h R := by
  obtain ⟨h1, rfl⟩ := hd
  intro r h' hR p l e s m args below meth c H locs la G C hP hS hL
  exact va_gets C.1 C.2.1 C.2.2.2.2.2.2.2.2.2.2.2.2.2.1 hS C.2.2.2.1 (C.2.2.2.2.1 _ hl) (fun _ q => q) h1 (kk r h' hR p l e s m args below meth c H locs la G C hP hS hL)
theorem kr_gsF {idx : Nat} (hd : kv_d K pc (.getstatic idx) 3 pc') (hl : Cond.fieldLink K.1.cls idx "jdk/internal/util/Preconditions" "SIOOBE_FORMATTER" "Ljava/util/function/BiFunction;" ∈ kv_T) (kk : ∀ v : Value, v = .null ∨ v = .ref 1002 → kv_S val K pc' ls (v :: st) h R) : kv_S val K pc ls st h R := by
  obtain ⟨h1, rfl⟩ := hd
  intro r h' hR p l e s m args below meth c H locs la G C hP hS hL
  rcases C.2.2.2.2.2.2.2.2.2.2.2.2.2.2.1 with z | z
  · exact va_gets C.1 C.2.1 z hS C.2.2.2.1 (C.2.2.2.2.1 _ hl) (fun _ q => q) h1 (kk .null (Or.inl rfl) r h' hR p l e s m args below meth c H locs la G C hP hS hL)
  · exact va_gets C.1 C.2.1 z hS C.2.2.2.1 (C.2.2.2.2.1 _ hl) (fun _ q => q) h1 (kk (.ref 1002) (Or.inr rfl) r h' hR p l e s m args below meth c H locs la G C hP hS hL)
def kv_CS (own : String) (idx : Nat) (K2 : kv_K) (n : Nat) : Prop := K2.1.cls = "java/lang/String" ∧ Cond.methodLink own idx K2.1 ∈ kv_T ∧ Cond.instanceMethod K2.1 ∈ kv_T ∧ Cond.selects K2.1.cls K2.1 K2.1 ∈ kv_T ∧ kv_cw own idx K2 n
theorem kr_ivS_i {K2 : kv_K} {idx i : Nat} {As : List Value} {M : Option (Int32 × kv_H)} {Cc : Int32 → kv_H → Option (α × kv_H)} {sk : List Value} (hd : kv_d K pc (.invokevirtual idx) 3 pc') (hc : kv_CS K.1.cls idx K2 As.length) (hm : kv_M kv_i K2 (.ref (1010 + i) :: As) h M) (hi : i < 7) (hdep : K2.2.2.2.2 + 1 ≤ K.2.2.2.2) (hsk : sk = As.reverse ++ .ref (1010 + i) :: st) (hw : (st.map fun v => v.category).sum ≤ 8) (kk : ∀ (r : Int32) (h1 : kv_H), kv_S val K pc' ls (.int r :: st) h1 (Cc r h1)) : kv_S val K pc ls sk h (kv_b M Cc) := by
  obtain ⟨h1, rfl⟩ := hd
  obtain ⟨c1, c2, c3, c4, c5, c6, c7, c8⟩ := hc
  intro r h' hR p l e s m args below meth c H locs la G C hP hS hL
  obtain ⟨r1, h2, hM, hR⟩ := kv_b_some hR
  have hst : sk.map (kv_v G) = (As.map (kv_v G)).reverse ++ .ref (kv_ad G (1010 + i)) :: st.map (kv_v G) := by rw [hsk, List.map_append, List.map_reverse]; rfl
  rw [hst]
  have hcw : CallW (kv_rm K.2.2.2.2) s args K.1.cls K2.1.cls idx K2.1 K2.2.1 K2.2.2.1 K2.2.2.2.1 (Cond.code K2.1 K2.2.1 K2.2.2.1 K2.2.2.2.1 :: kv_T) (kv_rm K2.2.2.2.2) 0 0 As.length := cwV As.length C.2.2.2.2.1 (kv_goodIn (fun w hw => by
    rcases List.mem_append.mp hw with q | q
    · simp only [List.mem_cons, List.not_mem_nil, or_false] at q
      rcases q with rfl | rfl | rfl | rfl
      · exact c2
      · exact c3
      · exact c4
      · exact c5
    · rcases List.mem_cons.mp q with rfl | q
      · exact c6
      · exact q)) rfl rfl rfl ⟨rfl, c7⟩ (kv_room hdep c8)
  have hrc := vk_recv C.2.2.2.2.2.2.2.2.2.2.2.2.2.2.2.1 hi hS
  rw [← c1] at hrc
  refine kv_after (va_runV (As := As.map (kv_v G)) (rest := st.map (kv_v G)) (b := kv_ad G (1010 + i)) ⟨C.1, C.2.1, C.2.2.1, C.2.2.2.1, C.2.2.2.2.1⟩ (hm l G r1 h2 hM) hcw ⟨kv_blind, hrc, kv_pre (As := .ref (1010 + i) :: As) C hP hS⟩ rfl (by rw [List.length_map]) hL.1 rfl (lv_room (by rw [kv_wcat]; exact hw)) h1 ⟨Nat.le_refl _, Nat.le_refl _⟩) hS (fun H1 locs1 hP1 hS1 => ?_)
  exact kk r1 h2 r h' hR p l e s m args below meth c H1 locs1 la G C hP1 hS1 hL
def kv_Cmin (own : String) (idx : Nat) : Prop := Cond.methodLink own idx Lib.Math.min.name ∈ kv_T ∧ Cond.static Lib.Math.min.name ∈ kv_T ∧ Cond.initialized "java/lang/Math" ∈ kv_T ∧ Cond.code Lib.Math.min.name Lib.Math.min.code 2 (some .int) ∈ kv_T
theorem kr_mmin {idx : Nat} {x y : Int32} (hd : kv_d K pc (.invokestatic idx) 3 pc') (hc : kv_Cmin K.1.cls idx) (hdep : 1 ≤ K.2.2.2.2) (hw : (st.map fun v => v.category).sum ≤ 8) (kk : kv_S val K pc' ls (.int (if y < x then y else x) :: st) h R) : kv_S val K pc ls (.int y :: .int x :: st) h R := by
  obtain ⟨h1, rfl⟩ := hd
  obtain ⟨c1, c2, c3, c4⟩ := hc
  intro r h' hR p l e s m args below meth c H locs la G C hP hS hL
  have hcat := kv_wcat G st
  exact va_mmin C.1 C.2.1 (C.2.2.1.trans hL.1.symm) C.2.2.2.1 (C.2.2.2.2.1 _ c1) (C.2.2.2.2.1 _ c2) (C.2.2.2.2.1 _ c3) (C.2.2.2.2.1 _ c4) (show 1 ≤ (kv_rm _).frames from hdep) (by rw [hcat]; show _ ≤ 40 * K.2.2.2.2; omega) (Nat.zero_le _) (Nat.zero_le _) h1 (kk r h' hR p l e s m args below meth c H locs la G C hP hS hL)
def kv_Cmax (own : String) (idx : Nat) : Prop := Cond.methodLink own idx Lib.Math.max.name ∈ kv_T ∧ Cond.static Lib.Math.max.name ∈ kv_T ∧ Cond.initialized "java/lang/Math" ∈ kv_T ∧ Cond.code Lib.Math.max.name Lib.Math.max.code 2 (some .int) ∈ kv_T
theorem kr_mmax {idx : Nat} {x y : Int32} (hd : kv_d K pc (.invokestatic idx) 3 pc') (hc : kv_Cmax K.1.cls idx) (hdep : 1 ≤ K.2.2.2.2) (hw : (st.map fun v => v.category).sum ≤ 8) (kk : kv_S val K pc' ls (.int (if x < y then y else x) :: st) h R) : kv_S val K pc ls (.int y :: .int x :: st) h R := by
  obtain ⟨h1, rfl⟩ := hd
  obtain ⟨c1, c2, c3, c4⟩ := hc
  intro r h' hR p l e s m args below meth c H locs la G C hP hS hL
  have hcat := kv_wcat G st
  exact va_mmax C.1 C.2.1 (C.2.2.1.trans hL.1.symm) C.2.2.2.1 (C.2.2.2.2.1 _ c1) (C.2.2.2.2.1 _ c2) (C.2.2.2.2.1 _ c3) (C.2.2.2.2.1 _ c4) (show 1 ≤ (kv_rm _).frames from hdep) (by rw [hcat]; show _ ≤ 40 * K.2.2.2.2; omega) (Nat.zero_le _) (Nat.zero_le _) h1 (kk r h' hR p l e s m args below meth c H locs la G C hP hS hL)
end KS
theorem kv_in0 : ∀ w ∈ u_ws RX0 TX0 8, w ∈ kv_T := fun w h => kv_T_mem ((by decide +kernel : ∀ w ∈ u_ws RX0 TX0 8, w ∈ lw_tbl) w h) ((by decide +kernel : ∀ w ∈ u_ws RX0 TX0 8, goodWord w = true) w h)
theorem kv_in1 : ∀ w ∈ u_ws RX1 TX1 9, w ∈ kv_T := fun w h => kv_T_mem ((by decide +kernel : ∀ w ∈ u_ws RX1 TX1 9, w ∈ lw_tbl) w h) ((by decide +kernel : ∀ w ∈ u_ws RX1 TX1 9, goodWord w = true) w h)
theorem kv_in2 : ∀ w ∈ u_ws RX2 TX2 4, w ∈ kv_T := fun w h => kv_T_mem ((by decide +kernel : ∀ w ∈ u_ws RX2 TX2 4, w ∈ lw_tbl) w h) ((by decide +kernel : ∀ w ∈ u_ws RX2 TX2 4, goodWord w = true) w h)
theorem kv_in3 : ∀ w ∈ u_ws RX3 TX3 3, w ∈ kv_T := fun w h => kv_T_mem ((by decide +kernel : ∀ w ∈ u_ws RX3 TX3 3, w ∈ lw_tbl) w h) ((by decide +kernel : ∀ w ∈ u_ws RX3 TX3 3, goodWord w = true) w h)
theorem kv_in4 : ∀ w ∈ u_ws RX4 TX4 7, w ∈ kv_T := fun w h => kv_T_mem ((by decide +kernel : ∀ w ∈ u_ws RX4 TX4 7, w ∈ lw_tbl) w h) ((by decide +kernel : ∀ w ∈ u_ws RX4 TX4 7, goodWord w = true) w h)
theorem kv_in5 : ∀ w ∈ u_ws RX5 TX5 10, w ∈ kv_T := fun w h => kv_T_mem ((by decide +kernel : ∀ w ∈ u_ws RX5 TX5 10, w ∈ lw_tbl) w h) ((by decide +kernel : ∀ w ∈ u_ws RX5 TX5 10, goodWord w = true) w h)
theorem kv_in6 : ∀ w ∈ u_ws RX6 TX6 4, w ∈ kv_T := fun w h => kv_T_mem ((by decide +kernel : ∀ w ∈ u_ws RX6 TX6 4, w ∈ lw_tbl) w h) ((by decide +kernel : ∀ w ∈ u_ws RX6 TX6 4, goodWord w = true) w h)
theorem kv_in7 : ∀ w ∈ u_ws RX7 TX7 3, w ∈ kv_T := fun w h => kv_T_mem ((by decide +kernel : ∀ w ∈ u_ws RX7 TX7 3, w ∈ lw_tbl) w h) ((by decide +kernel : ∀ w ∈ u_ws RX7 TX7 3, goodWord w = true) w h)
theorem kv_in8 : ∀ w ∈ u_ws RX8 TX8 10, w ∈ kv_T := fun w h => kv_T_mem ((by decide +kernel : ∀ w ∈ u_ws RX8 TX8 10, w ∈ lw_tbl) w h) ((by decide +kernel : ∀ w ∈ u_ws RX8 TX8 10, goodWord w = true) w h)
theorem kv_in9 : ∀ w ∈ u_ws RX9 TX9 12, w ∈ kv_T := fun w h => kv_T_mem ((by decide +kernel : ∀ w ∈ u_ws RX9 TX9 12, w ∈ lw_tbl) w h) ((by decide +kernel : ∀ w ∈ u_ws RX9 TX9 12, goodWord w = true) w h)
theorem kv_in10 : ∀ w ∈ u_ws RX10 TX10 38, w ∈ kv_T := fun w h => kv_T_mem ((by decide +kernel : ∀ w ∈ u_ws RX10 TX10 38, w ∈ lw_tbl) w h) ((by decide +kernel : ∀ w ∈ u_ws RX10 TX10 38, goodWord w = true) w h)

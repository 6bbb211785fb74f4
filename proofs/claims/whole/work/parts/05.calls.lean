section KC
variable {α : Type} {val : α → Option Value} {K : kv_K} {pc pc' tgt : Nat} {ls : List (Option Value)} {st : List Value} {h : kv_H} {R R1 R2 : Option (α × kv_H)}
theorem kv_after {p : Program} {l : Launch} {e : Env} {R : Room} {s : State} {m : MethodId} {args : Array Value} {below : List Frame} {meth : Method} {c : Code} {H : Heap} {locs : List Loc} {Q : State → Prop} {G : kv_G} {r : Option Value} {h1 : kv_H} {a : Array Value} {la : Array Slot} {sk rest : List Value} {pc : Nat}
    (hr : va_Run p l e R s m args below meth c H locs 0 0 0 0 (F0 m pc la sk) rest (kv_Q G r h1 a) (kv_A G)) (hS : va_S (kv_A G) s.heap H locs)
    (kk : ∀ (H1 : Heap) (locs1 : List Loc), va_P G.2.2.1 kv_cl (kv_w G h1) H1 → va_S (kv_A G) s.heap H1 locs1 → W p l e R s m args below meth c H1 locs1 0 0 Q (F0 m (pc + 3) la (r.toList ++ rest))) : W p l e R s m args below meth c H locs 0 0 Q (F0 m pc la sk) := by
  intro T hT X
  obtain ⟨v, st₀, t, T', L, h0, X', hL, e1, e2, ⟨hv, hP1, hz, hk⟩, st⟩ := hr T hT X
  cases hv
  rw [h0] at hz hk
  obtain ⟨t2, a1, b1⟩ := kk T'.heap (locs ++ L) (by rw [e1]; exact hP1)
    ⟨Nat.le_trans hS.1 (by rw [e1]; exact hz), fun q h1 h2 => by rw [e1, hk q (Nat.lt_of_lt_of_le h1 hS.1) h2]; exact hS.2.1 q h1 h2, fun q hq => by
      rcases List.mem_append.mp hq with h | h
      · exact hS.2.2 q h
      · exact hL q h⟩ T' rfl X'
  exact ⟨t2, st t2 a1, b1⟩
theorem kv_blind {G : kv_G} {As : List Value} {h : kv_H} : FrameBlind (kv_Pc G As h) := by
  intro a U g mk q
  obtain ⟨q0, q1, q2, q3, q4⟩ := q
  exact ⟨q0, q1, va_K.moved (u := U) (U := U.calling g mk a) (Vm.Alike.refl U.vm) q2, kv_St.same (U := U.calling g mk a) q3 rfl rfl, q4⟩
theorem kv_pre {G : kv_G} {As : List Value} {h : kv_H} {p : Program} {s : State} {m : MethodId} {args : Array Value} {meth : Method} {c : Code} {H : Heap} {locs : List Loc} (C : kv_C K G p s m args meth c) (hP : va_P G.2.2.1 kv_cl (kv_w G h) H) (hS : va_S (kv_A G) s.heap H locs) : ∀ U : State, U.heap = H → s.WarmedH U.vm → kv_Pc G As h (As.map (kv_v G)).toArray U := by
  intro U hU hW
  refine ⟨rfl, C.2.2.2.2.2.2.2.1, va_K.moved hW.alike C.2.2.2.2.2.2.2.2.1, ?_, by rw [hU]; exact hP⟩
  rw [hU]
  exact C.2.2.2.2.2.2.2.2.2.go hW hS.2.1
def kv_cw (own : String) (idx : Nat) (K2 : kv_K) (n : Nat) : Prop := Cond.initialized K2.1.cls ∈ kv_T ∧ Cond.code K2.1 K2.2.1 K2.2.2.1 K2.2.2.2.1 ∈ kv_T ∧ (K2.1.cls ≠ "java/lang/invoke/MethodHandle" ∧ K2.1.cls ≠ "java/lang/invoke/VarHandle" ∧ (parseMethodDescriptor K2.1.desc).map (fun d => d.parameters.length) = some n) ∧ K2.2.2.1 ≤ 20
/-- a call of an instance method of our classes -/
def kv_Cv (own : String) (idx : Nat) (K2 : kv_K) (ci n : Nat) : Prop := (∃ (T : u_T) (N : Nat), kv_cl[ci]? = some (K2.1.cls, T, N)) ∧ Cond.methodLink own idx K2.1 ∈ kv_T ∧ Cond.instanceMethod K2.1 ∈ kv_T ∧ Cond.selects K2.1.cls K2.1 K2.1 ∈ kv_T ∧ kv_cw own idx K2 n
def kv_Cs (own : String) (idx : Nat) (K2 : kv_K) (n : Nat) : Prop := Cond.methodLink own idx K2.1 ∈ kv_T ∧ Cond.static K2.1 ∈ kv_T ∧ kv_cw own idx K2 n
def kv_Cn (own : String) (idx : Nat) (K2 : kv_K) (host : String) (n : Nat) : Prop := Cond.methodLinkNest own idx K2.1 host ∈ kv_N ∧ Cond.static K2.1 ∈ kv_T ∧ kv_cw own idx K2 n
theorem kv_room {d d2 n : Nat} (hd : d2 + 1 ≤ d) (hn : n ≤ 20) : (kv_rm d2).frames + 1 ≤ (kv_rm d).frames ∧ 8 + (n + 11) + (kv_rm d2).locals ≤ (kv_rm d).locals := by
  unfold kv_rm
  dsimp only
  omega
theorem kv_wcat (G : kv_G) : ∀ st : List Value, ((st.map (kv_v G)).map fun v => v.category).sum = (st.map fun v => v.category).sum
  | [] => rfl
  | v :: t => by simp only [List.map_cons, List.sum_cons, kv_v_cat, kv_wcat G t]
theorem kv_b_some {β γ : Type} {M : Option (β × kv_H)} {C : β → kv_H → Option γ} {r : γ} (h : kv_b M C = some r) : ∃ a h1, M = some (a, h1) ∧ C a h1 = some r := by
  cases M with
  | none => cases h
  | some p => exact ⟨p.1, p.2, rfl, h⟩
theorem kr_iv {β : Type} {vb : β → Option Value} {K2 : kv_K} {idx ci k : Nat} {As : List Value} {fs : List (Option Nat)} {M : Option (β × kv_H)} {Cc : β → kv_H → Option (α × kv_H)} {sk : List Value} (hvb : ∀ (G : kv_G) (r : β), (vb r).toList.map (kv_v G) = (vb r).toList) (hd : kv_d K pc (.invokevirtual idx) 3 pc') (hc : kv_Cv K.1.cls idx K2 ci As.length) (hm : kv_M vb K2 (.ref k :: As) h M) (hs : kv_sh[k]? = some (.inr (ci, fs))) (hdep : K2.2.2.2.2 + 1 ≤ K.2.2.2.2) (hsk : sk = As.reverse ++ .ref k :: st) (hw : (st.map fun v => v.category).sum ≤ 8) (kk : ∀ r h1, kv_S val K pc' ls ((vb r).toList ++ st) h1 (Cc r h1)) : kv_S val K pc ls sk h (kv_b M Cc) := by
  obtain ⟨h1, rfl⟩ := hd
  obtain ⟨⟨T, N, c1⟩, c2, c3, c4, c5, c6, c7, c8⟩ := hc
  intro r h' hR p l e s m args below meth c H locs la G C hP hS hL
  obtain ⟨r1, h2, hM, hR⟩ := kv_b_some hR
  have hst : sk.map (kv_v G) = (As.map (kv_v G)).reverse ++ .ref (kv_ad G k) :: st.map (kv_v G) := by rw [hsk, List.map_append, List.map_reverse]; rfl
  rw [hst]
  have hcw : CallW (kv_rm K.2.2.2.2) s args K.1.cls K2.1.cls idx K2.1 K2.2.1 K2.2.2.1 K2.2.2.2.1 (Cond.code K2.1 K2.2.1 K2.2.2.1 K2.2.2.2.1 :: kv_T) (kv_rm K2.2.2.2.2) 0 0 As.length := cwV As.length C.2.2.2.2.1 (kv_goodIn (fun w hw => by
    rcases List.mem_append.mp hw with q | q
    · simp only [List.mem_cons, List.not_mem_nil, or_false] at q
      rcases q with rfl | rfl | rfl | rfl
      · exact c2
      · exact c3
      · exact c4
      · exact c5
    · rcases List.mem_cons.mp q with rfl | q
      · exact c6
      · exact q)) rfl rfl rfl ⟨rfl, c7⟩ (kv_room hdep c8)
  refine kv_after (va_runV (As := As.map (kv_v G)) (rest := st.map (kv_v G)) (b := kv_ad G k) ⟨C.1, C.2.1, C.2.2.1, C.2.2.2.1, C.2.2.2.2.1⟩ (hm l G r1 h2 hM) hcw ⟨kv_blind, va_recv C.2.2.2.2.2.2.2.2.1 hP c1 (kv_w_at hs), kv_pre (As := .ref k :: As) C hP hS⟩ rfl (by rw [List.length_map]) hL.1 rfl (lv_room (by rw [kv_wcat]; exact hw)) h1 ⟨Nat.le_refl _, Nat.le_refl _⟩) hS (fun H1 locs1 hP1 hS1 => ?_)
  have q := kk r1 h2 r h' hR p l e s m args below meth c H1 locs1 la G C hP1 hS1 hL
  rw [List.map_append, hvb G r1] at q
  exact q
theorem kr_is {β : Type} {vb : β → Option Value} {K2 : kv_K} {idx : Nat} {As : List Value} {M : Option (β × kv_H)} {Cc : β → kv_H → Option (α × kv_H)} {sk : List Value} (hvb : ∀ (G : kv_G) (r : β), (vb r).toList.map (kv_v G) = (vb r).toList) (hd : kv_d K pc (.invokestatic idx) 3 pc') (hc : kv_Cs K.1.cls idx K2 As.length) (hm : kv_M vb K2 As h M) (hdep : K2.2.2.2.2 + 1 ≤ K.2.2.2.2) (hsk : sk = As.reverse ++ st) (hw : (st.map fun v => v.category).sum ≤ 8) (kk : ∀ r h1, kv_S val K pc' ls ((vb r).toList ++ st) h1 (Cc r h1)) : kv_S val K pc ls sk h (kv_b M Cc) := by
  obtain ⟨h1, rfl⟩ := hd
  obtain ⟨c2, c4, c5, c6, c7, c8⟩ := hc
  intro r h' hR p l e s m args below meth c H locs la G C hP hS hL
  obtain ⟨r1, h2, hM, hR⟩ := kv_b_some hR
  have hst : sk.map (kv_v G) = (As.map (kv_v G)).reverse ++ st.map (kv_v G) := by rw [hsk, List.map_append, List.map_reverse]
  rw [hst]
  have hcw := va_cwS (R := kv_rm K.2.2.2.2) (s := s) (args := args) (own := K.1.cls) (index := idx) (y := K2.1) (bytes := K2.2.1) (maxL := K2.2.2.1) (ret := K2.2.2.2.1) (ws := Cond.code K2.1 K2.2.1 K2.2.2.1 K2.2.2.2.1 :: kv_T) (rm := kv_rm K2.2.2.2.2) As.length C.2.2.2.2.1 (kv_goodIn (fun w hw => by
    rcases List.mem_append.mp hw with q | q
    · simp only [List.mem_cons, List.not_mem_nil, or_false] at q
      rcases q with rfl | rfl | rfl
      · exact c2
      · exact c4
      · exact c5
    · rcases List.mem_cons.mp q with rfl | q
      · exact c6
      · exact q)) rfl rfl rfl c7 (kv_room hdep c8)
  refine kv_after (va_runS (As := As.map (kv_v G)) (rest := st.map (kv_v G)) ⟨C.1, C.2.1, C.2.2.1, C.2.2.2.1, C.2.2.2.2.1⟩ (hm l G r1 h2 hM) hcw ⟨kv_blind, kv_pre C hP hS⟩ rfl (by rw [List.length_map]) hL.1 rfl (lv_room (by rw [kv_wcat]; exact hw)) h1 ⟨Nat.le_refl _, Nat.le_refl _⟩) hS (fun H1 locs1 hP1 hS1 => ?_)
  have q := kk r1 h2 r h' hR p l e s m args below meth c H1 locs1 la G C hP1 hS1 hL
  rw [List.map_append, hvb G r1] at q
  exact q
theorem kr_isn {β : Type} {vb : β → Option Value} {K2 : kv_K} {idx : Nat} {host : String} {As : List Value} {M : Option (β × kv_H)} {Cc : β → kv_H → Option (α × kv_H)} {sk : List Value} (hvb : ∀ (G : kv_G) (r : β), (vb r).toList.map (kv_v G) = (vb r).toList) (hd : kv_d K pc (.invokestatic idx) 3 pc') (hc : kv_Cn K.1.cls idx K2 host As.length) (hm : kv_M vb K2 As h M) (hdep : K2.2.2.2.2 + 1 ≤ K.2.2.2.2) (hsk : sk = As.reverse ++ st) (hw : (st.map fun v => v.category).sum ≤ 8) (kk : ∀ r h1, kv_S val K pc' ls ((vb r).toList ++ st) h1 (Cc r h1)) : kv_S val K pc ls sk h (kv_b M Cc) := by
  obtain ⟨h1, rfl⟩ := hd
  obtain ⟨c2, c4, c5, c6, c7, c8⟩ := hc
  intro r h' hR p l e s m args below meth c H locs la G C hP hS hL
  obtain ⟨r1, h2, hM, hR⟩ := kv_b_some hR
  have hst : sk.map (kv_v G) = (As.map (kv_v G)).reverse ++ st.map (kv_v G) := by rw [hsk, List.map_append, List.map_reverse]
  rw [hst]
  have hcw := va_cnB (R := kv_rm K.2.2.2.2) (s := s) (args := args) (own := K.1.cls) (index := idx) (host := host) (y := K2.1) (bytes := K2.2.1) (maxL := K2.2.2.1) (ret := K2.2.2.2.1) (ws := Cond.code K2.1 K2.2.1 K2.2.2.1 K2.2.2.2.1 :: kv_T) (rm := kv_rm K2.2.2.2.2) As.length C.2.2.2.2.1 (kv_goodIn (fun w hw => by
    rcases List.mem_cons.mp hw with rfl | q
    · exact c6
    · exact q)) rfl rfl rfl (C.2.2.2.2.2.2.2.2.2.2.2.2.2.2.2.2.2 _ c2) (C.2.2.2.2.1 _ c5) c7 (kv_room hdep c8)
  refine kv_after (va_runSN (As := As.map (kv_v G)) (rest := st.map (kv_v G)) ⟨C.1, C.2.1, C.2.2.1, C.2.2.2.1, C.2.2.2.2.1⟩ (hm l G r1 h2 hM) ⟨hcw, C.2.2.2.2.1 _ c4, trivial⟩ ⟨kv_blind, kv_pre C hP hS⟩ rfl (by rw [List.length_map]) hL.1 rfl (lv_room (by rw [kv_wcat]; exact hw)) h1 ⟨Nat.le_refl _, Nat.le_refl _⟩) hS (fun H1 locs1 hP1 hS1 => ?_)
  have q := kk r1 h2 r h' hR p l e s m args below meth c H1 locs1 la G C hP1 hS1 hL
  rw [List.map_append, hvb G r1] at q
  exact q

theorem kr_iv_i {K2 : kv_K} {idx : Nat} {ci k : Nat} {fs : List (Option Nat)} {As : List Value} {M : Option (Int32 × kv_H)} {Cc : Int32 → kv_H → Option (α × kv_H)} {sk : List Value} (hd : kv_d K pc (.invokevirtual idx) 3 pc') (hc : kv_Cv K.1.cls idx K2 ci As.length) (hm : kv_M kv_i K2 (.ref k :: As) h M) (hs : kv_sh[k]? = some (.inr (ci, fs))) (hdep : K2.2.2.2.2 + 1 ≤ K.2.2.2.2) (hsk : sk = As.reverse ++ .ref k :: st) (hw : (st.map fun v => v.category).sum ≤ 8) (kk : ∀ (r : Int32) (h1 : kv_H), kv_S val K pc' ls (.int r :: st) h1 (Cc r h1)) : kv_S val K pc ls sk h (kv_b M Cc) := kr_iv (fun _ _ => rfl) hd hc hm hs hdep hsk hw kk
theorem kr_iv_l {K2 : kv_K} {idx : Nat} {ci k : Nat} {fs : List (Option Nat)} {As : List Value} {M : Option (Int64 × kv_H)} {Cc : Int64 → kv_H → Option (α × kv_H)} {sk : List Value} (hd : kv_d K pc (.invokevirtual idx) 3 pc') (hc : kv_Cv K.1.cls idx K2 ci As.length) (hm : kv_M kv_l K2 (.ref k :: As) h M) (hs : kv_sh[k]? = some (.inr (ci, fs))) (hdep : K2.2.2.2.2 + 1 ≤ K.2.2.2.2) (hsk : sk = As.reverse ++ .ref k :: st) (hw : (st.map fun v => v.category).sum ≤ 8) (kk : ∀ (r : Int64) (h1 : kv_H), kv_S val K pc' ls (.long r :: st) h1 (Cc r h1)) : kv_S val K pc ls sk h (kv_b M Cc) := kr_iv (fun _ _ => rfl) hd hc hm hs hdep hsk hw kk
theorem kr_iv_u {K2 : kv_K} {idx : Nat} {ci k : Nat} {fs : List (Option Nat)} {As : List Value} {M : Option (Unit × kv_H)} {Cc : kv_H → Option (α × kv_H)} {sk : List Value} (hd : kv_d K pc (.invokevirtual idx) 3 pc') (hc : kv_Cv K.1.cls idx K2 ci As.length) (hm : kv_M kv_u K2 (.ref k :: As) h M) (hs : kv_sh[k]? = some (.inr (ci, fs))) (hdep : K2.2.2.2.2 + 1 ≤ K.2.2.2.2) (hsk : sk = As.reverse ++ .ref k :: st) (hw : (st.map fun v => v.category).sum ≤ 8) (kk : ∀ (h1 : kv_H), kv_S val K pc' ls (st) h1 (Cc h1)) : kv_S val K pc ls sk h (kv_b M (fun _ => Cc)) := kr_iv (fun _ _ => rfl) hd hc hm hs hdep hsk hw (fun _ h1 => kk h1)
theorem kr_is_i {K2 : kv_K} {idx : Nat} {As : List Value} {M : Option (Int32 × kv_H)} {Cc : Int32 → kv_H → Option (α × kv_H)} {sk : List Value} (hd : kv_d K pc (.invokestatic idx) 3 pc') (hc : kv_Cs K.1.cls idx K2 As.length) (hm : kv_M kv_i K2 As h M) (hdep : K2.2.2.2.2 + 1 ≤ K.2.2.2.2) (hsk : sk = As.reverse ++ st) (hw : (st.map fun v => v.category).sum ≤ 8) (kk : ∀ (r : Int32) (h1 : kv_H), kv_S val K pc' ls (.int r :: st) h1 (Cc r h1)) : kv_S val K pc ls sk h (kv_b M Cc) := kr_is (fun _ _ => rfl) hd hc hm hdep hsk hw kk
theorem kr_is_l {K2 : kv_K} {idx : Nat} {As : List Value} {M : Option (Int64 × kv_H)} {Cc : Int64 → kv_H → Option (α × kv_H)} {sk : List Value} (hd : kv_d K pc (.invokestatic idx) 3 pc') (hc : kv_Cs K.1.cls idx K2 As.length) (hm : kv_M kv_l K2 As h M) (hdep : K2.2.2.2.2 + 1 ≤ K.2.2.2.2) (hsk : sk = As.reverse ++ st) (hw : (st.map fun v => v.category).sum ≤ 8) (kk : ∀ (r : Int64) (h1 : kv_H), kv_S val K pc' ls (.long r :: st) h1 (Cc r h1)) : kv_S val K pc ls sk h (kv_b M Cc) := kr_is (fun _ _ => rfl) hd hc hm hdep hsk hw kk
theorem kr_is_u {K2 : kv_K} {idx : Nat} {As : List Value} {M : Option (Unit × kv_H)} {Cc : kv_H → Option (α × kv_H)} {sk : List Value} (hd : kv_d K pc (.invokestatic idx) 3 pc') (hc : kv_Cs K.1.cls idx K2 As.length) (hm : kv_M kv_u K2 As h M) (hdep : K2.2.2.2.2 + 1 ≤ K.2.2.2.2) (hsk : sk = As.reverse ++ st) (hw : (st.map fun v => v.category).sum ≤ 8) (kk : ∀ (h1 : kv_H), kv_S val K pc' ls (st) h1 (Cc h1)) : kv_S val K pc ls sk h (kv_b M (fun _ => Cc)) := kr_is (fun _ _ => rfl) hd hc hm hdep hsk hw (fun _ h1 => kk h1)
theorem kr_isn_i {K2 : kv_K} {idx : Nat} {host : String} {As : List Value} {M : Option (Int32 × kv_H)} {Cc : Int32 → kv_H → Option (α × kv_H)} {sk : List Value} (hd : kv_d K pc (.invokestatic idx) 3 pc') (hc : kv_Cn K.1.cls idx K2 host As.length) (hm : kv_M kv_i K2 As h M) (hdep : K2.2.2.2.2 + 1 ≤ K.2.2.2.2) (hsk : sk = As.reverse ++ st) (hw : (st.map fun v => v.category).sum ≤ 8) (kk : ∀ (r : Int32) (h1 : kv_H), kv_S val K pc' ls (.int r :: st) h1 (Cc r h1)) : kv_S val K pc ls sk h (kv_b M Cc) := kr_isn (fun _ _ => rfl) hd hc hm hdep hsk hw kk
theorem kr_isn_l {K2 : kv_K} {idx : Nat} {host : String} {As : List Value} {M : Option (Int64 × kv_H)} {Cc : Int64 → kv_H → Option (α × kv_H)} {sk : List Value} (hd : kv_d K pc (.invokestatic idx) 3 pc') (hc : kv_Cn K.1.cls idx K2 host As.length) (hm : kv_M kv_l K2 As h M) (hdep : K2.2.2.2.2 + 1 ≤ K.2.2.2.2) (hsk : sk = As.reverse ++ st) (hw : (st.map fun v => v.category).sum ≤ 8) (kk : ∀ (r : Int64) (h1 : kv_H), kv_S val K pc' ls (.long r :: st) h1 (Cc r h1)) : kv_S val K pc ls sk h (kv_b M Cc) := kr_isn (fun _ _ => rfl) hd hc hm hdep hsk hw kk
theorem kr_isn_u {K2 : kv_K} {idx : Nat} {host : String} {As : List Value} {M : Option (Unit × kv_H)} {Cc : kv_H → Option (α × kv_H)} {sk : List Value} (hd : kv_d K pc (.invokestatic idx) 3 pc') (hc : kv_Cn K.1.cls idx K2 host As.length) (hm : kv_M kv_u K2 As h M) (hdep : K2.2.2.2.2 + 1 ≤ K.2.2.2.2) (hsk : sk = As.reverse ++ st) (hw : (st.map fun v => v.category).sum ≤ 8) (kk : ∀ (h1 : kv_H), kv_S val K pc' ls (st) h1 (Cc h1)) : kv_S val K pc ls sk h (kv_b M (fun _ => Cc)) := kr_isn (fun _ _ => rfl) hd hc hm hdep hsk hw (fun _ h1 => kk h1)
/-! System.arraycopy between rows of ints -/
def kv_Ca (own : String) (idx : Nat) : Prop := Cond.methodLink own idx arraycopyName ∈ kv_T ∧ Cond.native arraycopyName ∈ kv_T ∧ Cond.static arraycopyName ∈ kv_T ∧ Cond.initialized "java/lang/System" ∈ kv_T
def kv_y {β : Type} (x y z : Int32) (n0 n1 : Nat) (R : Option β) : Option β := if x < 0 ∨ y < 0 ∨ z < 0 ∨ n0 < x.toNatClampNeg + z.toNatClampNeg ∨ n1 < y.toNatClampNeg + z.toNatClampNeg then none else R
theorem kr_copy {idx k0 k1 n0 n1 : Nat} {x y z : Int32} (hd : kv_d K pc (.invokestatic idx) 3 pc') (hc : kv_Ca K.1.cls idx) (hs0 : kv_sh[k0]? = some (.inl (n0, none))) (hs1 : kv_sh[k1]? = some (.inl (n1, none))) (hdep : 1 ≤ K.2.2.2.2) (hw : (st.map fun v => v.category).sum ≤ 8) (kk : kv_S val K pc' ls st (kv_row h k1 (va_cpy (h k0) (h k1) x.toNatClampNeg y.toNatClampNeg z.toNatClampNeg)) R) : kv_S val K pc ls (.int z :: .int y :: .ref k1 :: .int x :: .ref k0 :: st) h (kv_y x y z n0 n1 R) := by
  obtain ⟨h1, rfl⟩ := hd
  obtain ⟨c1, c2, c3, c4⟩ := hc
  intro r h' hR p l e s m args below meth c H locs la G C hP hS hL
  unfold kv_y at hR
  split at hR
  · cases hR
  rename_i hq
  have q1 : ¬ x < 0 := fun q => hq (Or.inl q)
  have q2 : ¬ y < 0 := fun q => hq (Or.inr (Or.inl q))
  have q3 : ¬ z < 0 := fun q => hq (Or.inr (Or.inr (Or.inl q)))
  have q4 : x.toNatClampNeg + z.toNatClampNeg ≤ n0 := Nat.not_lt.mp (fun q => hq (Or.inr (Or.inr (Or.inr (Or.inl q)))))
  have q5 : y.toNatClampNeg + z.toNatClampNeg ≤ n1 := Nat.not_lt.mp (fun q => hq (Or.inr (Or.inr (Or.inr (Or.inr q)))))
  have hcat := kv_wcat G st
  refine va_copyi C.1 C.2.1 (C.2.2.1.trans hL.1.symm) C.2.2.2.1 (C.2.2.2.2.1 _ c1) (C.2.2.2.2.1 _ c2) (C.2.2.2.2.1 _ c3) (C.2.2.2.2.1 _ c4) C.2.2.2.2.2.2.2.2.1 hP (kv_wD C.2.2.2.2.2.2.2.1 h) hS k0 k1 0 0 (kv_w_at hs0) (kv_w_at hs1) rfl rfl rfl q1 q2 q3 q4 q5 (fun _ _ => rfl) (show 1 ≤ (kv_rm _).frames from hdep) (by
    have e1 : nativeFrameWords "java/lang/System" "arraycopy" 5 + 11 ≤ 32 := by decide +kernel
    rw [hcat]
    show _ ≤ 40 * K.2.2.2.2
    omega) h1 (fun H1 locs1 hP1 _ hS1 => ?_)
  have e1 := kv_w_set (G := G) (h := h) (h' := kv_row h k1 (va_cpy (h k0) (h k1) x.toNatClampNeg y.toNatClampNeg z.toNatClampNeg)) hs1 (kv_row_off h k1 _)
  have e2 : kv_e G (kv_row h k1 (va_cpy (h k0) (h k1) x.toNatClampNeg y.toNatClampNeg z.toNatClampNeg)) k1 (.inl (n1, none)) = .inl (G.1, n1, .inl (va_cpy (h k0) (h k1) x.toNatClampNeg y.toNatClampNeg z.toNatClampNeg)) := by
    show (.inl (G.1, n1, .inl (kv_row h k1 _ k1)) : va_E) = _
    rw [kv_row_at]
  rw [e2] at e1
  exact kk r h' hR p l e s m args below meth c H1 locs1 la G C (by rw [← e1]; exact hP1) hS1 hL
/-! static rows of ints: KIND_ABOVE (id 1000), TIGHTNESS (id 1001) -/
theorem kr_gsKA {idx : Nat} (hd : kv_d K pc (.getstatic idx) 3 pc') (hl : Cond.fieldLink K.1.cls idx "KeptLeaves" "KIND_ABOVE" "[I" ∈ kv_T) (kk : kv_S val K pc' ls (.ref 1000 :: st) h R) : kv_S val K pc ls st h R := by
  obtain ⟨h1, rfl⟩ := hd
  intro r h' hR p l e s m args below meth c H locs la G C hP hS hL
  exact va_gets C.1 C.2.1 C.2.2.2.2.2.2.2.2.2.1 hS C.2.2.2.1 (C.2.2.2.2.1 _ hl) (fun _ q => q) h1 (kk r h' hR p l e s m args below meth c H locs la G C hP hS hL)
theorem kr_gsTI {idx : Nat} {host : String} (hd : kv_d K pc (.getstatic idx) 3 pc') (hl : Cond.fieldLinkNest K.1.cls idx "KeptLeaves" "TIGHTNESS" "[I" host ∈ kv_N) (kk : kv_S val K pc' ls (.ref 1001 :: st) h R) : kv_S val K pc ls st h R := by
  obtain ⟨h1, rfl⟩ := hd
  intro r h' hR p l e s m args below meth c H locs la G C hP hS hL
  exact va_getsN C.1 C.2.1 C.2.2.2.2.2.2.2.2.2.2.2.1 hS C.2.2.2.1 (va_Nw.use rfl (C.2.2.2.2.2.2.2.2.2.2.2.2.2.2.2.2.2 _ hl)) (fun _ q => q) h1 (kk r h' hR p l e s m args below meth c H locs la G C hP hS hL)
theorem kr_ldKA {x : Int32} (hd : kv_d K pc .iaload 1 pc') (kk : kv_S val K pc' ls (.int (kv_ka.getD x.toNatClampNeg 0) :: st) h R) : kv_S val K pc ls (.int x :: .ref 1000 :: st) h (kv_k x 6 R) := by
  obtain ⟨h1, rfl⟩ := hd
  intro r h' hR p l e s m args below meth c H locs la G C hP hS hL
  obtain ⟨hin, hR⟩ := kv_k_some hR
  exact va_ti C.1 C.2.1 C.2.2.2.2.2.2.2.2.2.2.1 hS hin rfl h1 (kk r h' hR p l e s m args below meth c H locs la G C hP hS hL)
theorem kr_ldTI {x : Int32} (hd : kv_d K pc .iaload 1 pc') (kk : kv_S val K pc' ls (.int (kv_ti.getD x.toNatClampNeg 0) :: st) h R) : kv_S val K pc ls (.int x :: .ref 1001 :: st) h (kv_k x 9 R) := by
  obtain ⟨h1, rfl⟩ := hd
  intro r h' hR p l e s m args below meth c H locs la G C hP hS hL
  obtain ⟨hin, hR⟩ := kv_k_some hR
  exact va_ti C.1 C.2.1 C.2.2.2.2.2.2.2.2.2.2.2.2.1 hS hin rfl h1 (kk r h' hR p l e s m args below meth c H locs la G C hP hS hL)
end KC

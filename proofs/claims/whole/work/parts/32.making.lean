section KE
variable {K : kv_K} {pc pc' tgt : Nat} {ls : List (Option Value)} {st : List Value} {ws wR : List kd_E} {cn sn mc ms : Nat}
theorem kd_L_x {G : kv_G} {n q nL : Nat} {ls : List (Option Value)} {la : Array Slot} (h : kv_L G nL ls la) (hf : ls.all (fun v => match v with | some v => kd_fv n v | none => true) = true) : kv_L (kd_x G n q) nL ls la := by
  refine ⟨h.1, h.2.1, fun x hx => ?_⟩
  obtain ⟨j, v, h1, h2⟩ := kv_prs_mem.mp hx
  have h3 := List.all_eq_true.mp hf _ (List.mem_of_getElem? h1)
  rw [h2]
  show la[0 + j]? = some (.val (kv_v (kd_x G n q) v))
  rw [kd_v_x h3, Nat.zero_add]
  exact kv_L_at h h1
theorem kd_st_x {G : kv_G} {n q : Nat} {st : List Value} (hf : st.all (kd_fv n) = true) : st.map (kv_v (kd_x G n q)) = st.map (kv_v G) := List.map_congr_left (fun v hv => kd_v_x (List.all_eq_true.mp hf v hv))
/-- nothing refers to the cell that comes next -/
def kd_ok (ls : List (Option Value)) (st : List Value) (ws : List kd_E) : Bool := ls.all (fun v => match v with | some v => kd_fv ws.length v | none => true) && (st.all (kd_fv ws.length) && (ws.all (kd_fr ws.length) && (decide (0 < ws.length) && decide (ws.length < 900))))
theorem kd_ok_use (h : kd_ok ls st ws = true) : ls.all (fun v => match v with | some v => kd_fv ws.length v | none => true) = true ∧ st.all (kd_fv ws.length) = true ∧ ws.all (kd_fr ws.length) = true ∧ 0 < ws.length ∧ ws.length < 900 := by
  simp only [kd_ok, Bool.and_eq_true, decide_eq_true_eq] at h
  exact h
theorem kd_x_0 {G : kv_G} {n q a : Nat} (h : kv_ad G 0 = a) (hn : 0 < n) : kv_ad (kd_x G n q) 0 = a := by
  show (if 0 = n then q else kv_ad G 0) = a
  rw [if_neg (by omega)]; exact h
theorem kd_x_9 {G : kv_G} {n q a : Nat} (h : kv_ad G 900 = a) (hn : n < 900) : kv_ad (kd_x G n q) 900 = a := by
  show (if 900 = n then q else kv_ad G 900) = a
  rw [if_neg (by omega)]; exact h
theorem kd_x_n {G : kv_G} {n q : Nat} : kv_ad (kd_x G n q) n = q := by
  show (if n = n then q else _) = q
  rw [if_pos rfl]
def kd_Nw (own : String) (idx ci : Nat) (fs : List Value) : Prop := ∃ (C : String) (T : u_T) (N : Nat) (ty : Nat → FieldType), kv_cl[ci]? = some (C, T, N) ∧ (∀ w ∈ u_ws C T N, w ∈ kv_T) ∧ (∀ k, k < N → parseFieldDescriptor (T k).2.2.1 = some (ty k)) ∧ Cond.classLink own idx C ∈ kv_T ∧ Cond.instantiable C N ∈ kv_T ∧ Cond.initialized C ∈ kv_T ∧ (∀ j, j < N → defaultValue (ty j) = vp_V fs j) ∧ N = fs.length ∧ ∀ G, fs.map (kv_v G) = fs
theorem kd_new {idx ci : Nat} {fs : List Value} (hd : kv_d K pc (.new idx) 3 pc') (hN : kd_Nw K.1.cls idx ci fs) (hok : kd_ok ls st ws = true) (hc : cn + 1 ≤ mc) (hs : sn + fs.length ≤ ms) (kk : kd_S K pc' ls (.ref ws.length :: st) (ws ++ [.inr (.inr (ci, fs))]) (cn + 1) (sn + fs.length) wR mc ms) : kd_S K pc ls st ws cn sn wR mc ms := by
  obtain ⟨h1, rfl⟩ := hd
  obtain ⟨Cn, T, N, ty, f1, f2, f3, f4, f5, f6, f7, f8, f9⟩ := hN
  obtain ⟨o1, o2, o3, o4, o5⟩ := kd_ok_use hok
  subst f8
  intro p l e s m args below meth c H locs la G A a0 a9 C h0 h9 hA hP hD hS hL
  refine va_new C.1 C.2.1 C.2.2.2.2.1 f2 ty f3 C.2.2.2.1 (C.2.2.2.2.1 _ f4) (C.2.2.2.2.1 _ f5) (C.2.2.2.2.1 _ f6) C.2.2.2.2.2.2.2.2.1 hP hD hS hA f1 f7 hc hs h1 (fun q H1 hP1 hD1 hS1 => ?_)
  have e1 : kd_w (kd_x G ws.length q) (ws ++ [.inr (.inr (ci, fs))]) = kd_w G ws ++ [(q, .inr (ci, fs))] := by
    rw [kd_w_push o3]
    show _ ++ [(q, (Sum.inr (ci, fs.map (kv_v (kd_x G ws.length q))) : va_E))] = _
    rw [f9]
  have q2 := kk p l e s m args below meth c H1 locs la (kd_x G ws.length q) A a0 a9 C (kd_x_0 h0 o4) (kd_x_9 h9 o5) hA (by rw [e1]; exact hP1) (by rw [e1]; exact hD1) hS1 (kd_L_x hL o1)
  have e2 : (Value.ref ws.length :: st).map (kv_v (kd_x G ws.length q)) = .ref q :: st.map (kv_v G) := by
    rw [List.map_cons, kd_st_x o2]
    show Value.ref (kv_ad (kd_x G ws.length q) ws.length) :: _ = _
    rw [kd_x_n]
  rw [e2] at q2
  exact q2
theorem kd_cI {D : va_G} {cl : List vw_C} {tys : List (ClassId × FieldType)} {s : State} {cI cA : ClassId} (h : va_K D cl tys s) (i j : Nat) (hi : tys[i]? = some (cI, .int)) (hj : tys[j]? = some (cA, .int)) : cA = cI := Option.some.inj (((h.2 j _ hj).2 : s.vm.findClass _ = some cA).symm.trans ((h.2 i _ hi).2 : s.vm.findClass _ = some cI))
theorem kd_cO {D : va_G} {cl : List vw_C} {tys : List (ClassId × FieldType)} {s : State} {cI cA : ClassId} {C : String} (h : va_K D cl tys s) (i j : Nat) (hi : tys[i]? = some (cI, .object C)) (hj : tys[j]? = some (cA, .object C)) : cA = cI := by
  obtain ⟨kA, comp, h1, h2, h3, h4⟩ := ((h.2 j _ hj).2 : va_RA s cA (.object C))
  obtain ⟨kB, comp2, g1, g2, g3, g4⟩ := ((h.2 i _ hi).2 : va_RA s cI (.object C))
  exact Option.some.inj (h4.symm.trans g4)
theorem kd_newarr {n : Int32} {N : Nat} (hd : kv_d K pc (.newarray .int) 2 pc') (hw : Cond.arrayClass .int ∈ kv_T) (hn : ¬ n < 0) (hN : n.toNatClampNeg = N) (hb : N ≤ 100000) (hok : kd_ok ls st ws = true) (hc : cn + 1 ≤ mc) (hs : sn + N ≤ ms) (kk : kd_S K pc' ls (.ref ws.length :: st) (ws ++ [.inl (N, fun _ => 0)]) (cn + 1) (sn + N) wR mc ms) : kd_S K pc ls (.int n :: st) ws cn sn wR mc ms := by
  obtain ⟨h1, rfl⟩ := hd
  obtain ⟨o1, o2, o3, o4, o5⟩ := kd_ok_use hok
  intro p l e s m args below meth c H locs la G A a0 a9 C h0 h9 hA hP hD hS hL
  refine va_newa (atype := .int) (a0 := (N, .inl fun _ => 0)) C.1 C.2.1 (C.2.2.2.2.1 _ hw) rfl C.2.2.2.2.2.2.2.2.1 hP hD hS hA (fun cA => rfl) hn hN (by show N * 4 ≤ _; omega) hc hs h1 (fun q cA H1 hK1 hP1 hD1 hS1 => ?_)
  have hcA : cA = G.1 := kd_cI hK1 0 5 rfl rfl
  subst hcA
  have e1 : kd_w (kd_x G ws.length q) (ws ++ [.inl (N, fun _ => 0)]) = kd_w G ws ++ [(q, .inl (G.1, N, .inl fun _ => 0))] := by rw [kd_w_push o3]; rfl
  have q2 := kk p l e s m args below meth c H1 locs la (kd_x G ws.length q) A a0 a9 C (kd_x_0 h0 o4) (kd_x_9 h9 o5) hA (by rw [e1]; exact hP1) (by rw [e1]; exact hD1) hS1 (kd_L_x hL o1)
  have e2 : (Value.ref ws.length :: st).map (kv_v (kd_x G ws.length q)) = .ref q :: st.map (kv_v G) := by
    rw [List.map_cons, kd_st_x o2]
    show Value.ref (kv_ad (kd_x G ws.length q) ws.length) :: _ = _
    rw [kd_x_n]
  rw [e2] at q2
  exact q2
theorem kd_anew {n : Int32} {N cc idx : Nat} {Cn : String} (hd : kv_d K pc (.anewarray idx) 3 pc') (hl : Cond.classLink K.1.cls idx Cn ∈ kv_T) (hcc : (cc = 0 ∧ Cn = RX0) ∨ (cc = 3 ∧ Cn = RX3) ∨ (cc = 4 ∧ Cn = RX4) ∨ (cc = 6 ∧ Cn = RX6)) (hn : ¬ n < 0) (hN : n.toNatClampNeg = N) (hb : N ≤ 100000) (hok : kd_ok ls st ws = true) (hc : cn + 1 ≤ mc) (hs : sn + N ≤ ms) (kk : kd_S K pc' ls (.ref ws.length :: st) (ws ++ [.inr (.inl (cc, List.replicate N none))]) (cn + 1) (sn + N) wR mc ms) : kd_S K pc ls (.int n :: st) ws cn sn wR mc ms := by
  obtain ⟨h1, rfl⟩ := hd
  obtain ⟨o1, o2, o3, o4, o5⟩ := kd_ok_use hok
  intro p l e s m args below meth c H locs la G A a0 a9 C h0 h9 hA hP hD hS hL
  have hao : va_AO Cn s := by
    have w := C.2.2.2.2.2.2.2.2.2
    rcases hcc with ⟨_, rfl⟩ | ⟨_, rfl⟩ | ⟨_, rfl⟩ | ⟨_, rfl⟩
    · exact w.2.1
    · exact w.2.2.1
    · exact w.2.2.2.1
    · exact w.2.2.2.2
  refine va_newq C.1 C.2.1 C.2.2.2.1 (C.2.2.2.2.1 _ hl) hao C.2.2.2.2.2.2.2.2.1 hP hD hS hA hn hN (by omega) hc hs h1 (fun q cA H1 hK1 hP1 hD1 hS1 => ?_)
  have hcA : cA = G.2.1 cc := by
    rcases hcc with ⟨rfl, rfl⟩ | ⟨rfl, rfl⟩ | ⟨rfl, rfl⟩ | ⟨rfl, rfl⟩
    · exact kd_cO hK1 1 5 rfl rfl
    · exact kd_cO hK1 2 5 rfl rfl
    · exact kd_cO hK1 3 5 rfl rfl
    · exact kd_cO hK1 4 5 rfl rfl
  subst hcA
  have e0 : (fun j => ((List.replicate N (none : Option Nat)).getD j none).map (kv_ad (kd_x G ws.length q))) = fun _ => none := by
    funext j
    have : (List.replicate N (none : Option Nat)).getD j none = none := by
      rw [List.getD_eq_getElem?_getD, List.getElem?_replicate]
      split <;> rfl
    rw [this]; rfl
  have e1 : kd_w (kd_x G ws.length q) (ws ++ [.inr (.inl (cc, List.replicate N none))]) = kd_w G ws ++ [(q, .inl (G.2.1 cc, N, .inr (.inr (.inr (.inr (fun _ => none))))))] := by
    rw [kd_w_push o3]
    show _ ++ [(q, (Sum.inl (G.2.1 cc, (List.replicate N (none : Option Nat)).length, .inr (.inr (.inr (.inr (fun j => ((List.replicate N (none : Option Nat)).getD j none).map (kv_ad (kd_x G ws.length q))))))) : va_E))] = _
    rw [e0, List.length_replicate]
  have q2 := kk p l e s m args below meth c H1 locs la (kd_x G ws.length q) A a0 a9 C (kd_x_0 h0 o4) (kd_x_9 h9 o5) hA (by rw [e1]; exact hP1) (by rw [e1]; exact hD1) hS1 (kd_L_x hL o1)
  have e2 : (Value.ref ws.length :: st).map (kv_v (kd_x G ws.length q)) = .ref q :: st.map (kv_v G) := by
    rw [List.map_cons, kd_st_x o2]
    show Value.ref (kv_ad (kd_x G ws.length q) ws.length) :: _ = _
    rw [kd_x_n]
  rw [e2] at q2
  exact q2
def kd_Fp (fin : Bool) (ty : FieldType) (own : String) (idx ci j : Nat) : Prop := ∃ (C : String) (T : u_T) (N : Nat) (ty0 : Nat → FieldType), kv_cl[ci]? = some (C, T, N) ∧ j < N ∧ (∀ w ∈ u_ws C T N, w ∈ kv_T) ∧ Cond.fieldLink own idx (T j).1 (T j).2.1 (T j).2.2.1 ∈ kv_T ∧ (∀ k, k < N → parseFieldDescriptor (T k).2.2.1 = some (ty0 k)) ∧ (∀ a, a < N → ∀ b, b < N → a ≠ b → (T a).2.1 ≠ (T b).2.1) ∧ (T j).2.2.2 = fin ∧ (T j).1 = own ∧ parseFieldDescriptor (T j).2.2.1 = some ty
theorem kd_put {fin : Bool} {ty : FieldType} {idx ci j k : Nat} {v : Value} {fs : List Value} (hd : kv_d K pc (.putfield idx) 3 pc') (hF : kd_Fp fin ty K.1.cls idx ci j) (hs : ws[k]? = some (.inr (.inr (ci, fs)))) (hj : j < fs.length) (hn : ∀ G, narrow ty (kv_v G v) = kv_v G v) (hfit : ∀ G, fits ty (kv_v G v) = true) (kk : kd_S K pc' ls st (ws.set k (.inr (.inr (ci, fs.set j v)))) cn sn wR mc ms) : kd_S K pc ls (v :: .ref k :: st) ws cn sn wR mc ms := by
  obtain ⟨h1, rfl⟩ := hd
  obtain ⟨Cn, T, N, ty0, f1, f2, f3, f4, f5, f6, f7, f8, f9⟩ := hF
  intro p l e s m args below meth c H locs la G A a0 a9 C h0 h9 hA hP hD hS hL
  have hk : k < ws.length := (List.getElem?_eq_some_iff.mp hs).1
  have fin1 : ∀ (H1 : Heap) (locs1 : List Loc), va_P G.2.2.1 kv_cl ((kd_w G ws).set k (kv_ad G k, .inr (ci, (fs.map (kv_v G)).set j (kv_v G v)))) H1 → va_D A ((kd_w G ws).set k (kv_ad G k, .inr (ci, (fs.map (kv_v G)).set j (kv_v G v)))) → va_S A s.heap H1 locs1 → W p l e (kd_rm K.2.2.2.2 mc ms) s m args below meth c H1 locs1 cn sn (MQ below (kd_Q G a0 a9 wR A) args s mc ms A) (F0 m (pc + 3) la (st.map (kv_v G))) := by
    intro H1 locs1 hP1 hD1 hS1
    have e1 := kd_w_set (G := G) (e := .inr (.inr (ci, fs.set j v))) hk
    have e2 : kd_m G (.inr (.inr (ci, fs.set j v))) = .inr (ci, (fs.map (kv_v G)).set j (kv_v G v)) := by
      show (Sum.inr (ci, (fs.set j v).map (kv_v G)) : va_E) = _
      rw [List.map_set]
    rw [e2] at e1
    rw [e1] at hP1 hD1
    exact kk p l e s m args below meth c H1 locs1 la G A a0 a9 C h0 h9 hA hP1 hD1 hS1 hL
  cases fin with
  | false => exact va_put C.1 C.2.1 C.2.2.2.2.1 f3 ty0 f5 f6 C.2.2.2.1 C.2.2.2.2.2.2.2.2.1 hP hD hS k (kd_w_at hs) f1 j f2 (C.2.2.2.2.1 _ f4) (fun _ q => q) f7 f9 (hn G) (hfit G) (by rw [List.length_map]; exact hj) h1 fin1
  | true => exact va_putF C.1 C.2.1 C.2.2.2.2.1 f3 ty0 f5 f6 C.2.2.2.1 C.2.2.2.2.2.2.2.2.1 hP hD hS k (kd_w_at hs) f1 j f2 (C.2.2.2.2.1 _ f4) (fun _ q => q) f7 C.2.2.2.2.2.2.2.1 f8 f9 (hn G) (hfit G) (by rw [List.length_map]; exact hj) h1 fin1
theorem kd_get {idx ci j k : Nat} {v : Value} {fs : List Value} (hd : kv_d K pc (.getfield idx) 3 pc') (hF : kv_Fl K.1.cls idx ci j) (hs : ws[k]? = some (.inr (.inr (ci, fs)))) (hf : fs[j]? = some v) (kk : kd_S K pc' ls (v :: st) ws cn sn wR mc ms) : kd_S K pc ls (.ref k :: st) ws cn sn wR mc ms := by
  obtain ⟨h1, rfl⟩ := hd
  obtain ⟨Cn, T, N, f1, f2, f3, f4⟩ := hF
  intro p l e s m args below meth c H locs la G A a0 a9 C h0 h9 hA hP hD hS hL
  exact va_get C.1 C.2.1 C.2.2.2.2.1 f3 C.2.2.2.1 C.2.2.2.2.2.2.2.2.1 hP k (kd_w_at hs) f1 j f2 (C.2.2.2.2.1 _ f4) (fun _ q => q) (v := kv_v G v) (by rw [List.getElem?_map, hf]; rfl) h1 (kk p l e s m args below meth c H locs la G A a0 a9 C h0 h9 hA hP hD hS hL)
theorem kd_iastore {k n j : Nat} {x v : Int32} {f : Nat → Int32} (hi : kv_ix x j n) (hd : kv_d K pc .iastore 1 pc') (hs : ws[k]? = some (.inl (n, f))) (kk : kd_S K pc' ls st (ws.set k (.inl (n, upd f j v))) cn sn wR mc ms) : kd_S K pc ls (.int v :: .int x :: .ref k :: st) ws cn sn wR mc ms := by
  obtain ⟨h1, rfl⟩ := hd
  intro p l e s m args below meth c H locs la G A a0 a9 C h0 h9 hA hP hD hS hL
  have hk : k < ws.length := (List.getElem?_eq_some_iff.mp hs).1
  refine va_iast C.1 C.2.1 C.2.2.2.2.2.2.2.2.1 hP hD hS k 0 (kd_w_at hs) rfl (kv_ix_in hi) h1 (fun H1 locs1 hP1 hD1 hS1 => ?_)
  rw [hi.2.1] at hP1 hD1
  have e1 := kd_w_set (G := G) (e := .inl (n, upd f j v)) hk
  rw [show kd_m G (.inl (n, upd f j v)) = .inl (G.1, n, .inl (upd f j v)) from rfl] at e1
  rw [e1] at hP1 hD1
  exact kk p l e s m args below meth c H1 locs1 la G A a0 a9 C h0 h9 hA hP1 hD1 hS1 hL
theorem kd_aastore {k q cc j : Nat} {x : Int32} {L : List (Option Nat)} {fs : List Value} (hi : kv_ix x j L.length) (hcc : cc = 0 ∨ cc = 3 ∨ cc = 4 ∨ cc = 6) (hd : kv_d K pc .aastore 1 pc') (hs : ws[k]? = some (.inr (.inl (cc, L)))) (hq : ws[q]? = some (.inr (.inr (cc, fs)))) (kk : kd_S K pc' ls st (ws.set k (.inr (.inl (cc, L.set j (some q))))) cn sn wR mc ms) : kd_S K pc ls (.ref q :: .int x :: .ref k :: st) ws cn sn wR mc ms := by
  obtain ⟨h1, rfl⟩ := hd
  intro p l e s m args below meth c H locs la G A a0 a9 C h0 h9 hA hP hD hS hL
  have hk : k < ws.length := (List.getElem?_eq_some_iff.mp hs).1
  have e0 : (fun i => ((L.set j (some q)).getD i none).map (kv_ad G)) = va_up (fun i => (L.getD i none).map (kv_ad G)) j (some (kv_ad G q)) := by
    funext i
    unfold va_up
    by_cases e : i = j
    · subst e
      rw [if_pos rfl, List.getD_eq_getElem?_getD, List.getElem?_set_self hi.2.2]
      rfl
    · rw [if_neg e, List.getD_eq_getElem?_getD, List.getElem?_set_ne (fun z => e z.symm), ← List.getD_eq_getElem?_getD]
  have e1 := kd_w_set (G := G) (e := .inr (.inl (cc, L.set j (some q)))) hk
  have e2 : kd_m G (.inr (.inl (cc, L.set j (some q)))) = .inl (G.2.1 cc, L.length, .inr (.inr (.inr (.inr (va_up (fun i => (L.getD i none).map (kv_ad G)) j (some (kv_ad G q))))))) := by
    show (Sum.inl (G.2.1 cc, (L.set j (some q)).length, .inr (.inr (.inr (.inr (fun i => ((L.set j (some q)).getD i none).map (kv_ad G)))))) : va_E) = _
    rw [e0, List.length_set]
  rw [e2] at e1
  have fin1 : ∀ (H1 : Heap) (locs1 : List Loc), va_P G.2.2.1 kv_cl ((kd_w G ws).set k (kv_ad G k, .inl (G.2.1 cc, L.length, .inr (.inr (.inr (.inr (va_up (fun i => (L.getD i none).map (kv_ad G)) x.toNatClampNeg (some (kv_ad G q))))))))) H1 → va_D A ((kd_w G ws).set k (kv_ad G k, .inl (G.2.1 cc, L.length, .inr (.inr (.inr (.inr (va_up (fun i => (L.getD i none).map (kv_ad G)) x.toNatClampNeg (some (kv_ad G q))))))))) → va_S A s.heap H1 locs1 → W p l e (kd_rm K.2.2.2.2 mc ms) s m args below meth c H1 locs1 cn sn (MQ below (kd_Q G a0 a9 wR A) args s mc ms A) (F0 m (pc + 1) la (st.map (kv_v G))) := by
    intro H1 locs1 hP1 hD1 hS1
    rw [hi.2.1, e1] at hP1 hD1
    exact kk p l e s m args below meth c H1 locs1 la G A a0 a9 C h0 h9 hA hP1 hD1 hS1 hL
  rcases hcc with rfl | rfl | rfl | rfl
  · exact va_astq (r := (RX0, TX0, 8)) C.1 C.2.1 C.2.2.2.2.2.2.2.2.1 hP hD hS k 1 q 0 (kd_w_at hs) rfl (kd_w_at hq) rfl (kv_ix_in hi) h1 fin1
  · exact va_astq (r := (RX3, TX3, 3)) C.1 C.2.1 C.2.2.2.2.2.2.2.2.1 hP hD hS k 2 q 3 (kd_w_at hs) rfl (kd_w_at hq) rfl (kv_ix_in hi) h1 fin1
  · exact va_astq (r := (RX4, TX4, 7)) C.1 C.2.1 C.2.2.2.2.2.2.2.2.1 hP hD hS k 3 q 4 (kd_w_at hs) rfl (kd_w_at hq) rfl (kv_ix_in hi) h1 fin1
  · exact va_astq (r := (RX6, TX6, 4)) C.1 C.2.1 C.2.2.2.2.2.2.2.2.1 hP hD hS k 4 q 6 (kd_w_at hs) rfl (kd_w_at hq) rfl (kv_ix_in hi) h1 fin1
end KE

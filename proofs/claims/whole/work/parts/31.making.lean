/-! THE MAKING: a world that grows. A cell's number is its place in ws; kd_w lays it out at the addresses of G. -/
abbrev kd_E : Type := (Nat × (Nat → Int32)) ⊕ (Nat × List (Option Nat)) ⊕ (Nat × List Value)
def kd_m (G : kv_G) (e : kd_E) : va_E := match e with
  | .inl (n, f) => .inl (G.1, n, .inl f)
  | .inr (.inl (c, L)) => .inl (G.2.1 c, L.length, .inr (.inr (.inr (.inr (fun j => (L.getD j none).map (kv_ad G))))))
  | .inr (.inr (ci, fs)) => .inr (ci, fs.map (kv_v G))
def kd_w (G : kv_G) (ws : List kd_E) : va_W := ws.mapIdx (fun k e => (kv_ad G k, kd_m G e))
theorem kd_w_at {G : kv_G} {ws : List kd_E} {k : Nat} {e : kd_E} (hk : ws[k]? = some e) : (kd_w G ws)[k]? = some (kv_ad G k, kd_m G e) := by
  unfold kd_w; rw [List.getElem?_mapIdx, hk]; rfl
theorem kd_w_of {G : kv_G} {ws : List kd_E} {k : Nat} {q : Nat × va_E} (hk : (kd_w G ws)[k]? = some q) : ∃ e, ws[k]? = some e ∧ q = (kv_ad G k, kd_m G e) := by
  unfold kd_w at hk
  rw [List.getElem?_mapIdx] at hk
  cases hs : ws[k]? with
  | none => rw [hs] at hk; cases hk
  | some d => rw [hs] at hk; cases hk; exact ⟨d, rfl, rfl⟩
theorem kd_w_set {G : kv_G} {ws : List kd_E} {k : Nat} {e : kd_E} (hk : k < ws.length) : (kd_w G ws).set k (kv_ad G k, kd_m G e) = kd_w G (ws.set k e) := by
  apply List.ext_getElem?
  intro i
  have hl : k < (kd_w G ws).length := by unfold kd_w; rw [List.length_mapIdx]; exact hk
  by_cases h : i = k
  · subst h
    rw [List.getElem?_set_self hl, kd_w_at (List.getElem?_set_self hk)]
  · rw [List.getElem?_set_ne (fun z => h z.symm)]
    unfold kd_w
    rw [List.getElem?_mapIdx, List.getElem?_mapIdx, List.getElem?_set_ne (fun z => h z.symm)]
/-- one more address -/
def kd_x (G : kv_G) (n q : Nat) : kv_G := (G.1, G.2.1, G.2.2.1, fun k => if k = n then q else kv_ad G k)
/-- no reference to the cell n -/
def kd_fv (n : Nat) (v : Value) : Bool := match v with
  | .ref k => !(k == n)
  | _ => true
def kd_fr (n : Nat) (e : kd_E) : Bool := match e with
  | .inl _ => true
  | .inr (.inl (_, L)) => L.all (fun x => match x with | some k => !(k == n) | none => true)
  | .inr (.inr (_, fs)) => fs.all (kd_fv n)
theorem kd_v_x {G : kv_G} {n q : Nat} {v : Value} (h : kd_fv n v = true) : kv_v (kd_x G n q) v = kv_v G v := by
  cases v <;> first | rfl | skip
  rename_i k
  have : ¬ k = n := by simpa [kd_fv] using h
  show Value.ref (if k = n then q else kv_ad G k) = _
  rw [if_neg this]; rfl
theorem kd_m_x {G : kv_G} {n q : Nat} {e : kd_E} (h : kd_fr n e = true) : kd_m (kd_x G n q) e = kd_m G e := by
  rcases e with ⟨a, f⟩ | ⟨c, L⟩ | ⟨ci, fs⟩
  · rfl
  · show (Sum.inl (G.2.1 c, L.length, _) : va_E) = .inl (G.2.1 c, L.length, _)
    have e1 : (fun j => (L.getD j none).map (kv_ad (kd_x G n q))) = fun j => (L.getD j none).map (kv_ad G) := by
      funext j
      cases hj : L.getD j none with
      | none => rfl
      | some k =>
        have hm : some k ∈ L := by
          rw [List.getD_eq_getElem?_getD] at hj
          cases hl : L[j]? with
          | none => rw [hl] at hj; cases hj
          | some y => rw [hl] at hj; have e0 : y = some k := hj; rw [← e0]; exact List.mem_of_getElem? hl
        have h2 := List.all_eq_true.mp h _ hm
        have : ¬ k = n := by simpa using h2
        show some (if k = n then q else kv_ad G k) = some (kv_ad G k)
        rw [if_neg this]
    rw [e1]
  · show (Sum.inr (ci, fs.map (kv_v (kd_x G n q))) : va_E) = .inr (ci, fs.map (kv_v G))
    rw [List.map_congr_left (fun v hv => kd_v_x (List.all_eq_true.mp h v hv))]
theorem kd_w_push {G : kv_G} {ws : List kd_E} {q : Nat} (h : ws.all (kd_fr ws.length) = true) (e : kd_E) : kd_w (kd_x G ws.length q) (ws ++ [e]) = kd_w G ws ++ [(q, kd_m (kd_x G ws.length q) e)] := by
  apply List.ext_getElem?
  intro i
  have hl : (kd_w G ws).length = ws.length := by unfold kd_w; rw [List.length_mapIdx]
  rcases Nat.lt_trichotomy i ws.length with h1 | h1 | h1
  · rw [List.getElem?_append_left (by omega)]
    unfold kd_w
    rw [List.getElem?_mapIdx, List.getElem?_mapIdx, List.getElem?_append_left h1]
    cases hs : ws[i]? with
    | none => rfl
    | some d =>
      show some (kv_ad (kd_x G ws.length q) i, kd_m (kd_x G ws.length q) d) = some (kv_ad G i, kd_m G d)
      rw [kd_m_x (List.all_eq_true.mp h d (List.mem_of_getElem? hs))]
      show some ((if i = ws.length then q else kv_ad G i), _) = _
      rw [if_neg (by omega)]
  · subst h1
    rw [List.getElem?_append_right (by omega), hl, Nat.sub_self]
    have : (ws ++ [e])[ws.length]? = some e := by rw [List.getElem?_append_right (Nat.le_refl _), Nat.sub_self]; rfl
    rw [kd_w_at this]
    show some ((if ws.length = ws.length then q else _), _) = some (q, _)
    rw [if_pos rfl]
  · rw [List.getElem?_eq_none (by unfold kd_w; simp; omega), List.getElem?_eq_none (by simp [hl]; omega)]
def kd_W (U : State) : Prop := (∀ w ∈ kv_N, va_Nw w U) ∧ va_AO RX0 U ∧ va_AO RX3 U ∧ va_AO RX4 U ∧ va_AO RX6 U
theorem kd_W.warm {s U : State} (hW : s.WarmedH U.vm) (h : kd_W s) : kd_W U := ⟨fun w hw => kv_N_warm hw hW (h.1 w hw), h.2.1.moved hW.alike, h.2.2.1.moved hW.alike, h.2.2.2.1.moved hW.alike, h.2.2.2.2.moved hW.alike⟩
theorem kd_W.same {s U : State} (hv : U.vm = s.vm) (h : kd_W s) : kd_W U := by
  have ha : s.vm.Alike U.vm := by rw [hv]; exact Vm.Alike.refl _
  exact ⟨fun w hw => kv_N_same hw hv (h.1 w hw), h.2.1.moved ha, h.2.2.1.moved ha, h.2.2.2.1.moved ha, h.2.2.2.2.moved ha⟩
def kd_C (K : kv_K) (G : kv_G) (p : Program) (s : State) (m : MethodId) (args : Array Value) (meth : Method) (c : Code) : Prop :=
  p.tables.exec = Jvm.exec ∧ c.code = K.2.1 ∧ c.maxLocals = K.2.2.1 ∧ s.vm.findClass K.1.cls = some m.cls ∧ (∀ w ∈ kv_T, w.before args s = true) ∧ meth.sig.returnType = K.2.2.2.1 ∧ meth.locks = false ∧ meth.name = "<init>" ∧ va_K G.2.2.1 kv_cl (kv_ty G) s ∧ kd_W s
def kd_rm (d mc ms : Nat) : Room := { frames := d, cells := mc, slots := ms, locals := 40 * d }
def kd_Q (G : kv_G) (a0 a9 : Nat) (wR : List kd_E) (A : Nat → Prop) : Array Value → State → Outcome → State → Prop := fun _ st oc t => oc = .returned none ∧ (∃ ad : Nat → Nat, ad 0 = a0 ∧ ad 900 = a9 ∧ va_P G.2.2.1 kv_cl (kd_w (G.1, G.2.1, G.2.2.1, ad) wR) t.heap ∧ va_D A (kd_w (G.1, G.2.1, G.2.2.1, ad) wR)) ∧ va_F A st t
def kd_S (K : kv_K) (pc : Nat) (ls : List (Option Value)) (st : List Value) (ws : List kd_E) (cn sn : Nat) (wR : List kd_E) (mc ms : Nat) : Prop :=
  ∀ (p : Program) (l : Launch) (e : Env) (s : State) (m : MethodId) (args : Array Value) (below : List Frame) (meth : Method) (c : Code) (H : Heap) (locs : List Loc) (la : Array Slot) (G : kv_G) (A : Nat → Prop) (a0 a9 : Nat),
    kd_C K G p s m args meth c → kv_ad G 0 = a0 → kv_ad G 900 = a9 → (∀ q, s.heap.size ≤ q → A q) → va_P G.2.2.1 kv_cl (kd_w G ws) H → va_D A (kd_w G ws) → va_S A s.heap H locs → kv_L G K.2.2.1 ls la →
    W p l e (kd_rm K.2.2.2.2 mc ms) s m args below meth c H locs cn sn (MQ below (kd_Q G a0 a9 wR A) args s mc ms A) (F0 m pc la (st.map (kv_v G)))
def kd_A (a0 sz : Nat) : Nat → Prop := fun q => q = a0 ∨ sz ≤ q
def kd_Pc (G : kv_G) (As : List Value) (w0 : List kd_E) (sz : Nat) : Array Value → State → Prop := va_Pc (As.map (kv_v G)) (fun U => U.heap.size = sz ∧ va_K G.2.2.1 kv_cl (kv_ty G) U ∧ kd_W U ∧ va_P G.2.2.1 kv_cl (kd_w G w0) U.heap ∧ va_D (fun _ => True) (kd_w G w0))
def kd_M (K : kv_K) (As : List Value) (w0 wR : List kd_E) (mc ms : Nat) : Prop :=
  ∀ (l : Launch) (G : kv_G) (sz : Nat), Met l K.1 (Cond.code K.1 K.2.1 K.2.2.1 K.2.2.2.1 :: kv_T) (kd_rm K.2.2.2.2 mc ms) (kd_Pc G As w0 sz) (kd_Q G (kv_ad G 0) (kv_ad G 900) wR (kd_A (kv_ad G 0) sz)) mc ms (kd_A (kv_ad G 0) sz)
theorem kd_met {K : kv_K} {As : List Value} {e0 : kd_E} {wR : List kd_E} {mc ms : Nat} {ls : List (Option Value)} (hy : plainName K.1.cls = true) (hi : K.1.name = "<init>") (hl : ∀ G, kv_prs G 0 ls = lv_args 0 (As.map (kv_v G))) (hn : ∀ G, (lg_sl (As.map (kv_v G))).length ≤ K.2.2.1) (hS : kd_S K 0 ls [] [e0] 0 0 wR mc ms) : kd_M K As [e0] wR mc ms := by
  intro l G sz
  refine Met.ofW (cc := K.2.1) (maxL := K.2.2.1) (ret := K.2.2.2.1) hy rfl ?_
  intro p e s m args below meth c s₁ B hml hv
  obtain ⟨rfl, hsz, hK, hW, hP, hD⟩ := hv
  subst hsz
  have hts := atoms_spec (ws := Cond.code K.1 K.2.1 K.2.2.1 K.2.2.2.1 :: kv_T) B.pre
  have hnm : meth.name = "<init>" := (name_of_methodNamed B.named B.method).1.trans hi
  rw [lg_entry_eq]
  refine hS p l e s m _ below meth c s.heap [] _ G (kd_A (kv_ad G 0) s.heap.size) (kv_ad G 0) (kv_ad G 900) ⟨B.exec, B.bytes, hml, findClass_of_methodNamed B.named, fun w hw => hts w (List.mem_cons_of_mem _ hw), B.returns, B.notSynchronized, hnm, hK, hW⟩ rfl rfl (fun q h => Or.inr h) hP ⟨hD.1, fun k q hk => ?_⟩ va_S.rf ?_
  · obtain ⟨x, h1, h2⟩ := kd_w_of hk
    have hz : k < 1 := (List.getElem?_eq_some_iff.mp h1).1
    have : k = 0 := by omega
    subst this
    rw [h2]
    exact Or.inl rfl
  · show lv_has _ _ _
    rw [hl G]
    exact lv_entry _ (hn G)
section KD
variable {K : kv_K} {pc pc' tgt : Nat} {ls : List (Option Value)} {st : List Value} {ws wR : List kd_E} {cn sn mc ms : Nat}
theorem kd_const {v : Int32} (hd : kv_c K pc v pc') (k : kd_S K pc' ls (.int v :: st) ws cn sn wR mc ms) : kd_S K pc ls st ws cn sn wR mc ms := by
  intro p l e s m args below meth c H locs la G A a0 a9 C h0 h9 hA hP hD hS hL
  have kk := k p l e s m args below meth c H locs la G A a0 a9 C h0 h9 hA hP hD hS hL
  rcases hd with ⟨n, ⟨h1, h2, rfl⟩ | ⟨h1, h2, rfl⟩ | ⟨h1, h2, rfl⟩⟩ | ⟨x, ⟨h1, h2, rfl⟩ | ⟨h1, h2, rfl⟩⟩
  · exact lv_iconst C.1 C.2.1 h1 h2 kk
  · exact lv_bipush C.1 C.2.1 h1 h2 kk
  · exact lv_sipush C.1 C.2.1 h1 h2 kk
  · exact lv_ldc C.1 C.2.1 C.2.2.2.1 (C.2.2.2.2.1 _ h2) h1 kk
  · exact lv_ldcw C.1 C.2.1 C.2.2.2.1 (C.2.2.2.2.1 _ h2) h1 kk
theorem kd_goto (hd : kv_go K pc tgt) (k : kd_S K tgt ls st ws cn sn wR mc ms) : kd_S K pc ls st ws cn sn wR mc ms := by
  obtain ⟨off, h1, h2⟩ := hd
  intro p l e s m args below meth c H locs la G A a0 a9 C h0 h9 hA hP hD hS hL
  exact lv_goto C.1 C.2.1 h1 h2 (k p l e s m args below meth c H locs la G A a0 a9 C h0 h9 hA hP hD hS hL)
theorem kd_geT {x y : Int32} (q : y ≤ x) (hd : kv_ic K pc .ge tgt pc') (k : kd_S K tgt ls st ws cn sn wR mc ms) : kd_S K pc ls (.int y :: .int x :: st) ws cn sn wR mc ms := by
  obtain ⟨off, h1, h2, rfl⟩ := hd
  intro p l e s m args below meth c H locs la G A a0 a9 C h0 h9 hA hP hD hS hL
  exact lv_icmp_ge C.1 C.2.1 h1 h2 (fun _ => k p l e s m args below meth c H locs la G A a0 a9 C h0 h9 hA hP hD hS hL) (fun z => absurd q z)
theorem kd_geF {x y : Int32} (q : ¬ y ≤ x) (hd : kv_ic K pc .ge tgt pc') (k : kd_S K pc' ls st ws cn sn wR mc ms) : kd_S K pc ls (.int y :: .int x :: st) ws cn sn wR mc ms := by
  obtain ⟨off, h1, h2, rfl⟩ := hd
  intro p l e s m args below meth c H locs la G A a0 a9 C h0 h9 hA hP hD hS hL
  exact lv_icmp_ge C.1 C.2.1 h1 h2 (fun z => absurd z q) (fun _ => k p l e s m args below meth c H locs la G A a0 a9 C h0 h9 hA hP hD hS hL)
theorem kd_dup {v : Value} (hd : kv_d K pc .dup 1 pc') (hv : v.category = 1) (k : kd_S K pc' ls (v :: v :: st) ws cn sn wR mc ms) : kd_S K pc ls (v :: st) ws cn sn wR mc ms := by
  obtain ⟨h1, rfl⟩ := hd
  intro p l e s m args below meth c H locs la G A a0 a9 C h0 h9 hA hP hD hS hL
  exact lv_dup C.1 C.2.1 h1 (by rw [kv_v_cat]; exact hv) (k p l e s m args below meth c H locs la G A a0 a9 C h0 h9 hA hP hD hS hL)
theorem kd_iload {i : Nat} {x : Int32} (hd : kv_ild K pc i pc') (hl : ls[i]? = some (some (.int x))) (k : kd_S K pc' ls (.int x :: st) ws cn sn wR mc ms) : kd_S K pc ls st ws cn sn wR mc ms := by
  intro p l e s m args below meth c H locs la G A a0 a9 C h0 h9 hA hP hD hS hL
  have kk := k p l e s m args below meth c H locs la G A a0 a9 C h0 h9 hA hP hD hS hL
  rcases hd with ⟨n, h1, h2, rfl⟩ | ⟨h1, rfl⟩
  · exact lv_iload_n C.1 C.2.1 h1 h2 (kv_L_at hL hl) kk
  · exact lv_iload C.1 C.2.1 h1 (kv_L_at hL hl) kk
theorem kd_aload {i : Nat} {x : Nat} (hd : kv_ald K pc i pc') (hl : ls[i]? = some (some (.ref x))) (k : kd_S K pc' ls (.ref x :: st) ws cn sn wR mc ms) : kd_S K pc ls st ws cn sn wR mc ms := by
  intro p l e s m args below meth c H locs la G A a0 a9 C h0 h9 hA hP hD hS hL
  have kk := k p l e s m args below meth c H locs la G A a0 a9 C h0 h9 hA hP hD hS hL
  rcases hd with ⟨n, h1, h2, rfl⟩ | ⟨h1, rfl⟩
  · exact lv_aload_n C.1 C.2.1 h1 h2 (kv_L_at hL hl) kk
  · exact lv_aload C.1 C.2.1 h1 (kv_L_at hL hl) kk
theorem kd_istore1 {a0 a1 : Option Value} {t : List (Option Value)} {x : Int32} (hd : kv_ist K pc 1 pc') (hn : 1 < K.2.2.1) (hp : kv_c1 a0) (k : kd_S K pc' (a0 :: some (.int x) :: t) st ws cn sn wR mc ms) : kd_S K pc (a0 :: a1 :: t) (.int x :: st) ws cn sn wR mc ms := by
  intro p l e s m args below meth c H locs la G A b0 b9 C h0 h9 hA hP hD hS hL
  have hp2 : ∀ w : Value, 0 < 1 → (a0 :: a1 :: t)[1 - 1]? = some (some w) → w.category = 1 := fun w _ q => hp w (Option.some.inj q)
  rcases hd with ⟨n, h1, h2, rfl⟩ | ⟨h1, rfl⟩
  · exact lv_istore_n C.1 C.2.1 h1 h2 hL hn rfl (fun la2 hl2 => k p l e s m args below meth c H locs la2 G A b0 b9 C h0 h9 hA hP hD hS (kv_L_set1 (ls := a0 :: a1 :: t) (x := .int x) hl2 hp2))
  · exact lv_istore C.1 C.2.1 h1 hL hn rfl (fun la2 hl2 => k p l e s m args below meth c H locs la2 G A b0 b9 C h0 h9 hA hP hD hS (kv_L_set1 (ls := a0 :: a1 :: t) (x := .int x) hl2 hp2))
theorem kd_iinc1 {a0 : Option Value} {t : List (Option Value)} {x v w : Int32} (hd : kv_inc K pc 1 v pc') (hw : x + v = w) (hn : 1 < K.2.2.1) (hp : kv_c1 a0) (k : kd_S K pc' (a0 :: some (.int w) :: t) st ws cn sn wR mc ms) : kd_S K pc (a0 :: some (.int x) :: t) st ws cn sn wR mc ms := by
  obtain ⟨n, h1, h2, rfl⟩ := hd
  subst h2
  subst hw
  intro p l e s m args below meth c H locs la G A b0 b9 C h0 h9 hA hP hD hS hL
  have hp2 : ∀ w : Value, 0 < 1 → (a0 :: some (Value.int x) :: t)[1 - 1]? = some (some w) → w.category = 1 := fun w _ q => hp w (Option.some.inj q)
  have hm : (1, kv_v G (.int x)) ∈ kv_prs G 0 (a0 :: some (.int x) :: t) := kv_prs_mem.mpr ⟨1, _, rfl, rfl⟩
  obtain ⟨q, hq⟩ := List.getElem?_of_mem hm
  exact lv_iinc C.1 C.2.1 h1 hL hq rfl hn rfl (fun la2 hl2 => k p l e s m args below meth c H locs la2 G A b0 b9 C h0 h9 hA hP hD hS (kv_L_set1 (ls := a0 :: some (.int x) :: t) (x := .int (x + Int32.ofInt n)) hl2 hp2))
theorem kd_kill1 {a0 a1 : Option Value} {t : List (Option Value)} (k : kd_S K pc (a0 :: none :: t) st ws cn sn wR mc ms) : kd_S K pc (a0 :: a1 :: t) st ws cn sn wR mc ms := by
  intro p l e s m args below meth c H locs la G A b0 b9 C h0 h9 hA hP hD hS hL
  exact k p l e s m args below meth c H locs la G A b0 b9 C h0 h9 hA hP hD hS (kv_L_mono hL (kv_kill1 1 (l := a0 :: a1 :: t)))
def kd_Ob (own : String) (idx : Nat) : Prop := Cond.methodLink own idx objectInit ∈ kv_T ∧ Cond.instanceMethod objectInit ∈ kv_T ∧ Cond.code objectInit ⟨#[0xb1]⟩ 1 none ∈ kv_T
theorem kd_objInit {idx k : Nat} (hd : kv_d K pc (.invokespecial idx) 3 pc') (hc : kd_Ob K.1.cls idx) (hdep : 1 ≤ K.2.2.2.2) (hw : (st.map fun v => v.category).sum ≤ 8) (kk : kd_S K pc' ls st ws cn sn wR mc ms) : kd_S K pc ls (.ref k :: st) ws cn sn wR mc ms := by
  obtain ⟨h1, rfl⟩ := hd
  obtain ⟨c1, c2, c3⟩ := hc
  intro p l e s m args below meth c H locs la G A a0 a9 C h0 h9 hA hP hD hS hL
  have hcat := kv_wcat G st
  exact W.objInit C.1 C.2.1 C.2.2.2.1 (C.2.2.2.2.1 _ c1) (C.2.2.2.2.1 _ c2) (C.2.2.2.2.1 _ c3) rfl (hL.1.trans C.2.2.1.symm) rfl h1 (show 1 ≤ (kd_rm _ _ _).frames from hdep) (by show 2 * 0 + _ + 12 ≤ 40 * K.2.2.2.2; rw [hcat]; omega) (kk p l e s m args below meth c H locs la G A a0 a9 C h0 h9 hA hP hD hS hL)
theorem kd_return (hd : kv_d K pc .return_ 1 pc') (hr : K.2.2.2.1 = none) (hc : cn ≤ mc) (hs : sn ≤ ms) : kd_S K pc ls [] ws cn sn ws mc ms := by
  obtain ⟨h1, rfl⟩ := hd
  intro p l e s m args below meth c H locs la G A a0 a9 C h0 h9 hA hP hD hS hL
  refine W.widen hc hs ?_
  exact W.vret C.1 C.2.1 (C.2.2.2.2.2.1.trans hr) (fun t ht _ => ⟨rfl, ⟨kv_ad G, h0, h9, by rw [ht]; exact hP, hD⟩, hS.F ht⟩) hS.2.2 h1 C.2.2.2.2.2.2.1
end KD

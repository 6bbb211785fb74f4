/-! the law makes its two objects -/
def kn_C (G : kv_G) (p : Program) (s : State) (m : MethodId) (c : Code) (b : Nat) : Prop :=
  p.tables.exec = Jvm.exec ∧ c.code = code ∧ c.maxLocals = 4 ∧ s.vm.findClass R_law = some m.cls ∧ (∀ w ∈ kv_T, w.before #[Value.ref b] s = true) ∧ va_K G.2.2.1 kv_cl (kv_ty G) s ∧ kd_W s
def kn_S (p : Program) (l : Launch) (e : Env) (s : State) (m : MethodId) (below : List Frame) (meth : Method) (c : Code) (b : Nat) (Q : State → Prop) (B : kv_G) (pc : Nat) (ls : List (Option Value)) (st : List Value) (ws : List kd_E) (cn sn : Nat) : Prop :=
  ∀ (H : Heap) (locs : List Loc) (la : Array Slot) (ad : Nat → Nat), ad 900 = b → va_P B.2.2.1 kv_cl (kd_w (B.1, B.2.1, B.2.2.1, ad) ws) H → va_D (kl_A s) (kd_w (B.1, B.2.1, B.2.2.1, ad) ws) → va_S (kl_A s) s.heap H locs → kv_L (B.1, B.2.1, B.2.2.1, ad) 4 ls la → W p l e room_1 s m #[Value.ref b] below meth c H locs cn sn Q (F0 m pc la (st.map (kv_v (B.1, B.2.1, B.2.2.1, ad))))
section KN
variable {p : Program} {l : Launch} {e : Env} {s : State} {m : MethodId} {below : List Frame} {meth : Method} {c : Code} {b : Nat} {Q : State → Prop} {B : kv_G} {pc pc' : Nat} {ls : List (Option Value)} {st : List Value} {ws : List kd_E} {cn sn : Nat}
def kn_ok (ls : List (Option Value)) (st : List Value) (ws : List kd_E) : Bool := ls.all (fun v => match v with | some v => kd_fv ws.length v | none => true) && (st.all (kd_fv ws.length) && (ws.all (kd_fr ws.length) && decide (ws.length < 900)))
theorem kn_new {idx ci : Nat} {fs : List Value} (C : kn_C B p s m c b) (hd : kv_d kK_L_law pc (.new idx) 3 pc') (hN : kd_Nw R_law idx ci fs) (hok : kn_ok ls st ws = true) (hc : cn + 1 ≤ room_1.cells) (hs : sn + fs.length ≤ room_1.slots) (kk : kn_S p l e s m below meth c b Q B pc' ls (.ref ws.length :: st) (ws ++ [.inr (.inr (ci, fs))]) (cn + 1) (sn + fs.length)) : kn_S p l e s m below meth c b Q B pc ls st ws cn sn := by
  obtain ⟨h1, rfl⟩ := hd
  obtain ⟨Cn, T, N, ty, f1, f2, f3, f4, f5, f6, f7, f8, f9⟩ := hN
  simp only [kn_ok, Bool.and_eq_true, decide_eq_true_eq] at hok
  obtain ⟨o1, o2, o3, o5⟩ := hok
  subst f8
  intro H locs la ad h9 hP hD hS hL
  refine va_new C.1 C.2.1 C.2.2.2.2.1 f2 ty f3 C.2.2.2.1 (C.2.2.2.2.1 _ f4) (C.2.2.2.2.1 _ f5) (C.2.2.2.2.1 _ f6) C.2.2.2.2.2.1 hP hD hS (fun _ q => q) f1 f7 hc hs h1 (fun q H1 hP1 hD1 hS1 => ?_)
  have e1 : kd_w (kd_x (B.1, B.2.1, B.2.2.1, ad) ws.length q) (ws ++ [.inr (.inr (ci, fs))]) = kd_w (B.1, B.2.1, B.2.2.1, ad) ws ++ [(q, .inr (ci, fs))] := by
    rw [kd_w_push o3]
    show _ ++ [(q, (Sum.inr (ci, fs.map (kv_v (kd_x (B.1, B.2.1, B.2.2.1, ad) ws.length q))) : va_E))] = _
    rw [f9]
  have q2 := kk H1 locs la (fun k => if k = ws.length then q else ad k) (by rw [if_neg (by omega)]; exact h9) (by rw [← e1] at hP1; exact hP1) (by rw [← e1] at hD1; exact hD1) hS1 (kd_L_x (n := ws.length) (q := q) hL o1)
  have e2 : (Value.ref ws.length :: st).map (kv_v (kd_x (B.1, B.2.1, B.2.2.1, ad) ws.length q)) = .ref q :: st.map (kv_v (B.1, B.2.1, B.2.2.1, ad)) := by
    rw [List.map_cons, kd_st_x o2]
    show Value.ref (kv_ad (kd_x (B.1, B.2.1, B.2.2.1, ad) ws.length q) ws.length) :: _ = _
    rw [kd_x_n]
  have e3 : (Value.ref ws.length :: st).map (kv_v (B.1, B.2.1, B.2.2.1, fun k => if k = ws.length then q else ad k)) = .ref q :: st.map (kv_v (B.1, B.2.1, B.2.2.1, ad)) := e2
  rw [e3] at q2
  exact q2
theorem kn_dup {v : Value} (C : kn_C B p s m c b) (hd : kv_d kK_L_law pc .dup 1 pc') (hv : v.category = 1) (k : kn_S p l e s m below meth c b Q B pc' ls (v :: v :: st) ws cn sn) : kn_S p l e s m below meth c b Q B pc ls (v :: st) ws cn sn := by
  obtain ⟨h1, rfl⟩ := hd
  intro H locs la ad h9 hP hD hS hL
  exact lv_dup C.1 C.2.1 h1 (by rw [kv_v_cat]; exact hv) (k H locs la ad h9 hP hD hS hL)
theorem kn_const {v : Int32} (C : kn_C B p s m c b) (hd : kv_c kK_L_law pc v pc') (k : kn_S p l e s m below meth c b Q B pc' ls (.int v :: st) ws cn sn) : kn_S p l e s m below meth c b Q B pc ls st ws cn sn := by
  intro H locs la ad h9 hP hD hS hL
  have kk := k H locs la ad h9 hP hD hS hL
  rcases hd with ⟨n, ⟨h1, h2, rfl⟩ | ⟨h1, h2, rfl⟩ | ⟨h1, h2, rfl⟩⟩ | ⟨x, ⟨h1, h2, rfl⟩ | ⟨h1, h2, rfl⟩⟩
  · exact lv_iconst C.1 C.2.1 h1 h2 kk
  · exact lv_bipush C.1 C.2.1 h1 h2 kk
  · exact lv_sipush C.1 C.2.1 h1 h2 kk
  · exact lv_ldc C.1 C.2.1 C.2.2.2.1 (C.2.2.2.2.1 _ h2) h1 kk
  · exact lv_ldcw C.1 C.2.1 C.2.2.2.1 (C.2.2.2.2.1 _ h2) h1 kk
theorem kn_astore {i x : Nat} (C : kn_C B p s m c b) (hd : kv_ast kK_L_law pc i pc') (hn : i < 4) (hp : ∀ w : Value, 0 < i → ls[i - 1]? = some (some w) → w.category = 1) (k : kn_S p l e s m below meth c b Q B pc' (ls.set i (some (.ref x))) st ws cn sn) : kn_S p l e s m below meth c b Q B pc ls (.ref x :: st) ws cn sn := by
  intro H locs la ad h9 hP hD hS hL
  rcases hd with ⟨n, h1, h2, rfl⟩ | ⟨h1, rfl⟩
  · exact lv_astore_n C.1 C.2.1 h1 h2 hL hn rfl (fun la2 hl2 => k H locs la2 ad h9 hP hD hS (kv_L_set1 (x := .ref x) hl2 hp))
  · exact lv_astore C.1 C.2.1 h1 hL hn rfl (fun la2 hl2 => k H locs la2 ad h9 hP hD hS (kv_L_set1 (x := .ref x) hl2 hp))
theorem kn_istore {i : Nat} {x : Int32} (C : kn_C B p s m c b) (hd : kv_ist kK_L_law pc i pc') (hn : i < 4) (hp : ∀ w : Value, 0 < i → ls[i - 1]? = some (some w) → w.category = 1) (k : kn_S p l e s m below meth c b Q B pc' (ls.set i (some (.int x))) st ws cn sn) : kn_S p l e s m below meth c b Q B pc ls (.int x :: st) ws cn sn := by
  intro H locs la ad h9 hP hD hS hL
  rcases hd with ⟨n, h1, h2, rfl⟩ | ⟨h1, rfl⟩
  · exact lv_istore_n C.1 C.2.1 h1 h2 hL hn rfl (fun la2 hl2 => k H locs la2 ad h9 hP hD hS (kv_L_set1 (x := .int x) hl2 hp))
  · exact lv_istore C.1 C.2.1 h1 hL hn rfl (fun la2 hl2 => k H locs la2 ad h9 hP hD hS (kv_L_set1 (x := .int x) hl2 hp))
theorem kn_call {K2 : kv_K} {idx k : Nat} {e0 e2 : kd_E} {w2 : List kd_E} {m1 s1 : Nat} {ws' : List kd_E} (C : kn_C B p s m c b) (hd : kv_d kK_L_law pc (.invokespecial idx) 3 pc') (hc : kd_CI R_law idx K2 0) (hm : kd_M K2 [.ref 0] [e0] (e2 :: w2) m1 s1)
    (hs : ws[k]? = some e0) (he0 : kd_fr 0 e0 = true ∧ kd_bd 0 e0 = true ∧ kd_fr 900 e0 = true) (hn : ws.length + (w2.length + 1) ≤ 900) (h0n : 0 < ws.length) (hws : ws.all (kd_bd ws.length) = true) (hw2 : (e2 :: w2).all (kd_bd (w2.length + 1)) = true) (hls : ls.all (fun v => match v with | some v => kd_bv ws.length v | none => true) = true) (hst : st.all (kd_bv ws.length) = true)
    (hdep : K2.2.2.2.2 ≤ 1000) (hw : (st.map fun v => v.category).sum ≤ 8) (hcn : cn + m1 ≤ room_1.cells) (hsn : sn + s1 ≤ room_1.slots) (hem : kd_em ws (e2 :: w2) k 900 = ws') (kk : kn_S p l e s m below meth c b Q B pc' ls st ws' (cn + m1) (sn + s1)) : kn_S p l e s m below meth c b Q B pc ls (.ref k :: st) ws cn sn := by
  subst hem
  obtain ⟨h1, rfl⟩ := hd
  obtain ⟨c1, c1b, c2, ⟨c3, c4, c5, c6⟩, c7⟩ := hc
  have hk : k < ws.length := (List.getElem?_eq_some_iff.mp hs).1
  intro H locs la ad h9 hP hD hS hL
  obtain ⟨G, hG⟩ : ∃ G : kv_G, G = (B.1, B.2.1, B.2.2.1, ad) := ⟨_, rfl⟩
  have hG3 : G.2.2.1 = B.2.2.1 := by rw [hG]
  have hgb : B.2.2.1 = G.2.2.1 := hG3.symm
  have had : kv_ad G = ad := by rw [hG]; rfl
  rw [← hG] at hP hD hL ⊢
  rw [hgb] at hP
  obtain ⟨G2, hG2⟩ : ∃ G2 : kv_G, G2 = (G.1, G.2.1, G.2.2.1, fun i => if i = 0 then kv_ad G k else kv_ad G 900) := ⟨_, rfl⟩
  have g0 : kv_ad G2 0 = kv_ad G k := by rw [hG2]; rfl
  have g9 : kv_ad G2 900 = kv_ad G 900 := by rw [hG2]; rfl
  have em : kd_m G2 e0 = kd_m G e0 := by
    have h2 := kd_m_rn (G := G) (G2 := G2) (by rw [hG2]; exact ⟨rfl, rfl⟩) (r := fun _ => 900) (m2 := 0) (fun i hi => by
      have : i = 900 := by omega
      subst this
      exact g9.symm) he0.2.1
    have h3 : kd_rn (fun _ => 900) e0 = e0 := by
      rcases e0 with ⟨a, f⟩ | ⟨c, L⟩ | ⟨ci, fs⟩
      · rfl
      · show (.inr (.inl (c, L.map (Option.map _))) : kd_E) = _
        have : L.map (Option.map fun _ => 900) = L := by
          conv => rhs; rw [← List.map_id L]
          refine List.map_congr_left (fun x hx => ?_)
          have q1 := List.all_eq_true.mp he0.2.1 x hx
          have q2 := List.all_eq_true.mp he0.2.2 x hx
          cases x with
          | none => rfl
          | some y => simp at q1 q2; omega
        rw [this]
      · show (.inr (.inr (ci, fs.map (kd_rv _))) : kd_E) = _
        have : fs.map (kd_rv fun _ => 900) = fs := by
          conv => rhs; rw [← List.map_id fs]
          refine List.map_congr_left (fun x hx => ?_)
          have q1 := List.all_eq_true.mp he0.2.1 x hx
          have q2 := List.all_eq_true.mp he0.2.2 x hx
          cases x <;> first | rfl | skip
          rename_i y
          have z1 : y = 900 := by simpa [kd_bv] using q1
          have z2 : ¬ y = 900 := by simpa [kd_fv] using q2
          exact absurd z1 z2
        rw [this]
    rw [h3] at h2
    exact h2.symm
  have ew : kd_w G2 [e0] = [(kv_ad G k, kd_m G e0)] := by
    show [(kv_ad G2 0, kd_m G2 e0)] = _
    rw [g0, em]
  have hD2e : G2.2.2.1 = G.2.2.1 := by rw [hG2]
  have hty : kv_ty G2 = kv_ty B := by rw [hG2, hG]; rfl
  have eAs : ([Value.ref 0] : List Value).map (kv_v G2) = [.ref (kv_ad G k)] := by
    show [Value.ref (kv_ad G2 0)] = _
    rw [g0]
  have hpre : ∀ U : State, U.heap = H → s.WarmedH U.vm → kd_Pc G2 [.ref 0] [e0] H.size ([Value.ref (kv_ad G k)] : List Value).toArray U := by
    intro U hU hW
    refine ⟨by rw [eAs], by rw [hU], ?_, C.2.2.2.2.2.2.warm hW, ?_, ?_⟩
    · rw [hD2e, hty, hG3]; exact va_K.moved hW.alike C.2.2.2.2.2.1
    · rw [ew, hU, hD2e]
      intro i q hi
      have hz : i < 1 := (List.getElem?_eq_some_iff.mp hi).1
      rw [show i = 0 by omega] at hi
      cases hi
      exact hP k _ (kd_w_at hs)
    · rw [ew]
      refine ⟨fun i j x y hi hj _ => ?_, fun _ _ _ => trivial⟩
      have hz : i < 1 := (List.getElem?_eq_some_iff.mp hi).1
      have hz2 : j < 1 := (List.getElem?_eq_some_iff.mp hj).1
      omega
  have hMet := hm l G2 H.size
  rw [g0, g9] at hMet
  have hroom : (kd_rm K2.2.2.2.2 m1 s1).frames + 1 ≤ room_1.frames ∧ 8 + (K2.2.2.1 + 11) + (kd_rm K2.2.2.2.2 m1 s1).locals ≤ room_1.locals := by
    unfold kd_rm room_1
    dsimp only
    omega
  have hrun : va_Run p l e room_1 s m #[Value.ref b] below meth c H locs cn sn m1 s1 (F0 m pc la (([] : List Value).reverse ++ .ref (kv_ad G k) :: st.map (kv_v G))) (st.map (kv_v G)) (kd_Q G2 (kv_ad G k) (kv_ad G 900) (e2 :: w2) (kd_A (kv_ad G k) H.size) ([Value.ref (kv_ad G k)] : List Value).toArray) (kd_A (kv_ad G k) H.size) := by
    have hgood : GoodIn kv_T (Cond.code K2.1 K2.2.1 K2.2.2.1 none :: kv_T) := kv_goodIn (fun w hw => by
      rcases List.mem_cons.mp hw with rfl | q
      · rw [← c1b]; exact c4
      · exact q)
    rw [c1b] at hMet
    rcases c7 with ⟨host, c7⟩ | c7
    · have hcw := va_cnB (R := room_1) (s := s) (args := #[Value.ref b]) (own := R_law) (index := idx) (host := host) (y := K2.1) (bytes := K2.2.1) (maxL := K2.2.2.1) (ret := none) (ws := Cond.code K2.1 K2.2.1 K2.2.2.1 none :: kv_T) (rm := kd_rm K2.2.2.2.2 m1 s1) (mc := m1) (ms := s1) 0 C.2.2.2.2.1 hgood rfl rfl rfl (C.2.2.2.2.2.2.1 _ c7) (C.2.2.2.2.1 _ c3) c5 hroom
      exact va_runIN (As := []) (rest := st.map (kv_v G)) (b := kv_ad G k) ⟨C.1, C.2.1, C.2.2.1, C.2.2.2.1, C.2.2.2.2.1⟩ hMet ⟨hcw, c1, C.2.2.2.2.1 _ c2⟩ ⟨kd_blind, hpre⟩ rfl rfl hL.1 rfl (lv_room (by rw [kv_wcat]; exact hw)) h1 ⟨hcn, hsn⟩
    · have hcw := cwI (R := room_1) (s := s) (args := #[Value.ref b]) (own := R_law) (index := idx) (y := K2.1) (bytes := K2.2.1) (maxL := K2.2.2.1) (ws := Cond.code K2.1 K2.2.1 K2.2.2.1 none :: kv_T) (rm := kd_rm K2.2.2.2.2 m1 s1) (mc := m1) (ms := s1) 0 C.2.2.2.2.1 hgood rfl rfl rfl (C.2.2.2.2.1 _ c3) (C.2.2.2.2.1 _ c7) (C.2.2.2.2.1 _ c2) c1 c5 hroom
      exact va_runI (As := []) (rest := st.map (kv_v G)) (b := kv_ad G k) ⟨C.1, C.2.1, C.2.2.1, C.2.2.2.1, C.2.2.2.2.1⟩ hMet hcw ⟨kd_blind, hpre⟩ rfl rfl hL.1 rfl (lv_room (by rw [kv_wcat]; exact hw)) h1 ⟨hcn, hsn⟩
  intro T hT X
  obtain ⟨v, st₀, t2, T', L, hh0, X', hLL, e1, e2', ⟨hv, ⟨ad2, b0, b9, hP2, hD2⟩, hz, hkk⟩, sts⟩ := hrun T hT X
  cases hv
  rw [hh0] at hz hkk
  have hAA : ∀ q, H.size ≤ q → kl_A s q := fun q hq => Nat.le_trans hS.1 hq
  have hPP2 : va_P G.2.2.1 kv_cl (kd_w (G.1, G.2.1, G.2.2.1, ad2) (e2 :: w2)) T'.heap := by
    rw [e1]
    rw [hG2] at hP2
    exact hP2
  have hDD2 : va_D (kd_A (kv_ad G k) H.size) (kd_w (G.1, G.2.1, G.2.2.1, ad2) (e2 :: w2)) := by
    rw [hG2] at hD2
    exact hD2
  obtain ⟨hPn, hDn⟩ := kd_join hk (Or.inr rfl) hn hws hw2 b0 b9 hP hD hAA (fun q q1 q2 => by rw [e1]; exact hkk q q1 q2) hPP2 hDD2
  have hAk : kl_A s (kv_ad G k) := hD.2 k _ (kd_w_at hs)
  have hAsub : ∀ q, kd_A (kv_ad G k) H.size q → kl_A s q := fun q z => by
    rcases z with z | z
    · rw [z]; exact hAk
    · exact hAA q z
  have hLn : kv_L (kd_y G ws.length (w2.length + 1) ad2) 4 ls la := by
    refine ⟨hL.1, hL.2.1, fun x hx => ?_⟩
    obtain ⟨j, v, q1, q2⟩ := kv_prs_mem.mp hx
    have h3 := List.all_eq_true.mp hls _ (List.mem_of_getElem? q1)
    rw [q2]
    show la[0 + j]? = some (.val (kv_v (kd_y G ws.length (w2.length + 1) ad2) v))
    rw [kd_v_y (by omega) h3, Nat.zero_add]
    exact kv_L_at hL q1
  have hstn : st.map (kv_v (kd_y G ws.length (w2.length + 1) ad2)) = st.map (kv_v G) := List.map_congr_left (fun v hv => kd_v_y (by omega) (List.all_eq_true.mp hst v hv))
  have eY : kd_y G ws.length (w2.length + 1) ad2 = (B.1, B.2.1, B.2.2.1, kv_ad (kd_y G ws.length (w2.length + 1) ad2)) := by rw [hG]; rfl
  have q5 := kk T'.heap (locs ++ L) la (kv_ad (kd_y G ws.length (w2.length + 1) ad2)) (by rw [kd_y_ge (by omega) (by omega), had]; exact h9) (by rw [← eY, ← hG3]; exact hPn) (by rw [← eY]; exact hDn)
    ⟨Nat.le_trans hS.1 (by rw [e1]; exact hz), fun q q1 q2 => by rw [e1, hkk q (Nat.lt_of_lt_of_le q1 hS.1) (fun z => q2 (hAsub q z))]; exact hS.2.1 q q1 q2, fun q hq => by
      rcases List.mem_append.mp hq with h | h
      · exact hS.2.2 q h
      · exact hAsub _ (hLL q h)⟩ (by rw [← eY]; exact hLn)
  rw [← eY, hstn] at q5
  obtain ⟨t3, a1, b1⟩ := q5 T' rfl X'
  exact ⟨t3, sts t3 a1, b1⟩
end KN

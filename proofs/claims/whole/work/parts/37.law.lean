/-! THE LAW'S WALK: rows over the static world, in the law's own frame -/
def R_law : String := "KeptLeavesLaw"
abbrev kK_L_law : kv_K := (yL_law, cL_law, 4, some .boolean, 2000)
def kl_A (s : State) : Nat → Prop := fun q => s.heap.size ≤ q
def kl_C (G : kv_G) (p : Program) (s : State) (m : MethodId) (c : Code) (b L : Nat) (xs : Nat → Int32) : Prop :=
  p.tables.exec = Jvm.exec ∧ c.code = code ∧ c.maxLocals = 4 ∧ s.vm.findClass R_law = some m.cls ∧ (∀ w ∈ kv_T, w.before #[Value.ref b] s = true) ∧ kv_J G ∧ va_K G.2.2.1 kv_cl (kv_ty G) s ∧ kv_St G (kv_A G) s s.heap ∧ (∀ q, kv_A G q → kl_A s q) ∧ va_X b L xs s s.heap ∧ b < s.heap.size ∧ kv_ad G 2000 = b
def kl_S (G : kv_G) (p : Program) (l : Launch) (e : Env) (s : State) (m : MethodId) (below : List Frame) (meth : Method) (c : Code) (b : Nat) (Q : State → Prop) (pc : Nat) (ls : List (Option Value)) (st : List Value) (h : kv_H) : Prop :=
  ∀ (H : Heap) (locs : List Loc) (la : Array Slot), va_P G.2.2.1 kv_cl (kv_w G h) H → va_S (kl_A s) s.heap H locs → kv_L G 4 ls la → W p l e room_1 s m #[Value.ref b] below meth c H locs 136 13929 Q (F0 m pc la (st.map (kv_v G)))
section KL
variable {G : kv_G} {p : Program} {l : Launch} {e : Env} {s : State} {m : MethodId} {below : List Frame} {meth : Method} {c : Code} {b L : Nat} {xs : Nat → Int32} {Q : State → Prop} {pc pc' tgt : Nat} {ls : List (Option Value)} {st : List Value} {h : kv_H}
theorem kl_const {v : Int32} (C : kl_C G p s m c b L xs) (hd : kv_c kK_L_law pc v pc') (k : kl_S G p l e s m below meth c b Q pc' ls (.int v :: st) h) : kl_S G p l e s m below meth c b Q pc ls st h := by
  intro H locs la hP hS hL
  have kk := k H locs la hP hS hL
  rcases hd with ⟨n, ⟨h1, h2, rfl⟩ | ⟨h1, h2, rfl⟩ | ⟨h1, h2, rfl⟩⟩ | ⟨x, ⟨h1, h2, rfl⟩ | ⟨h1, h2, rfl⟩⟩
  · exact lv_iconst C.1 C.2.1 h1 h2 kk
  · exact lv_bipush C.1 C.2.1 h1 h2 kk
  · exact lv_sipush C.1 C.2.1 h1 h2 kk
  · exact lv_ldc C.1 C.2.1 C.2.2.2.1 (C.2.2.2.2.1 _ h2) h1 kk
  · exact lv_ldcw C.1 C.2.1 C.2.2.2.1 (C.2.2.2.2.1 _ h2) h1 kk
theorem kl_iload {i : Nat} {x : Int32} (C : kl_C G p s m c b L xs) (hd : kv_ild kK_L_law pc i pc') (hl : ls[i]? = some (some (.int x))) (k : kl_S G p l e s m below meth c b Q pc' ls (.int x :: st) h) : kl_S G p l e s m below meth c b Q pc ls st h := by
  intro H locs la hP hS hL
  have kk := k H locs la hP hS hL
  rcases hd with ⟨n, h1, h2, rfl⟩ | ⟨h1, rfl⟩
  · exact lv_iload_n C.1 C.2.1 h1 h2 (kv_L_at hL hl) kk
  · exact lv_iload C.1 C.2.1 h1 (kv_L_at hL hl) kk
theorem kl_aload {i x : Nat} (C : kl_C G p s m c b L xs) (hd : kv_ald kK_L_law pc i pc') (hl : ls[i]? = some (some (.ref x))) (k : kl_S G p l e s m below meth c b Q pc' ls (.ref x :: st) h) : kl_S G p l e s m below meth c b Q pc ls st h := by
  intro H locs la hP hS hL
  have kk := k H locs la hP hS hL
  rcases hd with ⟨n, h1, h2, rfl⟩ | ⟨h1, rfl⟩
  · exact lv_aload_n C.1 C.2.1 h1 h2 (kv_L_at hL hl) kk
  · exact lv_aload C.1 C.2.1 h1 (kv_L_at hL hl) kk
theorem kl_iadd {x y : Int32} (C : kl_C G p s m c b L xs) (hd : kv_d kK_L_law pc .iadd 1 pc') (k : kl_S G p l e s m below meth c b Q pc' ls (.int (x + y) :: st) h) : kl_S G p l e s m below meth c b Q pc ls (.int y :: .int x :: st) h := by
  obtain ⟨h1, rfl⟩ := hd
  intro H locs la hP hS hL
  exact lv_iadd C.1 C.2.1 h1 (k H locs la hP hS hL)
theorem kl_isub {x y : Int32} (C : kl_C G p s m c b L xs) (hd : kv_d kK_L_law pc .isub 1 pc') (k : kl_S G p l e s m below meth c b Q pc' ls (.int (x - y) :: st) h) : kl_S G p l e s m below meth c b Q pc ls (.int y :: .int x :: st) h := by
  obtain ⟨h1, rfl⟩ := hd
  intro H locs la hP hS hL
  exact lv_isub C.1 C.2.1 h1 (k H locs la hP hS hL)
theorem kl_iand {x y : Int32} (C : kl_C G p s m c b L xs) (hd : kv_d kK_L_law pc .iand 1 pc') (k : kl_S G p l e s m below meth c b Q pc' ls (.int (x &&& y) :: st) h) : kl_S G p l e s m below meth c b Q pc ls (.int y :: .int x :: st) h := by
  obtain ⟨h1, rfl⟩ := hd
  intro H locs la hP hS hL
  exact lv_iand C.1 C.2.1 h1 (k H locs la hP hS hL)
theorem kl_lcmp {x y : Int64} (C : kl_C G p s m c b L xs) (hd : kv_d kK_L_law pc .lcmp 1 pc') (k : kl_S G p l e s m below meth c b Q pc' ls (.int (lg_cmp x y) :: st) h) : kl_S G p l e s m below meth c b Q pc ls (.long y :: .long x :: st) h := by
  obtain ⟨h1, rfl⟩ := hd
  intro H locs la hP hS hL
  exact W.lcmp C.1 C.2.1 h1 (k H locs la hP hS hL)
theorem kl_goto (C : kl_C G p s m c b L xs) (hd : kv_go kK_L_law pc tgt) (k : kl_S G p l e s m below meth c b Q tgt ls st h) : kl_S G p l e s m below meth c b Q pc ls st h := by
  obtain ⟨off, h1, h2⟩ := hd
  intro H locs la hP hS hL
  exact lv_goto C.1 C.2.1 h1 h2 (k H locs la hP hS hL)
theorem kl_eqT {x y : Int32} (C : kl_C G p s m c b L xs) (q : x = y) (hd : kv_ic kK_L_law pc .eq tgt pc') (k : kl_S G p l e s m below meth c b Q tgt ls st h) : kl_S G p l e s m below meth c b Q pc ls (.int y :: .int x :: st) h := by
  obtain ⟨off, h1, h2, rfl⟩ := hd
  intro H locs la hP hS hL
  exact lv_icmp_eq C.1 C.2.1 h1 h2 (fun _ => k H locs la hP hS hL) (fun z => absurd q z)
theorem kl_if0T {x : Int32} (C : kl_C G p s m c b L xs) (q : x = 0) (hd : kv_if kK_L_law pc .eq tgt pc') (k : kl_S G p l e s m below meth c b Q tgt ls st h) : kl_S G p l e s m below meth c b Q pc ls (.int x :: st) h := by
  obtain ⟨off, h1, h2, rfl⟩ := hd
  intro H locs la hP hS hL
  exact lv_if_eq C.1 C.2.1 h1 h2 (fun _ => k H locs la hP hS hL) (fun z => absurd q z)
theorem kl_gt {x y : Int32} (C : kl_C G p s m c b L xs) (hd : kv_ic kK_L_law pc .gt tgt pc') (k1 : y < x → kl_S G p l e s m below meth c b Q tgt ls st h) (k2 : ¬ y < x → kl_S G p l e s m below meth c b Q pc' ls st h) : kl_S G p l e s m below meth c b Q pc ls (.int y :: .int x :: st) h := by
  obtain ⟨off, h1, h2, rfl⟩ := hd
  intro H locs la hP hS hL
  exact lv_icmp_gt C.1 C.2.1 h1 h2 (fun z => k1 z H locs la hP hS hL) (fun z => k2 z H locs la hP hS hL)
theorem kl_iinc {i : Nat} {x v : Int32} (C : kl_C G p s m c b L xs) (hd : kv_inc kK_L_law pc i v pc') (hl : ls[i]? = some (some (.int x))) (hn : i < 4) (hp : ∀ w : Value, 0 < i → ls[i - 1]? = some (some w) → w.category = 1) (k : kl_S G p l e s m below meth c b Q pc' (ls.set i (some (.int (x + v)))) st h) : kl_S G p l e s m below meth c b Q pc ls st h := by
  obtain ⟨n, h1, h2, rfl⟩ := hd
  subst h2
  intro H locs la hP hS hL
  have hm : (i, kv_v G (.int x)) ∈ kv_prs G 0 ls := kv_prs_mem.mpr ⟨i, _, hl, by simp⟩
  obtain ⟨q, hq⟩ := List.getElem?_of_mem hm
  exact lv_iinc C.1 C.2.1 h1 hL hq rfl hn rfl (fun la2 hl2 => k H locs la2 hP hS (kv_L_set1 (x := .int (x + Int32.ofInt n)) hl2 hp))
theorem kl_sld {x : Int32} (C : kl_C G p s m c b L xs) (hin : vp_in x L) (hd : kv_d kK_L_law pc .iaload 1 pc') (k : kl_S G p l e s m below meth c b Q pc' ls (.int (xs x.toNatClampNeg) :: st) h) : kl_S G p l e s m below meth c b Q pc ls (.int x :: .ref 2000 :: st) h := by
  obtain ⟨h1, rfl⟩ := hd
  intro H locs la hP hS hL
  have hb0 : ¬ kl_A s b := Nat.not_le.mpr C.2.2.2.2.2.2.2.2.2.2.1
  have e1 : (Value.int x :: .ref 2000 :: st).map (kv_v G) = .int x :: .ref b :: st.map (kv_v G) := by
    show Value.int x :: Value.ref (kv_ad G 2000) :: _ = _
    rw [C.2.2.2.2.2.2.2.2.2.2.2]
  rw [e1]
  exact va_sld C.1 C.2.1 C.2.2.2.2.2.2.2.2.2.1 C.2.2.2.2.2.2.2.2.2.2.1 hb0 hS hin h1 (k H locs la hP hS hL)
theorem kl_slen (C : kl_C G p s m c b L xs) (hd : kv_d kK_L_law pc .arraylength 1 pc') (k : kl_S G p l e s m below meth c b Q pc' ls (.int (nI L) :: st) h) : kl_S G p l e s m below meth c b Q pc ls (.ref 2000 :: st) h := by
  obtain ⟨h1, rfl⟩ := hd
  intro H locs la hP hS hL
  have hb0 : ¬ kl_A s b := Nat.not_le.mpr C.2.2.2.2.2.2.2.2.2.2.1
  have e1 : (Value.ref 2000 :: st).map (kv_v G) = .ref b :: st.map (kv_v G) := by
    show Value.ref (kv_ad G 2000) :: _ = _
    rw [C.2.2.2.2.2.2.2.2.2.2.2]
  rw [e1]
  exact va_slen C.1 C.2.1 C.2.2.2.2.2.2.2.2.2.1 C.2.2.2.2.2.2.2.2.2.2.1 hb0 hS h1 (k H locs la hP hS hL)
theorem kl_sw {ks : List Int32} {ts : List Nat} {d : Nat} {dflt lo hi : Int} {offs : Array Int} {len : Nat} {x : Int32} (C : kl_C G p s m c b L xs) (hd : decode code pc = .ok (.tableswitch dflt lo hi offs, len)) (h0 : (pc : Int) + dflt = (d : Int)) (hl : ks.length = ts.length) (hks : ∀ i : Nat, i < ks.length → (ks.getD i 0).toInt = lo + i) (hhi : hi + 1 = lo + ks.length) (hts : ∀ i : Nat, i < ks.length → ∃ off : Int, offs[i]? = some off ∧ (pc : Int) + off = ((ts.getD i 0 : Nat) : Int)) (k : kl_S G p l e s m below meth c b Q (kv_to x ks ts d) ls st h) : kl_S G p l e s m below meth c b Q pc ls (.int x :: st) h := by
  intro H locs la hP hS hL
  have hw := k H locs la hP hS hL
  have kat : ∀ i : Nat, i < ks.length → ks[i]? = some (ks.getD i 0) := fun i hi => by simp [List.getD, hi]
  have out : (x.toInt < lo ∨ hi < x.toInt) → kv_to x ks ts d = d := by
    intro z
    refine kv_to_out (fun j hj => ?_)
    have hjl := (List.getElem?_eq_some_iff.mp hj).1
    have e1 := hks j hjl
    rw [kat j hjl] at hj
    rw [Option.some.inj hj] at e1
    omega
  by_cases h12 : x.toInt < lo ∨ hi < x.toInt
  · rw [out h12] at hw
    exact lv_tableOut C.1 C.2.1 hd h12 h0 hw
  have h1 : ¬ x.toInt < lo := fun z => h12 (Or.inl z)
  have h2 : ¬ hi < x.toInt := fun z => h12 (Or.inr z)
  obtain ⟨i, hi, hxi⟩ : ∃ i : Nat, i < ks.length ∧ x.toInt = lo + i := ⟨(x.toInt - lo).toNat, by omega, by omega⟩
  obtain ⟨off, o1, o2⟩ := hts i hi
  have hkx : ks.getD i 0 = x := Int32.toInt_inj.mp (by rw [hks i hi, hxi])
  have e3 : kv_to x ks ts d = ts.getD i 0 := by
    refine kv_to_at (i := i) (by rw [kat i hi, hkx]) (fun j hj hq => ?_) (by simp [List.getD, show i < ts.length by omega])
    have hjl := (List.getElem?_eq_some_iff.mp hq).1
    have e1 := hks j hjl
    rw [kat j hjl] at hq
    rw [Option.some.inj hq] at e1
    omega
  rw [e3] at hw
  exact lv_tableIn C.1 C.2.1 hd h1 h2 (by rw [show (x.toInt - lo).toNat = i by omega]; exact o1) o2 hw
theorem kl_room {d n : Nat} (hd : d ≤ 2000) (hn : n ≤ 20) : (kv_rm d).frames + 1 ≤ room_1.frames ∧ 8 + (n + 11) + (kv_rm d).locals ≤ room_1.locals := by
  unfold kv_rm room_1
  dsimp only
  omega
theorem kl_pre {As : List Value} {H : Heap} {locs : List Loc} (C : kl_C G p s m c b L xs) (hP : va_P G.2.2.1 kv_cl (kv_w G h) H) (hS : va_S (kl_A s) s.heap H locs) : ∀ U : State, U.heap = H → s.WarmedH U.vm → kv_Pc G As h (As.map (kv_v G)).toArray U := by
  intro U hU hW
  refine ⟨rfl, C.2.2.2.2.2.1, va_K.moved hW.alike C.2.2.2.2.2.2.1, ?_, by rw [hU]; exact hP⟩
  rw [hU]
  exact C.2.2.2.2.2.2.2.1.go hW (fun a h1 h2 => hS.2.1 a h1 (fun z => Nat.not_le.mpr h1 z))
theorem kl_iv {β : Type} {vb : β → Option Value} {r1 : β} {h2 : kv_H} {K2 : kv_K} {idx ci k : Nat} {As : List Value} {fs : List (Option Nat)} {M : Option (β × kv_H)} {sk : List Value} (C : kl_C G p s m c b L xs) (hvb : ∀ (G : kv_G) (r : β), (vb r).toList.map (kv_v G) = (vb r).toList) (hd : kv_d kK_L_law pc (.invokevirtual idx) 3 pc') (hc : kv_Cv R_law idx K2 ci As.length) (hm : kv_M vb K2 (.ref k :: As) h M) (hM : M = some (r1, h2)) (hs : kv_sh[k]? = some (.inr (ci, fs))) (hdep : K2.2.2.2.2 ≤ 2000) (hsk : sk = As.reverse ++ .ref k :: st) (hw : (st.map fun v => v.category).sum ≤ 8) (kk : kl_S G p l e s m below meth c b Q pc' ls ((vb r1).toList ++ st) h2) : kl_S G p l e s m below meth c b Q pc ls sk h := by
  obtain ⟨h1, rfl⟩ := hd
  obtain ⟨⟨T, N, c1⟩, c2, c3, c4, c5, c6, c7, c8⟩ := hc
  intro H locs la hP hS hL
  have hst : sk.map (kv_v G) = (As.map (kv_v G)).reverse ++ .ref (kv_ad G k) :: st.map (kv_v G) := by rw [hsk, List.map_append, List.map_reverse]; rfl
  rw [hst]
  have hcw : CallW room_1 s #[Value.ref b] R_law K2.1.cls idx K2.1 K2.2.1 K2.2.2.1 K2.2.2.2.1 (Cond.code K2.1 K2.2.1 K2.2.2.1 K2.2.2.2.1 :: kv_T) (kv_rm K2.2.2.2.2) 0 0 As.length := cwV As.length C.2.2.2.2.1 (kv_goodIn (fun w hw => by
    rcases List.mem_append.mp hw with q | q
    · simp only [List.mem_cons, List.not_mem_nil, or_false] at q
      rcases q with rfl | rfl | rfl | rfl
      · exact c2
      · exact c3
      · exact c4
      · exact c5
    · rcases List.mem_cons.mp q with rfl | q
      · exact c6
      · exact q)) rfl rfl rfl ⟨rfl, c7⟩ (kl_room hdep c8)
  have hrun := va_runV (p := p) (l := l) (e := e) (R := room_1) (below := below) (meth := meth) (H := H) (locs := locs) (cells := 136) (slots := 13929) (g := F0 m pc la ((As.map (kv_v G)).reverse ++ .ref (kv_ad G k) :: st.map (kv_v G))) (As := As.map (kv_v G)) (rest := st.map (kv_v G)) (b := kv_ad G k) ⟨C.1, C.2.1, C.2.2.1, C.2.2.2.1, C.2.2.2.2.1⟩ (hm l G r1 h2 hM) hcw ⟨kv_blind, va_recv C.2.2.2.2.2.2.1 hP c1 (kv_w_at hs), kl_pre (As := .ref k :: As) C hP hS⟩ rfl (by rw [List.length_map]) hL.1 rfl (lv_room (by rw [kv_wcat]; exact hw)) h1 ⟨by decide, by decide⟩
  intro T2 hT X
  obtain ⟨v, st₀, t, T', L', h0, X', hL', e1, e2, ⟨hv, hP1, hz, hk⟩, sts⟩ := hrun T2 hT X
  cases hv
  rw [h0] at hz hk
  have q := kk T'.heap (locs ++ L') la (by rw [e1]; exact hP1)
    ⟨Nat.le_trans hS.1 (by rw [e1]; exact hz), fun q q1 q2 => by rw [e1, hk q (Nat.lt_of_lt_of_le q1 hS.1) (fun z => q2 (C.2.2.2.2.2.2.2.2.1 q z))]; exact hS.2.1 q q1 q2, fun q hq => by
      rcases List.mem_append.mp hq with z | z
      · exact hS.2.2 q z
      · exact C.2.2.2.2.2.2.2.2.1 _ (hL' q z)⟩ hL
  rw [List.map_append, hvb G r1] at q
  obtain ⟨t2, a1, b1⟩ := q T' rfl X'
  exact ⟨t2, sts t2 a1, b1⟩
theorem kl_iv_i {r1 : Int32} {h2 : kv_H} {K2 : kv_K} {idx ci k : Nat} {As : List Value} {fs : List (Option Nat)} {M : Option (Int32 × kv_H)} {sk : List Value} (C : kl_C G p s m c b L xs) (hd : kv_d kK_L_law pc (.invokevirtual idx) 3 pc') (hc : kv_Cv R_law idx K2 ci As.length) (hm : kv_M kv_i K2 (.ref k :: As) h M) (hM : M = some (r1, h2)) (hs : kv_sh[k]? = some (.inr (ci, fs))) (hdep : K2.2.2.2.2 ≤ 2000) (hsk : sk = As.reverse ++ .ref k :: st) (hw : (st.map fun v => v.category).sum ≤ 8) (kk : kl_S G p l e s m below meth c b Q pc' ls (.int r1 :: st) h2) : kl_S G p l e s m below meth c b Q pc ls sk h := kl_iv C (fun _ _ => rfl) hd hc hm hM hs hdep hsk hw kk
theorem kl_iv_l {r1 : Int64} {h2 : kv_H} {K2 : kv_K} {idx ci k : Nat} {As : List Value} {fs : List (Option Nat)} {M : Option (Int64 × kv_H)} {sk : List Value} (C : kl_C G p s m c b L xs) (hd : kv_d kK_L_law pc (.invokevirtual idx) 3 pc') (hc : kv_Cv R_law idx K2 ci As.length) (hm : kv_M kv_l K2 (.ref k :: As) h M) (hM : M = some (r1, h2)) (hs : kv_sh[k]? = some (.inr (ci, fs))) (hdep : K2.2.2.2.2 ≤ 2000) (hsk : sk = As.reverse ++ .ref k :: st) (hw : (st.map fun v => v.category).sum ≤ 8) (kk : kl_S G p l e s m below meth c b Q pc' ls (.long r1 :: st) h2) : kl_S G p l e s m below meth c b Q pc ls sk h := kl_iv C (fun _ _ => rfl) hd hc hm hM hs hdep hsk hw kk
end KL
/-- two functions answer alike, and keep P -/
def kl_Op {β : Type} (P : kv_H → Prop) (F F2 : kv_H → Option (β × kv_H)) : Prop := ∀ h, P h → ∃ r h1 h2, F h = some (r, h1) ∧ F2 h1 = some (r, h2) ∧ P h2
theorem kl_ix {i L k : Nat} (hi : i + 6 ≤ L) (hk : k < 6) (hL : L ≤ 3072) : vp_in (nI i + nI k) L := by
  rw [nI_add]; exact vp_in_nI (by omega) (by omega)
theorem kl_more {i L : Nat} (hL : L ≤ 3072) (hi : i ≤ L) : nI L - 6 < nI i ↔ L < i + 6 := by
  have e1 : (nI L - 6).toInt = (L : Int) - 6 := by
    have := pk_sub_toInt (a := L) (b := 6) (by omega) (by omega)
    exact this
  have e2 : (nI i).toInt = (i : Int) := nI_toInt (by omega)
  rw [Int32.lt_iff_toInt_lt, e1, e2]
  omega

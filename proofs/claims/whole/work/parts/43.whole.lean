def lw_P (b : Addr) (xs : List Int32) (args : Array Value) (s : State) : Prop := args = #[.ref b] ∧ s.IntsAt b xs ∧ xs.length ≤ 3072 ∧ (Jvm.Cond.and given_1 narrow_1).before args s = true
def lw_Q (_ : Array Value) (s : State) (o : Outcome) (t : State) : Prop := o = .returned (some (.int 1)) ∧ Framed s o t [] 600000 7302250
def lw_Z (below : List Frame) (a : Array Value) (s : State) : State → Prop := fun t => ∃ o, t.status = .running ∧ Ended t below o ∧ lw_Q a s o t
/-- the law's own end, with 1 on the stack, nothing written that was there before, its room as the claim has it -/
theorem lw_ret {p : Program} {l : Launch} {e : Env} {s : State} {m : MethodId} {below : List Frame} {meth : Method} {c : Code} {b : Nat} (hx : p.tables.exec = Jvm.exec) (hb : c.code = code) (hr : meth.sig.returnType = ret) (hlocks : meth.locks = false) {pc : Nat} {H : Heap} {ls : Array Slot} (hdg : decode code pc = .ok (.ireturn, 1)) : W p l e room_1 s m #[Value.ref b] below meth c H [] 600000 7302250 (lw_Z below #[Value.ref b] s) (F0 m pc ls [.int 1]) := by
  intro T hT X
  obtain ⟨fs, hret, hrun, hended, hW, hframe⟩ := X.leave (v := some (.int 1)) (hlocks := hlocks) (fun h => by rw [hr] at h; cases h)
  have hmeth' : T.vm.method? m = some meth := X.method'
  refine ⟨T.setFrames fs, ?_, .returned (some (.int 1)), hrun, hended, rfl, ⟨_, rfl⟩, hW, hframe⟩
  jvm_step X.here [X.here.top, hx, hb, hdg, hmeth', hr, ret, narrow_b1]
  (try refine ⟨rfl, ?_⟩); (try refine ⟨rfl, ?_⟩)
  first | (intro acts; rw [hret _ acts rfl rfl rfl]) | rw [hret _ _ rfl rfl rfl]
  exact Steps.refl _
/-- what holds at the law's entry: the machine, the code, the tables' words (any of lw_tbl by 'hts w (by decide +kernel)'), the script of L ints xs at the cell b, what the Statement gives of the start (any of its parts by flat_of_before) -/
def lw_At (p : Program) (s : State) (m : MethodId) (meth : Method) (c : Code) (b L : Nat) (xs : Nat → Int32) : Prop :=
  p.tables.exec = Jvm.exec ∧ c.code = code ∧ meth.sig.returnType = ret ∧ c.maxLocals = 4 ∧ s.vm.findClass R_law = some m.cls ∧ (∀ w ∈ lw_tbl, w.before #[Value.ref b] s = true) ∧ va_X b L xs s s.heap ∧ b < s.heap.size ∧ meth.locks = false ∧ (Jvm.Cond.and given_1 narrow_1).before #[Value.ref b] s = true
theorem wn_L_7 : kd_Nw R_law 7 9 [.null, .null, .null, .null, .null, .null, .null, .null, .null, .null, .int 0, .int 0] := ⟨RX9, TX9, 12, tyX9, rfl, kv_in9, tyX9_ok, kv_T_at 94 (by decide +kernel) rfl, kv_T_at 95 (by decide +kernel) rfl, kv_T_at 75 (by decide +kernel) rfl, fun j hj => by rcases (show j = 0 ∨ j = 1 ∨ j = 2 ∨ j = 3 ∨ j = 4 ∨ j = 5 ∨ j = 6 ∨ j = 7 ∨ j = 8 ∨ j = 9 ∨ j = 10 ∨ j = 11 by omega) with rfl | rfl | rfl | rfl | rfl | rfl | rfl | rfl | rfl | rfl | rfl | rfl <;> rfl, rfl, fun _ => rfl⟩
theorem wn_L_10 : kd_Nw R_law 10 10 [.null, .null, .null, .int 0, .null, .null, .null, .null, .null, .null, .null, .null, .null, .null, .null, .null, .null, .null, .null, .int 0, .null, .int 0, .int 0, .int 0, .int 0, .int 0, .int 0, .int 0, .int 0, .int 0, .int 0, .int 0, .null, .null, .null, .null, .int 0, .null] := ⟨RX10, TX10, 38, tyX10, rfl, kv_in10, tyX10_ok, kv_T_at 1067 (by decide +kernel) rfl, kv_T_at 1068 (by decide +kernel) rfl, kv_T_at 85 (by decide +kernel) rfl, fun j hj => by rcases (show j = 0 ∨ j = 1 ∨ j = 2 ∨ j = 3 ∨ j = 4 ∨ j = 5 ∨ j = 6 ∨ j = 7 ∨ j = 8 ∨ j = 9 ∨ j = 10 ∨ j = 11 ∨ j = 12 ∨ j = 13 ∨ j = 14 ∨ j = 15 ∨ j = 16 ∨ j = 17 ∨ j = 18 ∨ j = 19 ∨ j = 20 ∨ j = 21 ∨ j = 22 ∨ j = 23 ∨ j = 24 ∨ j = 25 ∨ j = 26 ∨ j = 27 ∨ j = 28 ∨ j = 29 ∨ j = 30 ∨ j = 31 ∨ j = 32 ∨ j = 33 ∨ j = 34 ∨ j = 35 ∨ j = 36 ∨ j = 37 by omega) with rfl | rfl | rfl | rfl | rfl | rfl | rfl | rfl | rfl | rfl | rfl | rfl | rfl | rfl | rfl | rfl | rfl | rfl | rfl | rfl | rfl | rfl | rfl | rfl | rfl | rfl | rfl | rfl | rfl | rfl | rfl | rfl | rfl | rfl | rfl | rfl | rfl | rfl <;> rfl, rfl, fun _ => rfl⟩
theorem wi_L_9 : kd_CI R_law 9 kK_X9_init 0 := ⟨rfl, rfl, kv_T_at 97 (by decide +kernel) rfl, ⟨kv_T_at 75 (by decide +kernel) rfl, kv_T_at 98 (by decide +kernel) rfl, ⟨by decide +kernel, by decide +kernel, by decide +kernel⟩, by decide⟩, Or.inr (kv_T_at 96 (by decide +kernel) rfl)⟩
theorem wi_L_12 : kd_CI R_law 12 kK_X10_init 0 := ⟨rfl, rfl, kv_T_at 1070 (by decide +kernel) rfl, ⟨kv_T_at 85 (by decide +kernel) rfl, kv_T_at 1071 (by decide +kernel) rfl, ⟨by decide +kernel, by decide +kernel, by decide +kernel⟩, by decide⟩, Or.inr (kv_T_at 1069 (by decide +kernel) rfl)⟩
theorem e_L_0 : kv_d kK_L_law 0 (.new 7) 3 3 := ⟨by decide +kernel, rfl⟩
theorem e_L_3 : kv_d kK_L_law 3 .dup 1 4 := ⟨by decide +kernel, rfl⟩
theorem e_L_4 : kv_d kK_L_law 4 (.invokespecial 9) 3 7 := ⟨by decide +kernel, rfl⟩
theorem e_L_8 : kv_d kK_L_law 8 (.new 10) 3 11 := ⟨by decide +kernel, rfl⟩
theorem e_L_11 : kv_d kK_L_law 11 .dup 1 12 := ⟨by decide +kernel, rfl⟩
theorem e_L_12 : kv_d kK_L_law 12 (.invokespecial 12) 3 15 := ⟨by decide +kernel, rfl⟩
theorem e_L_7 : kv_ast kK_L_law 7 1 8 := Or.inl ⟨1, by decide +kernel, rfl, rfl⟩
theorem e_L_15 : kv_ast kK_L_law 15 2 16 := Or.inl ⟨2, by decide +kernel, rfl, rfl⟩
theorem e_L_16 : kv_c kK_L_law 16 0 17 := Or.inl ⟨0, Or.inl ⟨by decide +kernel, by decide +kernel, rfl⟩⟩
theorem e_L_17 : kv_ist kK_L_law 17 3 18 := Or.inl ⟨3, by decide +kernel, rfl, rfl⟩
theorem e_L_1470 : kv_c kK_L_law 1470 1 1471 := Or.inl ⟨1, Or.inl ⟨by decide +kernel, by decide +kernel, rfl⟩⟩
theorem e_L_1471 : decode code 1471 = .ok (.ireturn, 1) := by decide +kernel
theorem kn_ws {p : Program} {l : Launch} {e : Env} {s : State} {m : MethodId} {below : List Frame} {meth : Method} {c : Code} {b : Nat} {Q : State → Prop} {B : kv_G} {pc : Nat} {ls : List (Option Value)} {st : List Value} {ws ws' : List kd_E} {cn sn : Nat} (h : ws = ws') (k : kn_S p l e s m below meth c b Q B pc ls st ws' cn sn) : kn_S p l e s m below meth c b Q B pc ls st ws cn sn := by subst h; exact k
def kv_w1 : List kd_E := [.inr (.inr (9, [.ref 1, .ref 33, .ref 49, .ref 65, .ref 68, .ref 71, .ref 72, .ref 73, .ref 74, .ref 75, .int 0, .int 0])), .inr (.inr (7, [.ref 2, .ref 3, .ref 4])), .inr (.inl (6, [some 5, some 7, some 9, some 11, some 13, some 15, some 17, some 19, some 21, some 23, some 25, some 27, some 29, some 31])), .inl (96, fun _ => 0), .inl (4, fun _ => 0), .inr (.inr (6, [.ref 6, .int 0, .int 0, .int 0])), .inl (96, fun _ => 0), .inr (.inr (6, [.ref 8, .int 0, .int 0, .int 0])), .inl (96, fun _ => 0), .inr (.inr (6, [.ref 10, .int 0, .int 0, .int 0])), .inl (96, fun _ => 0), .inr (.inr (6, [.ref 12, .int 0, .int 0, .int 0])), .inl (96, fun _ => 0), .inr (.inr (6, [.ref 14, .int 0, .int 0, .int 0])), .inl (96, fun _ => 0), .inr (.inr (6, [.ref 16, .int 0, .int 0, .int 0])), .inl (96, fun _ => 0), .inr (.inr (6, [.ref 18, .int 0, .int 0, .int 0])), .inl (96, fun _ => 0), .inr (.inr (6, [.ref 20, .int 0, .int 0, .int 0])), .inl (96, fun _ => 0), .inr (.inr (6, [.ref 22, .int 0, .int 0, .int 0])), .inl (96, fun _ => 0), .inr (.inr (6, [.ref 24, .int 0, .int 0, .int 0])), .inl (96, fun _ => 0), .inr (.inr (6, [.ref 26, .int 0, .int 0, .int 0])), .inl (96, fun _ => 0), .inr (.inr (6, [.ref 28, .int 0, .int 0, .int 0])), .inl (96, fun _ => 0), .inr (.inr (6, [.ref 30, .int 0, .int 0, .int 0])), .inl (96, fun _ => 0), .inr (.inr (6, [.ref 32, .int 0, .int 0, .int 0])), .inl (96, fun _ => 0), .inr (.inr (8, [.ref 1, .ref 34, .ref 43, .ref 47, .ref 48, .int 0, .int 0, .int 12, .int 0, .int 0])), .inr (.inr (1, [.ref 35, .ref 36, .ref 37, .ref 38, .ref 39, .ref 40, .ref 41, .ref 42, .int 0])), .inl (8, fun _ => 0), .inl (8, fun _ => 0), .inl (8, fun _ => 0), .inl (8, fun _ => 0), .inl (8, fun _ => 0), .inl (8, fun _ => 0), .inl (8, fun _ => 0), .inl (8, fun _ => 0), .inr (.inr (0, [.ref 44, .ref 45, .ref 46, .int 0, .int 0, .int 0, .int 0, .int 1])), .inl (8, fun _ => 0), .inl (8, fun _ => 0), .inl (8, fun _ => 0), .inl (24, fun _ => 0), .inl (3, upd (upd (upd (fun _ => 0) 0 (-1000000005)) 1 (-1000000005)) 2 (-1000000005)), .inr (.inr (8, [.ref 1, .ref 50, .ref 59, .ref 63, .ref 64, .int 0, .int 0, .int 12, .int 0, .int 0])), .inr (.inr (1, [.ref 51, .ref 52, .ref 53, .ref 54, .ref 55, .ref 56, .ref 57, .ref 58, .int 0])), .inl (8, fun _ => 0), .inl (8, fun _ => 0), .inl (8, fun _ => 0), .inl (8, fun _ => 0), .inl (8, fun _ => 0), .inl (8, fun _ => 0), .inl (8, fun _ => 0), .inl (8, fun _ => 0), .inr (.inr (0, [.ref 60, .ref 61, .ref 62, .int 0, .int 0, .int 0, .int 0, .int 1])), .inl (8, fun _ => 0), .inl (8, fun _ => 0), .inl (8, fun _ => 0), .inl (24, fun _ => 0), .inl (3, upd (upd (upd (fun _ => 0) 0 (-1000000005)) 1 (-1000000005)) 2 (-1000000005)), .inr (.inr (5, [.ref 66, .int 0, .ref 67, .int 0, .int 0, .int 0, .int 0, .int 0, .int 0, .int 0])), .inl (96, fun _ => 0), .inl (96, fun _ => 0), .inr (.inr (2, [.ref 69, .ref 70, .int 0, .int 0])), .inl (256, fun _ => 0), .inl (256, fun _ => 0), .inr (.inl (0, [some 76, some 80, some 84])), .inl (2, fun _ => 0), .inr (.inl (3, [some 88, some 90, some 92, some 94])), .inr (.inl (4, [some 96, some 99, some 102, some 105, some 108])), .inl (60, fun _ => 0), .inr (.inr (0, [.ref 77, .ref 78, .ref 79, .int 0, .int 0, .int 0, .int 0, .int 1])), .inl (8, fun _ => 0), .inl (8, fun _ => 0), .inl (8, fun _ => 0), .inr (.inr (0, [.ref 81, .ref 82, .ref 83, .int 0, .int 0, .int 0, .int 0, .int 1])), .inl (8, fun _ => 0), .inl (8, fun _ => 0), .inl (8, fun _ => 0), .inr (.inr (0, [.ref 85, .ref 86, .ref 87, .int 0, .int 0, .int 0, .int 0, .int 1])), .inl (8, fun _ => 0), .inl (8, fun _ => 0), .inl (8, fun _ => 0), .inr (.inr (3, [.ref 89, .int (-1), .int 0])), .inl (24, fun _ => 0), .inr (.inr (3, [.ref 91, .int (-1), .int 0])), .inl (24, fun _ => 0), .inr (.inr (3, [.ref 93, .int (-1), .int 0])), .inl (24, fun _ => 0), .inr (.inr (3, [.ref 95, .int (-1), .int 0])), .inl (24, fun _ => 0), .inr (.inr (4, [.ref 97, .int 0, .int 0, .int 0, .int 0, .int 0, .int 0])), .inr (.inr (3, [.ref 98, .int (-1), .int 0])), .inl (24, fun _ => 0), .inr (.inr (4, [.ref 100, .int 0, .int 0, .int 0, .int 0, .int 0, .int 0])), .inr (.inr (3, [.ref 101, .int (-1), .int 0])), .inl (24, fun _ => 0), .inr (.inr (4, [.ref 103, .int 0, .int 0, .int 0, .int 0, .int 0, .int 0])), .inr (.inr (3, [.ref 104, .int (-1), .int 0])), .inl (24, fun _ => 0), .inr (.inr (4, [.ref 106, .int 0, .int 0, .int 0, .int 0, .int 0, .int 0])), .inr (.inr (3, [.ref 107, .int (-1), .int 0])), .inl (24, fun _ => 0), .inr (.inr (4, [.ref 109, .int 0, .int 0, .int 0, .int 0, .int 0, .int 0])), .inr (.inr (3, [.ref 110, .int (-1), .int 0])), .inl (24, fun _ => 0)]
theorem kn_L {B : kv_G} {ad : Nat → Nat} {Gs : kv_G} {la : Array Slot} (hL : kv_L (B.1, B.2.1, B.2.2.1, ad) 4 [some (.ref 900), some (.ref 0), some (.ref 111), some (.int 0)] la) (h0 : kv_ad Gs 2000 = ad 900) (h1 : kv_ad Gs 0 = ad 0) (h2 : kv_ad Gs 111 = ad 111) : kv_L Gs 4 [some (.ref 2000), some (.ref 0), some (.ref 111), some (.int (nI 0))] la := by
  refine ⟨hL.1, hL.2.1, fun q hq => ?_⟩
  have e : kv_prs Gs 0 [some (.ref 2000), some (.ref 0), some (.ref 111), some (.int (nI 0))] = kv_prs (B.1, B.2.1, B.2.2.1, ad) 0 [some (.ref 900), some (.ref 0), some (.ref 111), some (.int 0)] := by
    show [(0, Value.ref (kv_ad Gs 2000)), (1, Value.ref (kv_ad Gs 0)), (2, Value.ref (kv_ad Gs 111)), (3, Value.int (nI 0))] = [(0, Value.ref (ad 900)), (1, Value.ref (ad 0)), (2, Value.ref (ad 111)), (3, Value.int 0)]
    rw [h0, h1, h2]
    rfl
  rw [e] at hq
  exact hL.2.2 q hq
set_option maxRecDepth 100000 in
set_option maxHeartbeats 4000000 in
theorem kl_whole {p : Program} {e : Env} {s : State} {m : MethodId} {below : List Frame} {meth : Method} {c : Code} (l : Launch) {b L : Nat} {xs : Nat → Int32} (hL : L ≤ 3072) (C0 : lw_At p s m meth c b L xs) {P : kv_H → Prop} (hP0 : P kv_h0) (hops : kl_Ops P) : W p l e room_1 s m #[Value.ref b] below meth c s.heap [] 0 0 (lw_Z below #[Value.ref b] s) (entryFrame m ([Value.ref b] : List Value).toArray 4) := by
  obtain ⟨hx, hb, hr, hml, hown, hts, hX, hbl, hlocks, hgv⟩ := C0
  obtain ⟨B, hK⟩ := kv_K0 hts
  have hW := kv_W0 hts
  obtain ⟨f, hf⟩ := kv_stat hts hgv
  have htk : ∀ w ∈ kv_T, w.before #[Value.ref b] s = true := fun w hw => hts w (List.mem_filter.mp hw).1
  have C : kn_C B p s m c b := ⟨hx, hb, hml, hown, htk, hK, hW⟩
  have main : kn_S p l e s m below meth c b (lw_Z below #[Value.ref b] s) B 0 [some (.ref 900), none, none, none] [] [] 0 0 := by
    refine kn_new C e_L_0 wn_L_7 (by decide +kernel) (by decide) (by decide) ?_
    refine kn_ws (ws' := [.inr (.inr (9, [.null, .null, .null, .null, .null, .null, .null, .null, .null, .null, .int 0, .int 0]))]) rfl ?_
    refine kn_dup C e_L_3 rfl ?_
    refine kn_call (ws' := kv_w1) C e_L_4 wi_L_9 c_X9_init rfl ⟨rfl, rfl, rfl⟩ (by decide) (by decide) (by decide +kernel) (by decide +kernel) (by decide +kernel) (by decide +kernel) (by decide) (by decide) (by decide) (by decide) rfl ?_
    refine kn_astore C e_L_7 (by decide) (fun w _ q => by cases q; rfl) ?_
    refine kn_new C e_L_8 wn_L_10 (by decide +kernel) (by decide) (by decide) ?_
    refine kn_dup C e_L_11 rfl ?_
    refine kn_call (k := 111) (ws' := kv_wF) C e_L_12 wi_L_12 c_X10_init rfl ⟨rfl, rfl, rfl⟩ (by decide) (by decide) (by decide +kernel) (by decide +kernel) (by decide +kernel) (by decide +kernel) (by decide) (by decide) (by decide) (by decide) rfl ?_
    refine kn_astore C e_L_15 (by decide) (fun w _ q => by cases q; rfl) ?_
    refine kn_const C e_L_16 ?_
    refine kn_istore C e_L_17 (by decide) (fun w _ q => by cases q; rfl) ?_
    intro H locs la ad h9 hP hD hS hLa
    obtain ⟨Gs, hGs⟩ : ∃ Gs : kv_G, Gs = (B.1, B.2.1, B.2.2.1, fun k => if k < 136 then ad (kv_pi.getD k 0) else if k = 2000 then b else f k) := ⟨_, rfl⟩
    have had : ∀ k, k < 136 → kv_ad Gs k = kv_ad (B.1, B.2.1, B.2.2.1, ad) (kv_pi.getD k 0) := by
      intro k hk
      rw [hGs]
      show (if k < 136 then ad (kv_pi.getD k 0) else _) = ad (kv_pi.getD k 0)
      rw [if_pos hk]
    have h2000 : kv_ad Gs 2000 = b := by rw [hGs]; rfl
    have hst : ∀ k, 1000 ≤ k → k < 2000 → kv_ad Gs k = f k := by
      intro k h1 h2
      rw [hGs]
      show (if k < 136 then ad (kv_pi.getD k 0) else if k = 2000 then b else f k) = f k
      rw [if_neg (by omega), if_neg (by omega)]
    have hPs := kv_conv (G := (B.1, B.2.1, B.2.2.1, ad)) (Gs := Gs) (by rw [hGs]; exact ⟨rfl, rfl, rfl⟩) had hP
    obtain ⟨hJ, hA⟩ := kv_conv_J (G := (B.1, B.2.1, B.2.2.1, ad)) (Gs := Gs) had hD
    have hKs : va_K Gs.2.2.1 kv_cl (kv_ty Gs) s := by rw [hGs]; exact hK
    have CL : kl_C Gs p s m c b L xs := ⟨hx, hb, hml, hown, htk, hJ, hKs, (hf Gs hst).narrow hA, hA, hX, hbl, h2000⟩
    have hE : ∀ h, kl_S Gs p l e s m below meth c b (lw_Z below #[Value.ref b] s) 1470 [none, none, none, none] [] h := by
      intro h
      refine kl_const CL e_L_1470 ?_
      intro H2 locs2 la2 _ hS2 _
      refine va_forget hS2.2.2 ?_
      refine W.widen (k := 600000) (n := 7302250) (by decide) (by decide) ?_
      exact lw_ret hx hb hr hlocks e_L_1471
    have q := kl_loop (l := l) (e := e) (below := below) (meth := meth) CL hL hops hE (L + 1) 0 kv_h0 (Nat.zero_le _) (by omega) hP0
    exact q H locs la hPs hS (kn_L hLa (by rw [h2000]; exact h9.symm) (had 0 (by decide)) (had 111 (by decide)))
  have hl := lv_entry ([.ref b]) (n := 4) (Nat.le_of_ble_eq_true rfl)
  rw [lg_entry_eq]
  have hPe : va_P B.2.2.1 kv_cl (kd_w (B.1, B.2.1, B.2.2.1, fun _ => b) []) s.heap := fun k q h => by simp [kd_w] at h
  have hDe : va_D (kl_A s) (kd_w (B.1, B.2.1, B.2.2.1, fun _ => b) []) := ⟨fun i j x y h => by simp [kd_w] at h, fun k q h => by simp [kd_w] at h⟩
  exact main s.heap [] _ (fun _ => b) rfl hPe hDe va_S.rf hl

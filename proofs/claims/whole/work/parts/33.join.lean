section KF
variable {K : kv_K} {pc pc' tgt : Nat} {ls : List (Option Value)} {st : List Value} {ws wR : List kd_E} {cn sn mc ms : Nat}
/-- renaming of numbers -/
def kd_rv (r : Nat → Nat) (v : Value) : Value := match v with
  | .ref k => .ref (r k)
  | v => v
def kd_rn (r : Nat → Nat) (e : kd_E) : kd_E := match e with
  | .inl x => .inl x
  | .inr (.inl (c, L)) => .inr (.inl (c, L.map (Option.map r)))
  | .inr (.inr (ci, fs)) => .inr (.inr (ci, fs.map (kd_rv r)))
def kd_bv (m2 : Nat) (v : Value) : Bool := match v with
  | .ref k => decide (k < m2) || decide (k = 900)
  | _ => true
/-- all numbers below m2, or 900 -/
def kd_bd (m2 : Nat) (e : kd_E) : Bool := match e with
  | .inl _ => true
  | .inr (.inl (_, L)) => L.all (fun x => match x with | some k => decide (k < m2) || decide (k = 900) | none => true)
  | .inr (.inr (_, fs)) => fs.all (kd_bv m2)
theorem kd_m_rn {G G2 : kv_G} (hB : G.1 = G2.1 ∧ G.2.1 = G2.2.1) {r : Nat → Nat} {m2 : Nat} (hr : ∀ i, i < m2 ∨ i = 900 → kv_ad G (r i) = kv_ad G2 i) {e : kd_E} (h : kd_bd m2 e = true) : kd_m G (kd_rn r e) = kd_m G2 e := by
  rcases e with ⟨a, f⟩ | ⟨c, L⟩ | ⟨ci, fs⟩
  · show (Sum.inl (G.1, a, _) : va_E) = .inl (G2.1, a, _)
    rw [hB.1]
  · show (Sum.inl (G.2.1 c, (L.map (Option.map r)).length, .inr (.inr (.inr (.inr (fun j => ((L.map (Option.map r)).getD j none).map (kv_ad G)))))) : va_E) = .inl (G2.2.1 c, L.length, .inr (.inr (.inr (.inr (fun j => (L.getD j none).map (kv_ad G2))))))
    have e1 : (fun j => ((L.map (Option.map r)).getD j none).map (kv_ad G)) = fun j => (L.getD j none).map (kv_ad G2) := by
      funext j
      rw [List.getD_eq_getElem?_getD, List.getD_eq_getElem?_getD, List.getElem?_map]
      cases hj : L[j]? with
      | none => rfl
      | some x => cases x with
        | none => rfl
        | some k =>
          have h2 := List.all_eq_true.mp h _ (List.mem_of_getElem? hj)
          have h3 : k < m2 ∨ k = 900 := by simpa using h2
          show some (kv_ad G (r k)) = some (kv_ad G2 k)
          rw [hr k h3]
    rw [e1, List.length_map, hB.2]
  · show (Sum.inr (ci, (fs.map (kd_rv r)).map (kv_v G)) : va_E) = .inr (ci, fs.map (kv_v G2))
    rw [List.map_map, List.map_congr_left (fun v hv => ?_)]
    have h2 := List.all_eq_true.mp h v hv
    cases v <;> first | rfl | skip
    rename_i k
    have h3 : k < m2 ∨ k = 900 := by simpa [kd_bv] using h2
    show Value.ref (kv_ad G (r k)) = Value.ref (kv_ad G2 k)
    rw [hr k h3]
/-- the addresses behind a call that made m2 - 1 cells -/
def kd_y (G : kv_G) (n m2 : Nat) (ad2 : Nat → Nat) : kv_G := (G.1, G.2.1, G.2.2.1, fun i => if i < n then kv_ad G i else if i < n + m2 - 1 then ad2 (i - n + 1) else kv_ad G i)
def kd_r (k n t : Nat) : Nat → Nat := fun i => if i = 0 then k else if i = 900 then t else n + i - 1
/-- the world behind a call -/
def kd_em (ws w2 : List kd_E) (k t : Nat) : List kd_E := match w2 with
  | [] => ws
  | e :: w => ws.set k (kd_rn (kd_r k ws.length t) e) ++ w.map (kd_rn (kd_r k ws.length t))
theorem kd_y_lt {G : kv_G} {n m2 : Nat} {ad2 : Nat → Nat} {i : Nat} (h : i < n) : kv_ad (kd_y G n m2 ad2) i = kv_ad G i := by
  show (if i < n then kv_ad G i else _) = _
  rw [if_pos h]
theorem kd_y_ge {G : kv_G} {n m2 : Nat} {ad2 : Nat → Nat} {i : Nat} (h : n + m2 - 1 ≤ i) (h2 : n ≤ i) : kv_ad (kd_y G n m2 ad2) i = kv_ad G i := by
  show (if i < n then kv_ad G i else if i < n + m2 - 1 then _ else kv_ad G i) = _
  rw [if_neg (by omega), if_neg (by omega)]
theorem kd_y_in {G : kv_G} {n m2 : Nat} {ad2 : Nat → Nat} {i : Nat} (h : 1 ≤ i) (h2 : i < m2) : kv_ad (kd_y G n m2 ad2) (n + i - 1) = ad2 i := by
  show (if n + i - 1 < n then _ else if n + i - 1 < n + m2 - 1 then ad2 (n + i - 1 - n + 1) else _) = _
  rw [if_neg (by omega), if_pos (by omega), show n + i - 1 - n + 1 = i by omega]
def kd_lt (n : Nat) (e : kd_E) : Bool := kd_bd n e
theorem kd_m_y {G : kv_G} {n m2 : Nat} {ad2 : Nat → Nat} (hn : n + m2 ≤ 900) {e : kd_E} (h : kd_bd n e = true) : kd_m (kd_y G n m2 ad2) e = kd_m G e := by
  have h1 : kd_rn id e = e := by
    rcases e with ⟨a, f⟩ | ⟨c, L⟩ | ⟨ci, fs⟩
    · rfl
    · show (.inr (.inl (c, L.map (Option.map id))) : kd_E) = _
      simp
    · show (.inr (.inr (ci, fs.map (kd_rv id))) : kd_E) = _
      rw [show kd_rv id = id from funext (fun v => by cases v <;> rfl)]
      simp
  have h2 := kd_m_rn (G := kd_y G n m2 ad2) (G2 := G) ⟨rfl, rfl⟩ (r := id) (m2 := n) (fun i hi => by
    show kv_ad (kd_y G n m2 ad2) i = kv_ad G i
    rcases hi with q | q
    · exact kd_y_lt q
    · exact kd_y_ge (by omega) (by omega)) h
  rw [h1] at h2
  exact h2
theorem kd_v_y {G : kv_G} {n m2 : Nat} {ad2 : Nat → Nat} (hn : n + m2 ≤ 900) {v : Value} (h : kd_bv n v = true) : kv_v (kd_y G n m2 ad2) v = kv_v G v := by
  cases v <;> first | rfl | skip
  rename_i k
  have h3 : k < n ∨ k = 900 := by simpa [kd_bv] using h
  show Value.ref (kv_ad (kd_y G n m2 ad2) k) = Value.ref (kv_ad G k)
  rcases h3 with q | q
  · rw [kd_y_lt q]
  · subst q; rw [kd_y_ge (by omega) (by omega)]
theorem kd_join {G : kv_G} {ws : List kd_E} {e2 : kd_E} {w2 : List kd_E} {k t : Nat} {ad2 : Nat → Nat} {H H1 : Heap} {A : Nat → Prop} (hk : k < ws.length) (ht : t < ws.length ∨ t = 900) (hn : ws.length + (w2.length + 1) ≤ 900) (hws : ws.all (kd_bd ws.length) = true) (hw2 : (e2 :: w2).all (kd_bd (w2.length + 1)) = true) (h0 : ad2 0 = kv_ad G k) (h9 : ad2 900 = kv_ad G t)
    (hP : va_P G.2.2.1 kv_cl (kd_w G ws) H) (hD : va_D A (kd_w G ws)) (hA : ∀ q, H.size ≤ q → A q) (hq : ∀ q : Nat, q < H.size → ¬ kd_A (kv_ad G k) H.size q → H1[q]? = H[q]?) (hP2 : va_P G.2.2.1 kv_cl (kd_w (G.1, G.2.1, G.2.2.1, ad2) (e2 :: w2)) H1) (hD2 : va_D (kd_A (kv_ad G k) H.size) (kd_w (G.1, G.2.1, G.2.2.1, ad2) (e2 :: w2))) :
    va_P G.2.2.1 kv_cl (kd_w (kd_y G ws.length (w2.length + 1) ad2) (kd_em ws (e2 :: w2) k t)) H1 ∧ va_D A (kd_w (kd_y G ws.length (w2.length + 1) ad2) (kd_em ws (e2 :: w2) k t)) := by
  have hr : ∀ i, i < w2.length + 1 ∨ i = 900 → kv_ad (kd_y G ws.length (w2.length + 1) ad2) (kd_r k ws.length t i) = kv_ad (G.1, G.2.1, G.2.2.1, ad2) i := by
    intro i hi
    show _ = ad2 i
    unfold kd_r
    by_cases e0 : i = 0
    · subst e0
      rw [if_pos rfl, kd_y_lt hk]; exact h0.symm
    · by_cases e9 : i = 900
      · subst e9
        rw [if_neg (by omega), if_pos rfl, h9]
        rcases ht with q | q
        · exact kd_y_lt q
        · subst q; exact kd_y_ge (by omega) (by omega)
      · rw [if_neg e0, if_neg e9]
        exact kd_y_in (by omega) (by omega)
  have rn : ∀ e ∈ e2 :: w2, kd_m (kd_y G ws.length (w2.length + 1) ad2) (kd_rn (kd_r k ws.length t) e) = kd_m (G.1, G.2.1, G.2.2.1, ad2) e := fun e he => kd_m_rn (G := kd_y G ws.length (w2.length + 1) ad2) (G2 := (G.1, G.2.1, G.2.2.1, ad2)) (r := kd_r k ws.length t) ⟨rfl, rfl⟩ hr (List.all_eq_true.mp hw2 e he)
  -- what stands at a place
  have key : ∀ (i : Nat) (q : Nat × va_E), (kd_w (kd_y G ws.length (w2.length + 1) ad2) (kd_em ws (e2 :: w2) k t))[i]? = some q → (i < ws.length ∧ i ≠ k ∧ (kd_w G ws)[i]? = some q) ∨ (i = k ∧ (kd_w (G.1, G.2.1, G.2.2.1, ad2) (e2 :: w2))[0]? = some q) ∨ (ws.length ≤ i ∧ (kd_w (G.1, G.2.1, G.2.2.1, ad2) (e2 :: w2))[i - ws.length + 1]? = some q) := by
    intro i q hi
    obtain ⟨e, he, rfl⟩ := kd_w_of hi
    unfold kd_em at he
    have hl : (ws.set k (kd_rn (kd_r k ws.length t) e2)).length = ws.length := List.length_set
    by_cases h1 : i < ws.length
    · rw [List.getElem?_append_left (by rw [hl]; exact h1)] at he
      by_cases h2 : i = k
      · subst h2
        rw [List.getElem?_set_self hk] at he
        cases he
        refine Or.inr (Or.inl ⟨rfl, ?_⟩)
        rw [kd_w_at (e := e2) rfl, rn e2 List.mem_cons_self, kd_y_lt hk]
        show some (ad2 0, _) = _
        rw [h0]
      · rw [List.getElem?_set_ne (fun z => h2 z.symm)] at he
        refine Or.inl ⟨h1, h2, ?_⟩
        rw [kd_w_at he, kd_m_y (by omega) (List.all_eq_true.mp hws e (List.mem_of_getElem? he)), kd_y_lt h1]
    · rw [List.getElem?_append_right (by rw [hl]; omega), hl, List.getElem?_map] at he
      cases hx : w2[i - ws.length]? with
      | none => rw [hx] at he; cases he
      | some x =>
        rw [hx] at he
        cases he
        refine Or.inr (Or.inr ⟨by omega, ?_⟩)
        have hlt := (List.getElem?_eq_some_iff.mp hx).1
        rw [kd_w_at (e := x) (by rw [List.getElem?_cons_succ]; exact hx), rn x (List.mem_cons_of_mem _ (List.mem_of_getElem? hx))]
        have e5 := kd_y_in (G := G) (n := ws.length) (m2 := w2.length + 1) (ad2 := ad2) (i := i - ws.length + 1) (by omega) (by omega)
        rw [show ws.length + (i - ws.length + 1) - 1 = i by omega] at e5
        rw [e5]
        rfl
  have lt1 : ∀ (i : Nat) (q : Nat × va_E), (kd_w G ws)[i]? = some q → q.1 < H.size := fun i q h => (hP i q h).lt
  have ak : ∀ (i : Nat) (q : Nat × va_E), i ≠ k → (kd_w G ws)[i]? = some q → q.1 ≠ kv_ad G k := by
    intro i q hi h z
    obtain ⟨ek, hek⟩ : ∃ ek, ws[k]? = some ek := ⟨_, List.getElem?_eq_getElem hk⟩
    exact hi (hD.1 i k q _ h (kd_w_at hek) z)
  have a2 : ∀ (j : Nat) (q : Nat × va_E), 1 ≤ j → (kd_w (G.1, G.2.1, G.2.2.1, ad2) (e2 :: w2))[j]? = some q → H.size ≤ q.1 := by
    intro j q hj h
    rcases hD2.2 j q h with z | z
    · have e0 : (kd_w (G.1, G.2.1, G.2.2.1, ad2) (e2 :: w2))[0]? = some (kv_ad G k, kd_m (G.1, G.2.1, G.2.2.1, ad2) e2) := by
        rw [kd_w_at (e := e2) rfl]
        show some (ad2 0, _) = _
        rw [h0]
      have := hD2.1 j 0 q _ h e0 z
      omega
    · exact z
  refine ⟨fun i q hi => ?_, ⟨fun i j x y hi hj e => ?_, fun i q hi => ?_⟩⟩
  · rcases key i q hi with ⟨h1, h2, h3⟩ | ⟨h1, h2⟩ | ⟨h1, h2⟩
    · exact (hP i q h3).kept (hq q.1 (lt1 i q h3) (fun z => by
        rcases z with z | z
        · exact ak i q h2 h3 z
        · have := lt1 i q h3
          omega))
    · exact hP2 0 q h2
    · exact hP2 _ q h2
  · rcases key i x hi with ⟨h1, h2, h3⟩ | ⟨h1, h2⟩ | ⟨h1, h2⟩ <;> rcases key j y hj with ⟨g1, g2, g3⟩ | ⟨g1, g2⟩ | ⟨g1, g2⟩
    · exact hD.1 i j x y h3 g3 e
    · exfalso
      refine ak i x h2 h3 ?_
      obtain ⟨e5, he5, rfl⟩ := kd_w_of g2
      rw [e]
      exact h0
    · exfalso
      have q1 := lt1 i x h3
      have q2 := a2 _ y (by omega) g2
      omega
    · exfalso
      refine ak j y g2 g3 ?_
      obtain ⟨e5, he5, rfl⟩ := kd_w_of h2
      rw [← e]
      exact h0
    · omega
    · have := hD2.1 _ _ x y h2 g2 e
      omega
    · exfalso
      have q1 := lt1 j y g3
      have q2 := a2 _ x (by omega) h2
      omega
    · have := hD2.1 _ _ x y h2 g2 e
      omega
    · have := hD2.1 _ _ x y h2 g2 e
      omega
  · rcases key i q hi with ⟨h1, h2, h3⟩ | ⟨h1, h2⟩ | ⟨h1, h2⟩
    · exact hD.2 i q h3
    · obtain ⟨ek, hek⟩ : ∃ ek, ws[k]? = some ek := ⟨_, List.getElem?_eq_getElem hk⟩
      have := hD.2 k _ (kd_w_at hek)
      obtain ⟨e5, he5, rfl⟩ := kd_w_of h2
      show A (ad2 0)
      rw [h0]
      exact this
    · exact hA _ (a2 _ q (by omega) h2)
/-- a constructor is called -/
def kd_CI (own : String) (idx : Nat) (K2 : kv_K) (n : Nat) : Prop := K2.1.name = "<init>" ∧ K2.2.2.2.1 = none ∧ Cond.instanceMethod K2.1 ∈ kv_T ∧ kv_cw own idx K2 n ∧ ((∃ host : String, Cond.methodLinkNest own idx K2.1 host ∈ kv_N) ∨ Cond.methodLink own idx K2.1 ∈ kv_T)
theorem kd_blind {G : kv_G} {As : List Value} {w0 : List kd_E} {sz : Nat} : FrameBlind (kd_Pc G As w0 sz) := by
  intro a U g mk q
  obtain ⟨q0, q1, q2, q3, q4⟩ := q
  exact ⟨q0, q1, va_K.moved (u := U) (U := U.calling g mk a) (Vm.Alike.refl U.vm) q2, kd_W.same (s := U) (U := U.calling g mk a) rfl q3, q4⟩
theorem kd_room {d d2 n mc ms m1 s1 : Nat} (hd : d2 + 1 ≤ d) (hn : n ≤ 20) : (kd_rm d2 m1 s1).frames + 1 ≤ (kd_rm d mc ms).frames ∧ 8 + (n + 11) + (kd_rm d2 m1 s1).locals ≤ (kd_rm d mc ms).locals := by
  unfold kd_rm
  dsimp only
  omega
theorem kd_call {K2 : kv_K} {idx k t : Nat} {As As2 : List Value} {e0 e2 : kd_E} {w2 : List kd_E} {m1 s1 : Nat} {sk : List Value} {ws' : List kd_E} (hd : kv_d K pc (.invokespecial idx) 3 pc') (hc : kd_CI K.1.cls idx K2 As.length) (hm : kd_M K2 (.ref 0 :: As2) [e0] (e2 :: w2) m1 s1)
    (hs : ws[k]? = some e0) (he0 : kd_fr 0 e0 = true ∧ kd_bd 0 e0 = true ∧ kd_fr 900 e0 = true) (ht : t < ws.length ∨ t = 900) (hA2 : As2.map (kd_rv (kd_r k ws.length t)) = As) (hB2 : As2.all (kd_bv 0) = true) (hn : ws.length + (w2.length + 1) ≤ 900) (h0n : 0 < ws.length) (hws : ws.all (kd_bd ws.length) = true) (hw2 : (e2 :: w2).all (kd_bd (w2.length + 1)) = true) (hls : ls.all (fun v => match v with | some v => kd_bv ws.length v | none => true) = true) (hst : st.all (kd_bv ws.length) = true)
    (hdep : K2.2.2.2.2 + 1 ≤ K.2.2.2.2) (hsk : sk = As.reverse ++ .ref k :: st) (hw : (st.map fun v => v.category).sum ≤ 8) (hcn : cn + m1 ≤ mc) (hsn : sn + s1 ≤ ms) (hem : kd_em ws (e2 :: w2) k t = ws') (kk : kd_S K pc' ls st ws' (cn + m1) (sn + s1) wR mc ms) : kd_S K pc ls sk ws cn sn wR mc ms := by
  subst hem
  obtain ⟨h1, rfl⟩ := hd
  obtain ⟨c1, c1b, c2, ⟨c3, c4, c5, c6⟩, c7⟩ := hc
  have hk : k < ws.length := (List.getElem?_eq_some_iff.mp hs).1
  intro p l e s m args below meth c H locs la G A a0 a9 C h0 h9 hA hP hD hS hL
  have hst2 : sk.map (kv_v G) = (As.map (kv_v G)).reverse ++ .ref (kv_ad G k) :: st.map (kv_v G) := by rw [hsk, List.map_append, List.map_reverse]; rfl
  rw [hst2]
  -- the callee's own numbers
  obtain ⟨G2, hG2⟩ : ∃ G2 : kv_G, G2 = (G.1, G.2.1, G.2.2.1, fun i => if i = 0 then kv_ad G k else kv_ad G t) := ⟨_, rfl⟩
  have g0 : kv_ad G2 0 = kv_ad G k := by rw [hG2]; rfl
  have g9 : kv_ad G2 900 = kv_ad G t := by rw [hG2]; rfl
  have eAs : (Value.ref 0 :: As2).map (kv_v G2) = .ref (kv_ad G k) :: As.map (kv_v G) := by
    rw [List.map_cons, ← hA2, List.map_map]
    congr 1
    · show Value.ref (kv_ad G2 0) = _
      rw [g0]
    · refine List.map_congr_left (fun v hv => ?_)
      have h2 := List.all_eq_true.mp hB2 v hv
      cases v <;> first | rfl | skip
      rename_i i
      have h3 : i = 900 := by simpa [kd_bv] using h2
      subst h3
      show Value.ref (kv_ad G2 900) = Value.ref (kv_ad G (kd_r k ws.length t 900))
      rw [g9]
      rfl
  have em : kd_m G2 e0 = kd_m G e0 := by
    have h2 := kd_m_rn (G := G) (G2 := G2) (by rw [hG2]; exact ⟨rfl, rfl⟩) (r := fun _ => t) (m2 := 0) (fun i hi => by
      have : i = 900 := by omega
      subst this
      exact g9.symm) he0.2.1
    have h3 : kd_rn (fun _ => t) e0 = e0 := by
      rcases e0 with ⟨a, f⟩ | ⟨c, L⟩ | ⟨ci, fs⟩
      · rfl
      · show (.inr (.inl (c, L.map (Option.map _))) : kd_E) = _
        have : L.map (Option.map fun _ => t) = L := by
          conv => rhs; rw [← List.map_id L]
          refine List.map_congr_left (fun x hx => ?_)
          have q1 := List.all_eq_true.mp he0.2.1 x hx
          have q2 := List.all_eq_true.mp he0.2.2 x hx
          cases x with
          | none => rfl
          | some y => simp at q1 q2; omega
        rw [this]
      · show (.inr (.inr (ci, fs.map (kd_rv _))) : kd_E) = _
        have : fs.map (kd_rv fun _ => t) = fs := by
          conv => rhs; rw [← List.map_id fs]
          refine List.map_congr_left (fun x hx => ?_)
          have q1 := List.all_eq_true.mp he0.2.1 x hx
          have q2 := List.all_eq_true.mp he0.2.2 x hx
          cases x <;> first | rfl | skip
          rename_i y
          have z1 : y = 900 := by simpa [kd_bv] using q1
          have z2 : ¬ y = 900 := by simpa [kd_fv] using q2
          exact absurd z1 z2
        rw [this]
    rw [h3] at h2
    exact h2.symm
  have ew : kd_w G2 [e0] = [(kv_ad G k, kd_m G e0)] := by
    show [(kv_ad G2 0, kd_m G2 e0)] = _
    rw [g0, em]
  have hD2e : G2.2.2.1 = G.2.2.1 := by rw [hG2]
  have hty : kv_ty G2 = kv_ty G := by rw [hG2]; rfl
  have hpre : ∀ U : State, U.heap = H → s.WarmedH U.vm → kd_Pc G2 (.ref 0 :: As2) [e0] H.size (Value.ref (kv_ad G k) :: As.map (kv_v G)).toArray U := by
    intro U hU hW
    refine ⟨by rw [eAs], by rw [hU], ?_, C.2.2.2.2.2.2.2.2.2.warm hW, ?_, ?_⟩
    · rw [hD2e, hty]; exact va_K.moved hW.alike C.2.2.2.2.2.2.2.2.1
    · rw [ew, hU, hD2e]
      intro i q hi
      have hz : i < 1 := (List.getElem?_eq_some_iff.mp hi).1
      rw [show i = 0 by omega] at hi
      cases hi
      exact hP k _ (kd_w_at hs)
    · rw [ew]
      refine ⟨fun i j x y hi hj _ => ?_, fun _ _ _ => trivial⟩
      have hz : i < 1 := (List.getElem?_eq_some_iff.mp hi).1
      have hz2 : j < 1 := (List.getElem?_eq_some_iff.mp hj).1
      omega
  have hMet := hm l G2 H.size
  rw [g0, g9] at hMet
  have hrun : va_Run p l e (kd_rm K.2.2.2.2 mc ms) s m args below meth c H locs cn sn m1 s1 (F0 m pc la ((As.map (kv_v G)).reverse ++ .ref (kv_ad G k) :: st.map (kv_v G))) (st.map (kv_v G)) (kd_Q G2 (kv_ad G k) (kv_ad G t) (e2 :: w2) (kd_A (kv_ad G k) H.size) (Value.ref (kv_ad G k) :: As.map (kv_v G)).toArray) (kd_A (kv_ad G k) H.size) := by
    have hgood : GoodIn kv_T (Cond.code K2.1 K2.2.1 K2.2.2.1 none :: kv_T) := kv_goodIn (fun w hw => by
      rcases List.mem_cons.mp hw with rfl | q
      · rw [← c1b]; exact c4
      · exact q)
    rw [c1b] at hMet
    rcases c7 with ⟨host, c7⟩ | c7
    · have hcw := va_cnB (R := kd_rm K.2.2.2.2 mc ms) (s := s) (args := args) (own := K.1.cls) (index := idx) (host := host) (y := K2.1) (bytes := K2.2.1) (maxL := K2.2.2.1) (ret := none) (ws := Cond.code K2.1 K2.2.1 K2.2.2.1 none :: kv_T) (rm := kd_rm K2.2.2.2.2 m1 s1) (mc := m1) (ms := s1) As.length C.2.2.2.2.1 hgood rfl rfl rfl (C.2.2.2.2.2.2.2.2.2.1 _ c7) (C.2.2.2.2.1 _ c3) c5 (kd_room hdep c6)
      exact va_runIN (As := As.map (kv_v G)) (rest := st.map (kv_v G)) (b := kv_ad G k) ⟨C.1, C.2.1, C.2.2.1, C.2.2.2.1, C.2.2.2.2.1⟩ hMet ⟨hcw, c1, C.2.2.2.2.1 _ c2⟩ ⟨kd_blind, hpre⟩ rfl (by rw [List.length_map]) hL.1 rfl (lv_room (by rw [kv_wcat]; exact hw)) h1 ⟨hcn, hsn⟩
    · have hcw := cwI (R := kd_rm K.2.2.2.2 mc ms) (s := s) (args := args) (own := K.1.cls) (index := idx) (y := K2.1) (bytes := K2.2.1) (maxL := K2.2.2.1) (ws := Cond.code K2.1 K2.2.1 K2.2.2.1 none :: kv_T) (rm := kd_rm K2.2.2.2.2 m1 s1) (mc := m1) (ms := s1) As.length C.2.2.2.2.1 hgood rfl rfl rfl (C.2.2.2.2.1 _ c3) (C.2.2.2.2.1 _ c7) (C.2.2.2.2.1 _ c2) c1 c5 (kd_room hdep c6)
      exact va_runI (As := As.map (kv_v G)) (rest := st.map (kv_v G)) (b := kv_ad G k) ⟨C.1, C.2.1, C.2.2.1, C.2.2.2.1, C.2.2.2.2.1⟩ hMet hcw ⟨kd_blind, hpre⟩ rfl (by rw [List.length_map]) hL.1 rfl (lv_room (by rw [kv_wcat]; exact hw)) h1 ⟨hcn, hsn⟩
  intro T hT X
  obtain ⟨v, st₀, t2, T', L, hh0, X', hLL, e1, e2', ⟨hv, ⟨ad2, b0, b9, hP2, hD2⟩, hz, hkk⟩, sts⟩ := hrun T hT X
  cases hv
  rw [hh0] at hz hkk
  have hAA : ∀ q, H.size ≤ q → A q := fun q hq => hA q (Nat.le_trans hS.1 hq)
  have hPP2 : va_P G.2.2.1 kv_cl (kd_w (G.1, G.2.1, G.2.2.1, ad2) (e2 :: w2)) T'.heap := by
    rw [e1]
    rw [hG2] at hP2
    exact hP2
  have hDD2 : va_D (kd_A (kv_ad G k) H.size) (kd_w (G.1, G.2.1, G.2.2.1, ad2) (e2 :: w2)) := by
    rw [hG2] at hD2
    exact hD2
  obtain ⟨hPn, hDn⟩ := kd_join hk ht hn hws hw2 b0 b9 hP hD hAA (fun q q1 q2 => by rw [e1]; exact hkk q q1 q2) hPP2 hDD2
  have hAk : A (kv_ad G k) := hD.2 k _ (kd_w_at hs)
  have hAsub : ∀ q, kd_A (kv_ad G k) H.size q → A q := fun q z => by
    rcases z with z | z
    · rw [z]; exact hAk
    · exact hAA q z
  have hLn : kv_L (kd_y G ws.length (w2.length + 1) ad2) K.2.2.1 ls la := by
    refine ⟨hL.1, hL.2.1, fun x hx => ?_⟩
    obtain ⟨j, v, q1, q2⟩ := kv_prs_mem.mp hx
    have h3 := List.all_eq_true.mp hls _ (List.mem_of_getElem? q1)
    rw [q2]
    show la[0 + j]? = some (.val (kv_v (kd_y G ws.length (w2.length + 1) ad2) v))
    rw [kd_v_y (by omega) h3, Nat.zero_add]
    exact kv_L_at hL q1
  have hstn : st.map (kv_v (kd_y G ws.length (w2.length + 1) ad2)) = st.map (kv_v G) := List.map_congr_left (fun v hv => kd_v_y (by omega) (List.all_eq_true.mp hst v hv))
  have q5 := kk p l e s m args below meth c T'.heap (locs ++ L) la (kd_y G ws.length (w2.length + 1) ad2) A a0 a9 C (by rw [kd_y_lt h0n]; exact h0) (by rw [kd_y_ge (by omega) (by omega)]; exact h9) hA hPn hDn
    ⟨Nat.le_trans hS.1 (by rw [e1]; exact hz), fun q q1 q2 => by rw [e1, hkk q (Nat.lt_of_lt_of_le q1 hS.1) (fun z => q2 (hAsub q z))]; exact hS.2.1 q q1 q2, fun q hq => by
      rcases List.mem_append.mp hq with h | h
      · exact hS.2.2 q h
      · exact hAsub _ (hLL q h)⟩ hLn
  rw [hstn] at q5
  obtain ⟨t3, a1, b1⟩ := q5 T' rfl X'
  exact ⟨t3, sts t3 a1, b1⟩
end KF

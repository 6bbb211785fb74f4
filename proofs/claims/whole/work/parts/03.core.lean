/-! The small machine. Cells have numbers (ids), kv_sh tells each cell's shape, kv_H its ints; ids become addresses by G. kv_S K pc ls st h R: from pc with the locals ls, the stack st and the ints h the method comes to its return with what R says (nothing is said where R is none). -/
abbrev kv_H : Type := Nat → Nat → Int32
abbrev kv_D : Type := (Nat × Option (Nat × Nat × Nat)) ⊕ (Nat × List (Option Nat))
abbrev kv_G : Type := ClassId × (Nat → ClassId) × va_G × (Nat → Nat)
/-- method, its bytes, its locals, its answer's type, how deep it calls -/
abbrev kv_K : Type := MethodName × ByteArray × Nat × Option FieldType × Nat
def kv_T : List Cond := lw_tbl.filter goodWord
theorem kv_T_mem {w : Cond} (h : w ∈ lw_tbl) (hg : goodWord w = true) : w ∈ kv_T := List.mem_filter.mpr ⟨h, hg⟩
theorem kv_T_at {w : Cond} (i : Nat) (h : lw_tbl[i]? = some w) (hg : goodWord w = true) : w ∈ kv_T := kv_T_mem (List.mem_of_getElem? h) hg
theorem kv_T_good : ∀ w ∈ kv_T, goodWord w = true := fun _ h => (List.mem_filter.mp h).2
theorem kv_goodIn {ws : List Cond} (h : ∀ w ∈ ws, w ∈ kv_T) : GoodIn kv_T ws := fun w hw => ⟨h w hw, good_of_word (kv_T_good w (h w hw))⟩
def kv_cl : List vw_C := [(RX0, TX0, 8), (RX1, TX1, 9), (RX2, TX2, 4), (RX3, TX3, 3), (RX4, TX4, 7), (RX5, TX5, 10), (RX6, TX6, 4), (RX7, TX7, 3), (RX8, TX8, 10), (RX9, TX9, 12), (RX10, TX10, 38)]
def kv_sh : List kv_D := [
  .inr (9, [some 47, some 79, some 95, some 41, some 44, some 1, some 2, some 3, some 4, some 5, none, none]),
  .inl (3, some (0, 6, 4)),
  .inl (2, none),
  .inl (4, some (3, 18, 2)),
  .inl (5, some (4, 26, 3)),
  .inl (60, none),
  .inr (0, [some 7, some 8, some 9, none, none, none, none, none]),
  .inl (8, none),
  .inl (8, none),
  .inl (8, none),
  .inr (0, [some 11, some 12, some 13, none, none, none, none, none]),
  .inl (8, none),
  .inl (8, none),
  .inl (8, none),
  .inr (0, [some 15, some 16, some 17, none, none, none, none, none]),
  .inl (8, none),
  .inl (8, none),
  .inl (8, none),
  .inr (3, [some 19, none, none]),
  .inl (24, none),
  .inr (3, [some 21, none, none]),
  .inl (24, none),
  .inr (3, [some 23, none, none]),
  .inl (24, none),
  .inr (3, [some 25, none, none]),
  .inl (24, none),
  .inr (4, [some 27, none, none, none, none, none, none]),
  .inr (3, [some 28, none, none]),
  .inl (24, none),
  .inr (4, [some 30, none, none, none, none, none, none]),
  .inr (3, [some 31, none, none]),
  .inl (24, none),
  .inr (4, [some 33, none, none, none, none, none, none]),
  .inr (3, [some 34, none, none]),
  .inl (24, none),
  .inr (4, [some 36, none, none, none, none, none, none]),
  .inr (3, [some 37, none, none]),
  .inl (24, none),
  .inr (4, [some 39, none, none, none, none, none, none]),
  .inr (3, [some 40, none, none]),
  .inl (24, none),
  .inr (5, [some 42, none, some 43, none, none, none, none, none, none, none]),
  .inl (96, none),
  .inl (96, none),
  .inr (2, [some 45, some 46, none, none]),
  .inl (256, none),
  .inl (256, none),
  .inr (7, [some 48, some 49, some 50]),
  .inl (14, some (6, 51, 2)),
  .inl (96, none),
  .inl (4, none),
  .inr (6, [some 52, none, none, none]),
  .inl (96, none),
  .inr (6, [some 54, none, none, none]),
  .inl (96, none),
  .inr (6, [some 56, none, none, none]),
  .inl (96, none),
  .inr (6, [some 58, none, none, none]),
  .inl (96, none),
  .inr (6, [some 60, none, none, none]),
  .inl (96, none),
  .inr (6, [some 62, none, none, none]),
  .inl (96, none),
  .inr (6, [some 64, none, none, none]),
  .inl (96, none),
  .inr (6, [some 66, none, none, none]),
  .inl (96, none),
  .inr (6, [some 68, none, none, none]),
  .inl (96, none),
  .inr (6, [some 70, none, none, none]),
  .inl (96, none),
  .inr (6, [some 72, none, none, none]),
  .inl (96, none),
  .inr (6, [some 74, none, none, none]),
  .inl (96, none),
  .inr (6, [some 76, none, none, none]),
  .inl (96, none),
  .inr (6, [some 78, none, none, none]),
  .inl (96, none),
  .inr (8, [some 47, some 82, some 91, some 80, some 81, none, none, none, none, none]),
  .inl (24, none),
  .inl (3, none),
  .inr (1, [some 83, some 84, some 85, some 86, some 87, some 88, some 89, some 90, none]),
  .inl (8, none),
  .inl (8, none),
  .inl (8, none),
  .inl (8, none),
  .inl (8, none),
  .inl (8, none),
  .inl (8, none),
  .inl (8, none),
  .inr (0, [some 92, some 93, some 94, none, none, none, none, none]),
  .inl (8, none),
  .inl (8, none),
  .inl (8, none),
  .inr (8, [some 47, some 98, some 107, some 96, some 97, none, none, none, none, none]),
  .inl (24, none),
  .inl (3, none),
  .inr (1, [some 99, some 100, some 101, some 102, some 103, some 104, some 105, some 106, none]),
  .inl (8, none),
  .inl (8, none),
  .inl (8, none),
  .inl (8, none),
  .inl (8, none),
  .inl (8, none),
  .inl (8, none),
  .inl (8, none),
  .inr (0, [some 108, some 109, some 110, none, none, none, none, none]),
  .inl (8, none),
  .inl (8, none),
  .inl (8, none),
  .inr (10, [some 112, some 113, some 114, none, some 115, some 116, some 117, some 118, some 119, some 120, some 121, some 122, some 123, some 124, some 125, some 126, some 127, some 128, some 129, none, some 130, none, none, none, none, none, none, none, none, none, none, none, some 131, some 132, some 133, some 134, none, some 135]),
  .inl (3098, none),
  .inl (3098, none),
  .inl (3098, none),
  .inl (4, none),
  .inl (4, none),
  .inl (96, none),
  .inl (5, none),
  .inl (5, none),
  .inl (5, none),
  .inl (5, none),
  .inl (120, none),
  .inl (8, none),
  .inl (8, none),
  .inl (256, none),
  .inl (98, none),
  .inl (24, none),
  .inl (256, none),
  .inl (256, none),
  .inl (96, none),
  .inl (128, none),
  .inl (100, none),
  .inl (24, none),
  .inl (60, none),
  .inl (60, none)]
def kv_n : Nat := 136
theorem kv_sh_len : kv_sh.length = kv_n := by decide +kernel
def kv_ad (G : kv_G) : Nat → Nat := G.2.2.2
def kv_v (G : kv_G) (v : Value) : Value := match v with
  | .ref k => .ref (kv_ad G k)
  | v => v
theorem kv_v_cat (G : kv_G) (v : Value) : (kv_v G v).category = v.category := by cases v <;> rfl
def kv_f (G : kv_G) (h : kv_H) (k j : Nat) (f : Option Nat) : Value := match f with
  | none => .int (h k j)
  | some q => .ref (kv_ad G q)
def kv_e (G : kv_G) (h : kv_H) (k : Nat) (d : kv_D) : va_E := match d with
  | .inl (n, none) => .inl (G.1, n, .inl (h k))
  | .inl (n, some (c, b, t)) => .inl (G.2.1 c, n, .inr (.inr (.inr (.inr (fun j => some (kv_ad G (b + t * j)))))))
  | .inr (c, fs) => .inr (c, fs.mapIdx (kv_f G h k))
def kv_w (G : kv_G) (h : kv_H) : va_W := kv_sh.mapIdx (fun k d => (kv_ad G k, kv_e G h k d))
theorem kv_w_at {G : kv_G} {h : kv_H} {k : Nat} {d : kv_D} (hk : kv_sh[k]? = some d) : (kv_w G h)[k]? = some (kv_ad G k, kv_e G h k d) := by
  unfold kv_w; rw [List.getElem?_mapIdx, hk]; rfl
def kv_up (h : kv_H) (k j : Nat) (v : Int32) : kv_H := fun a b => if a = k then (if b = j then v else h a b) else h a b
/-- a whole row of ints anew -/
def kv_row (h : kv_H) (k : Nat) (f : Nat → Int32) : kv_H := fun a => if a = k then f else h a
def kv_A (G : kv_G) : Nat → Prop := fun q => ∃ k, k < kv_n ∧ q = kv_ad G k
def kv_J (G : kv_G) : Prop := ∀ i j, i < kv_n → j < kv_n → kv_ad G i = kv_ad G j → i = j
theorem kv_lt {k : Nat} {d : kv_D} (hk : kv_sh[k]? = some d) : k < kv_n := by rw [← kv_sh_len]; exact (List.getElem?_eq_some_iff.mp hk).1
theorem kv_w_of {G : kv_G} {h : kv_H} {k : Nat} {q : Nat × va_E} (hk : (kv_w G h)[k]? = some q) : k < kv_n ∧ q.1 = kv_ad G k := by
  unfold kv_w at hk
  rw [List.getElem?_mapIdx] at hk
  cases hs : kv_sh[k]? with
  | none => rw [hs] at hk; cases hk
  | some d => rw [hs] at hk; cases hk; exact ⟨kv_lt hs, rfl⟩
theorem kv_wD {G : kv_G} (hJ : kv_J G) (h : kv_H) : va_D (kv_A G) (kv_w G h) := by
  refine ⟨fun i j x y hi hj e => ?_, fun k q hk => ?_⟩
  · obtain ⟨a1, a2⟩ := kv_w_of hi
    obtain ⟨b1, b2⟩ := kv_w_of hj
    exact hJ i j a1 b1 (by rw [← a2, ← b2]; exact e)
  · obtain ⟨a1, a2⟩ := kv_w_of hk
    exact ⟨k, a1, a2⟩
/-- a cell changed: the world of the changed ints -/
theorem kv_w_set {G : kv_G} {h h' : kv_H} {k : Nat} {d : kv_D} (hk : kv_sh[k]? = some d) (hh : ∀ a, a ≠ k → h' a = h a) : (kv_w G h).set k (kv_ad G k, kv_e G h' k d) = kv_w G h' := by
  apply List.ext_getElem?
  intro i
  have hl : k < (kv_w G h).length := by unfold kv_w; rw [List.length_mapIdx, kv_sh_len]; exact kv_lt hk
  by_cases e : i = k
  · subst e
    rw [List.getElem?_set_self hl, kv_w_at hk]
  · rw [List.getElem?_set_ne (fun z => e z.symm)]
    unfold kv_w
    rw [List.getElem?_mapIdx, List.getElem?_mapIdx]
    cases hs : kv_sh[i]? with
    | none => rfl
    | some d2 =>
      have e1 : kv_e G h i d2 = kv_e G h' i d2 := by
        have q := hh i e
        rcases d2 with ⟨n, _ | ⟨c, b, t⟩⟩ | ⟨c, fs⟩
        · show (.inl (G.1, n, .inl (h i)) : va_E) = .inl (G.1, n, .inl (h' i))
          rw [q]
        · rfl
        · show (.inr (c, fs.mapIdx (kv_f G h i)) : va_E) = .inr (c, fs.mapIdx (kv_f G h' i))
          have q2 : kv_f G h i = kv_f G h' i := by funext j f; cases f with
            | none => show Value.int (h i j) = Value.int (h' i j); rw [q]
            | some _ => rfl
          rw [q2]
      show some (kv_ad G i, kv_e G h i d2) = some (kv_ad G i, kv_e G h' i d2)
      rw [e1]
theorem kv_up_off (h : kv_H) (k j : Nat) (v : Int32) : ∀ a, a ≠ k → kv_up h k j v a = h a := fun a e => by funext b; simp [kv_up, e]
theorem kv_row_off (h : kv_H) (k : Nat) (f : Nat → Int32) : ∀ a, a ≠ k → kv_row h k f a = h a := fun a e => by simp [kv_row, e]
theorem kv_up_at (h : kv_H) (k j : Nat) (v : Int32) : kv_up h k j v k = upd (h k) j v := by funext b; simp [kv_up, upd]
theorem kv_row_at (h : kv_H) (k : Nat) (f : Nat → Int32) : kv_row h k f k = f := by simp [kv_row]
/-- static facts -/
def kv_ka : List Int32 := [-1, 0, 0, 1, 2, 0]
def kv_ti : List Int32 := [0, 1, 2, 2, 2, 3, 3, 4, 4]

def kv_si : List Nat := [61, 67, 69, 79, 114, 116, 118]
def kv_sx : List String := ["room", "miss", "throw", "|&<=>+-*/", "sn", "lns", "atrn"]
def kv_sl : List Nat := [4, 4, 5, 9, 2, 3, 4]
def kv_sb : List (List Int32) := [[114, 111, 111, 109], [109, 105, 115, 115], [116, 104, 114, 111, 119], [124, 38, 60, 61, 62, 43, 45, 42, 47], [115, 110], [108, 110, 115], [97, 116, 114, 110]]
def kv_isN (w : Cond) : Bool := match w with
  | .methodLinkNest .. => true
  | .fieldLinkNest .. => true
  | _ => false
def kv_N : List Cond := lw_tbl.filter kv_isN
theorem kv_N_at {w : Cond} (i : Nat) (h : lw_tbl[i]? = some w) (hg : kv_isN w = true) : w ∈ kv_N := List.mem_filter.mpr ⟨List.mem_of_getElem? h, hg⟩
theorem kv_N_warm {w : Cond} {s U : State} (hn : w ∈ kv_N) (hW : s.WarmedH U.vm) (h : va_Nw w s) : va_Nw w U := by
  have q := (List.mem_filter.mp hn).2
  cases w <;> first | exact va_Nw.warmF hW h | exact va_Nw.warmM hW h | (simp [kv_isN] at q; done)
theorem kv_N_same {w : Cond} {s U : State} (hn : w ∈ kv_N) (hv : U.vm = s.vm) (h : va_Nw w s) : va_Nw w U := by
  have q := (List.mem_filter.mp hn).2
  cases w <;> first | exact va_Nw.same rfl hv.symm h | (simp [kv_isN] at q; done)
def kv_St (G : kv_G) (A : Nat → Prop) (U : State) (H : Heap) : Prop :=
  va_Z "KeptLeaves" "KIND_ABOVE" "[I" (.ref (kv_ad G 1000)) A U H ∧ va_T .int (kv_ad G 1000) 6 (fun j => .int (kv_ka.getD j 0)) A U H ∧
  va_Z "KeptLeaves" "TIGHTNESS" "[I" (.ref (kv_ad G 1001)) A U H ∧ va_T .int (kv_ad G 1001) 9 (fun j => .int (kv_ti.getD j 0)) A U H ∧
  va_Z "java/lang/String" "COMPACT_STRINGS" "Z" (.int 1) A U H ∧
  (va_Z "jdk/internal/util/Preconditions" "SIOOBE_FORMATTER" "Ljava/util/function/BiFunction;" .null A U H ∨ va_Z "jdk/internal/util/Preconditions" "SIOOBE_FORMATTER" "Ljava/util/function/BiFunction;" (.ref (kv_ad G 1002)) A U H) ∧
  vk_S 7 kv_sl kv_sb (fun i => kv_ad G (1010 + i)) (fun i => kv_ad G (1020 + i)) A U H ∧
  (∀ i, i < 7 → vk_R "KeptLeaves$Tape" (kv_si.getD i 0) (kv_sx.getD i "") (kv_ad G (1010 + i)) U) ∧ ∀ w ∈ kv_N, va_Nw w U
theorem kv_St.go {G : kv_G} {A : Nat → Prop} {s U : State} {H H1 : Heap} (h : kv_St G A s H) (hW : s.WarmedH U.vm) (hq : ∀ a : Nat, a < H.size → ¬ A a → H1[a]? = H[a]?) : kv_St G A U H1 := by
  obtain ⟨h1, h2, h3, h4, h5, h6, h7, h8, h9⟩ := h
  have hv := hW.alike
  exact ⟨(h1.moved hv).kept hq, (h2.moved hv).kept hq, (h3.moved hv).kept hq, (h4.moved hv).kept hq, (h5.moved hv).kept hq, h6.imp (fun z => (z.moved hv).kept hq) (fun z => (z.moved hv).kept hq), (h7.moved hv).kept hq, fun i hi => (h8 i hi).warm hW, fun w hw => kv_N_warm hw hW (h9 w hw)⟩
theorem kv_St.same {G : kv_G} {A : Nat → Prop} {s U : State} (h : kv_St G A s s.heap) (hv : U.vm = s.vm) (hh : U.heap = s.heap) : kv_St G A U U.heap := by
  obtain ⟨h1, h2, h3, h4, h5, h6, h7, h8, h9⟩ := h
  have ha : s.vm.Alike U.vm := by rw [hv]; exact Vm.Alike.refl _
  have hq : ∀ a : Nat, a < s.heap.size → ¬ A a → U.heap[a]? = s.heap[a]? := fun a _ _ => by rw [hh]
  exact ⟨(h1.moved ha).kept hq, (h2.moved ha).kept hq, (h3.moved ha).kept hq, (h4.moved ha).kept hq, (h5.moved ha).kept hq, h6.imp (fun z => (z.moved ha).kept hq) (fun z => (z.moved ha).kept hq), (h7.moved ha).kept hq, fun i hi => (h8 i hi).same hv, fun w hw => kv_N_same hw hv (h9 w hw)⟩
def kv_ty (G : kv_G) : List (ClassId × FieldType) := [(G.1, .int), (G.2.1 0, .object RX0), (G.2.1 3, .object RX3), (G.2.1 4, .object RX4), (G.2.1 6, .object RX6)]
def kv_rm (d : Nat) : Room := { frames := d, cells := 0, slots := 0, locals := 40 * d }
def kv_Q (G : kv_G) (r : Option Value) (h : kv_H) : Array Value → State → Outcome → State → Prop := fun _ st oc t => oc = .returned r ∧ va_P G.2.2.1 kv_cl (kv_w G h) t.heap ∧ va_F (kv_A G) st t
def kv_Pc (G : kv_G) (As : List Value) (h : kv_H) : Array Value → State → Prop := va_Pc (As.map (kv_v G)) (fun U => kv_J G ∧ va_K G.2.2.1 kv_cl (kv_ty G) U ∧ kv_St G (kv_A G) U U.heap ∧ va_P G.2.2.1 kv_cl (kv_w G h) U.heap)
/-- what stands about a method while it runs -/
def kv_C (K : kv_K) (G : kv_G) (p : Program) (s : State) (m : MethodId) (args : Array Value) (meth : Method) (c : Code) : Prop :=
  p.tables.exec = Jvm.exec ∧ c.code = K.2.1 ∧ c.maxLocals = K.2.2.1 ∧ s.vm.findClass K.1.cls = some m.cls ∧ (∀ w ∈ kv_T, w.before args s = true) ∧ meth.sig.returnType = K.2.2.2.1 ∧ meth.locks = false ∧ kv_J G ∧ va_K G.2.2.1 kv_cl (kv_ty G) s ∧ kv_St G (kv_A G) s s.heap
def kv_prs (G : kv_G) : Nat → List (Option Value) → List (Nat × Value)
  | _, [] => []
  | i, none :: t => kv_prs G (i + 1) t
  | i, some v :: t => (i, kv_v G v) :: kv_prs G (i + 1) t
theorem kv_prs_mem {G : kv_G} : ∀ {ls : List (Option Value)} {i : Nat} {q : Nat × Value}, q ∈ kv_prs G i ls ↔ ∃ j v, ls[j]? = some (some v) ∧ q = (i + j, kv_v G v)
  | [], i, q => by simp [kv_prs]
  | none :: t, i, q => by
    rw [kv_prs, kv_prs_mem]
    constructor
    · rintro ⟨j, v, h1, h2⟩
      exact ⟨j + 1, v, by simpa using h1, by rw [h2, Nat.add_assoc, Nat.add_comm 1 j]⟩
    · rintro ⟨j, v, h1, h2⟩
      cases j with
      | zero => simp at h1
      | succ j => exact ⟨j, v, by simpa using h1, by rw [h2, Nat.add_assoc, Nat.add_comm 1 j]⟩
  | some w :: t, i, q => by
    rw [kv_prs, List.mem_cons, kv_prs_mem]
    constructor
    · rintro (h | ⟨j, v, h1, h2⟩)
      · exact ⟨0, w, by simp, by simpa using h⟩
      · exact ⟨j + 1, v, by simpa using h1, by rw [h2, Nat.add_assoc, Nat.add_comm 1 j]⟩
    · rintro ⟨j, v, h1, h2⟩
      cases j with
      | zero => left; simp at h1; subst h1; simpa using h2
      | succ j => right; exact ⟨j, v, by simpa using h1, by rw [h2, Nat.add_assoc, Nat.add_comm 1 j]⟩
def kv_L (G : kv_G) (n : Nat) (ls : List (Option Value)) (la : Array Slot) : Prop := lv_has la n (kv_prs G 0 ls)
theorem kv_L_at {G : kv_G} {n : Nat} {ls : List (Option Value)} {la : Array Slot} (h : kv_L G n ls la) {i : Nat} {v : Value} (hi : ls[i]? = some (some v)) : la[i]? = some (.val (kv_v G v)) := h.2.2 (i, kv_v G v) (kv_prs_mem.mpr ⟨i, v, hi, by simp⟩)
theorem kv_L_mono {G : kv_G} {n : Nat} {ls ls' : List (Option Value)} {la : Array Slot} (h : kv_L G n ls la) (hs : ∀ (j : Nat) (v : Value), ls'[j]? = some (some v) → ls[j]? = some (some v)) : kv_L G n ls' la :=
  ⟨h.1, h.2.1, fun q hq => by obtain ⟨j, v, h1, h2⟩ := kv_prs_mem.mp hq; rw [h2]; simpa using kv_L_at h (hs j v h1)⟩
theorem kv_L_set1 {G : kv_G} {n : Nat} {ls : List (Option Value)} {la : Array Slot} {i : Nat} {x : Value} (h : lv_has la n ((i, kv_v G x) :: (kv_prs G 0 ls).filter (fun q => !(q.1 == i) && !(q.1 + 1 == i && q.2.category == 2)))) (hp : ∀ w, 0 < i → ls[i - 1]? = some (some w) → w.category = 1) : kv_L G n (ls.set i (some x)) la := by
  refine ⟨h.1, h.2.1, fun q hq => ?_⟩
  obtain ⟨j, v, h1, h2⟩ := kv_prs_mem.mp hq
  refine h.2.2 q ?_
  by_cases e : j = i
  · subst e
    have : v = x := by
      rw [List.getElem?_set] at h1
      split at h1
      · split at h1
        · cases h1; rfl
        · cases h1
      · contradiction
    subst this
    rw [h2]; simp
  · rw [List.getElem?_set_ne (fun z => e z.symm)] at h1
    refine List.mem_cons_of_mem _ (List.mem_filter.mpr ⟨kv_prs_mem.mpr ⟨j, v, h1, h2⟩, ?_⟩)
    rw [h2]
    simp only [Nat.zero_add, kv_v_cat]
    have e1 : (j == i) = false := by simpa using e
    rw [e1]
    by_cases e2 : j + 1 = i
    · have hc := hp v (by omega) (by rw [show i - 1 = j by omega]; exact h1)
      simp [hc]
    · simp [e2]
theorem kv_L_set2 {G : kv_G} {n : Nat} {ls : List (Option Value)} {la : Array Slot} {i : Nat} {x : Value} (h : lv_has la n ((i, kv_v G x) :: (kv_prs G 0 ls).filter (fun q => !(q.1 == i) && (!(q.1 == i + 1) && !(q.1 + 1 == i && q.2.category == 2))))) (hp : ∀ w, 0 < i → ls[i - 1]? = some (some w) → w.category = 1) : kv_L G n ((ls.set i (some x)).set (i + 1) none) la := by
  refine ⟨h.1, h.2.1, fun q hq => ?_⟩
  obtain ⟨j, v, h1, h2⟩ := kv_prs_mem.mp hq
  refine h.2.2 q ?_
  have e3 : j ≠ i + 1 := by
    intro e
    subst e
    rw [List.getElem?_set] at h1
    split at h1
    · split at h1 <;> cases h1
    · contradiction
  rw [List.getElem?_set_ne (fun z => e3 z.symm)] at h1
  by_cases e : j = i
  · subst e
    have : v = x := by
      rw [List.getElem?_set] at h1
      split at h1
      · split at h1
        · cases h1; rfl
        · cases h1
      · contradiction
    subst this
    rw [h2]; simp
  · rw [List.getElem?_set_ne (fun z => e z.symm)] at h1
    refine List.mem_cons_of_mem _ (List.mem_filter.mpr ⟨kv_prs_mem.mpr ⟨j, v, h1, h2⟩, ?_⟩)
    rw [h2]
    simp only [Nat.zero_add, kv_v_cat]
    have e1 : (j == i) = false := by simpa using e
    have e4 : (j == i + 1) = false := by simpa using e3
    rw [e1, e4]
    by_cases e2 : j + 1 = i
    · have hc := hp v (by omega) (by rw [show i - 1 = j by omega]; exact h1)
      simp [hc]
    · simp [e2]
/-- THE JUDGEMENT -/
def kv_S {α : Type} (val : α → Option Value) (K : kv_K) (pc : Nat) (ls : List (Option Value)) (st : List Value) (h : kv_H) (R : Option (α × kv_H)) : Prop :=
  ∀ (r : α) (h' : kv_H), R = some (r, h') → ∀ (p : Program) (l : Launch) (e : Env) (s : State) (m : MethodId) (args : Array Value) (below : List Frame) (meth : Method) (c : Code) (H : Heap) (locs : List Loc) (la : Array Slot) (G : kv_G),
    kv_C K G p s m args meth c → va_P G.2.2.1 kv_cl (kv_w G h) H → va_S (kv_A G) s.heap H locs → kv_L G K.2.2.1 ls la →
    W p l e (kv_rm K.2.2.2.2) s m args below meth c H locs 0 0 (MQ below (kv_Q G (val r) h') args s 0 0 (kv_A G)) (F0 m pc la (st.map (kv_v G)))
/-- a method's contract -/
def kv_M {α : Type} (val : α → Option Value) (K : kv_K) (As : List Value) (h : kv_H) (R : Option (α × kv_H)) : Prop :=
  ∀ (l : Launch) (G : kv_G) (r : α) (h' : kv_H), R = some (r, h') → Met l K.1 (Cond.code K.1 K.2.1 K.2.2.1 K.2.2.2.1 :: kv_T) (kv_rm K.2.2.2.2) (kv_Pc G As h) (kv_Q G (val r) h') 0 0 (kv_A G)
def kv_i (v : Int32) : Option Value := some (.int v)
def kv_l (v : Int64) : Option Value := some (.long v)
def kv_u (_ : Unit) : Option Value := none
theorem kv_none {α : Type} {val : α → Option Value} {K : kv_K} {pc : Nat} {ls : List (Option Value)} {st : List Value} {h : kv_H} : kv_S val K pc ls st h none := fun _ _ q => by cases q
theorem kv_met {α : Type} {val : α → Option Value} {K : kv_K} {As : List Value} {h : kv_H} {R : Option (α × kv_H)} {ls : List (Option Value)} (hy : plainName K.1.cls = true) (hl : ∀ G, kv_prs G 0 ls = lv_args 0 (As.map (kv_v G))) (hn : ∀ G, (lg_sl (As.map (kv_v G))).length ≤ K.2.2.1) (hS : kv_S val K 0 ls [] h R) : kv_M val K As h R := by
  intro l G r h' hR
  refine Met.ofW (cc := K.2.1) (maxL := K.2.2.1) (ret := K.2.2.2.1) hy rfl ?_
  intro p e s m args below meth c s₁ B hml hv
  obtain ⟨rfl, hJ, hK, hSt, hP⟩ := hv
  have hts := atoms_spec (ws := Cond.code K.1 K.2.1 K.2.2.1 K.2.2.2.1 :: kv_T) B.pre
  rw [lg_entry_eq]
  refine hS r h' hR p l e s m _ below meth c s.heap [] _ G ⟨B.exec, B.bytes, hml, findClass_of_methodNamed B.named, fun w hw => hts w (List.mem_cons_of_mem _ hw), B.returns, B.notSynchronized, hJ, hK, hSt⟩ hP va_S.rf ?_
  show lv_has _ _ _
  rw [hl G]
  exact lv_entry _ (hn G)


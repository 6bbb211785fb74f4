/-! PURE PART: what goes first: the middle -/
def pz_ur (TX : Nat → pz_T) (t : Nat) (rm : Nat → Nat) (ru : Nat) (X : Nat → Int32) (u : Nat) : Int32 :=
  if ru = 1 then -(X (10 + u)) else if ru = 2 then -(X (20 + u)) else if ru = 4 then (if pz_law TX t 2 = 0 then 0 else pz_val (TX (pz_law TX t 2 - 1)) (pz_nm4 (X 0 - X (10 + u)) (X (20 + u)) (nI (rm u)) (nI u))) else 0
def pz_may (D : Nat → Nat → Nat) (ca : Nat) (V : List Nat) (u : Nat) : Bool := decide (ca = 0) || !(V.any (fun v => decide (D 4 v = u + 1)))
def pz_am1 (f : Nat → Int32) (i u : Nat) : Option (Nat × Int32) → Option (Nat × Int32)
  | none => some (i, f u)
  | some q => if f u ≤ q.2 then some q else some (i, f u)
def pz_am (p : Nat → Bool) (f : Nat → Int32) : List Nat → Nat → Option (Nat × Int32) → Option (Nat × Int32)
  | [], _, b => b
  | u :: r, i, b => pz_am p f r (i + 1) (if p u then pz_am1 f i u b else b)
def pz_nth (p : Nat → Bool) : List Nat → Nat → Nat → Option Nat
  | [], _, _ => none
  | u :: r, i, k => if p u then (if k = 0 then some i else pz_nth p r (i + 1) (k - 1)) else pz_nth p r (i + 1) k
def pz_bU : Option (Nat × Int32) → Int32
  | none => 0
  | some q => q.2
def pz_pl9 : Option Nat → Int32
  | none => -1000000005
  | some j => nI j
def pz_pl10 : Option Nat → Int32
  | none => -1
  | some j => nI j
noncomputable def pz_fst (p : Nat → Bool) (f : Nat → Int32) (ru : Nat) (V : List Nat) (z : Int32) : Option Nat × Int32 :=
  if (V.filter p).length = 0 then (none, z) else if ru = 3 then (pz_nth p V 0 (pz_dz (pz_zn z) % (V.filter p).length), pz_zn z) else ((pz_am p f V 0 none).map Prod.fst, z)
theorem pz_amS (p : Nat → Bool) (f : Nat → Int32) (B : Nat) : ∀ (r : List Nat) (i : Nat) (b : Option (Nat × Int32)), i + r.length ≤ B → (∀ q, b = some q → q.1 < B) → (∀ q, pz_am p f r i b = some q → q.1 < B) ∧ ((b ≠ none ∨ r.filter p ≠ []) → pz_am p f r i b ≠ none) := by
  intro r
  induction r with
  | nil => intro i b _ hb; exact ⟨hb, fun z => z.elim id (fun y => absurd rfl y)⟩
  | cons u r ih =>
    intro i b e hb
    rw [List.length_cons] at e
    rw [pz_am]
    by_cases z : p u = true
    · rw [if_pos z]
      match b, hb with
      | none, _ =>
        have := ih (i + 1) (some (i, f u)) (by omega) (fun q hq => by cases hq; show i < B; omega)
        exact ⟨this.1, fun _ => this.2 (Or.inl (by simp))⟩
      | some (j, y), hb =>
        rw [pz_am1]
        by_cases w : f u ≤ y
        · rw [if_pos w]
          have := ih (i + 1) (some (j, y)) (by omega) hb
          exact ⟨this.1, fun _ => this.2 (Or.inl (by simp))⟩
        · rw [if_neg w]
          have := ih (i + 1) (some (i, f u)) (by omega) (fun q hq => by cases hq; show i < B; omega)
          exact ⟨this.1, fun _ => this.2 (Or.inl (by simp))⟩
    · rw [if_neg z]
      have := ih (i + 1) b (by omega) hb
      refine ⟨this.1, fun y => this.2 (y.imp id (fun x => ?_))⟩
      rw [List.filter_cons_of_neg z] at x; exact x
theorem pz_am0 (p : Nat → Bool) (f : Nat → Int32) (y : Int32) (hf : ∀ u, f u ≤ y) : ∀ (r : List Nat) (i j : Nat), pz_am p f r i (some (j, y)) = some (j, y) := by
  intro r
  induction r with
  | nil => intro i j; rfl
  | cons u r ih =>
    intro i j
    rw [pz_am, pz_am1, if_pos (hf u)]
    by_cases z : p u = true
    · rw [if_pos z]; exact ih (i + 1) j
    · rw [if_neg z]; exact ih (i + 1) j
theorem pz_nthS (p : Nat → Bool) : ∀ (r : List Nat) (i k : Nat), k < (r.filter p).length → ∃ j, pz_nth p r i k = some j ∧ i ≤ j ∧ j < i + r.length := by
  intro r
  induction r with
  | nil => intro i k h; exact absurd h (by simp)
  | cons u r ih =>
    intro i k h
    rw [pz_nth, List.length_cons]
    by_cases z : p u = true
    · rw [if_pos z]
      rw [List.filter_cons_of_pos z, List.length_cons] at h
      by_cases k0 : k = 0
      · rw [if_pos k0]; exact ⟨i, rfl, Nat.le_refl _, by omega⟩
      · rw [if_neg k0]
        obtain ⟨j, a1, a2, a3⟩ := ih (i + 1) (k - 1) (by omega)
        exact ⟨j, a1, by omega, by omega⟩
    · rw [if_neg z]
      rw [List.filter_cons_of_neg z] at h
      obtain ⟨j, a1, a2, a3⟩ := ih (i + 1) k h
      exact ⟨j, a1, by omega, by omega⟩
theorem pz_fstS {p : Nat → Bool} {f : Nat → Int32} {ru : Nat} {V : List Nat} {z : Int32} (h : V.filter p ≠ []) : ∃ j, (pz_fst p f ru V z).1 = some j ∧ j < V.length := by
  have h0 : ¬ (V.filter p).length = 0 := fun e => h (List.eq_nil_of_length_eq_zero e)
  unfold pz_fst
  rw [if_neg h0]
  by_cases q : ru = 3
  · rw [if_pos q]
    obtain ⟨j, a1, a2, a3⟩ := pz_nthS p V 0 (pz_dz (pz_zn z) % (V.filter p).length) (Nat.mod_lt _ (by omega))
    exact ⟨j, a1, by omega⟩
  · rw [if_neg q]
    have a := pz_amS p f V.length V 0 none (by omega) (fun q hq => by cases hq)
    have a2 := a.2 (Or.inr h)
    cases e : pz_am p f V 0 none with
    | none => exact absurd e a2
    | some q => exact ⟨q.1, rfl, a.1 q e⟩
theorem pz_maxL : ∀ V : List Nat, V ≠ [] → ∃ u, u ∈ V ∧ ∀ v, v ∈ V → v ≤ u := by
  intro V
  induction V with
  | nil => intro h; exact absurd rfl h
  | cons v r ih =>
    intro _
    by_cases q : r = []
    · subst q; exact ⟨v, List.mem_cons_self .., fun w hw => by rw [List.mem_singleton] at hw; omega⟩
    · obtain ⟨u, a1, a2⟩ := ih q
      by_cases z : u ≤ v
      · refine ⟨v, List.mem_cons_self .., fun w hw => ?_⟩
        rcases List.mem_cons.mp hw with y | y
        · omega
        · have := a2 w y; omega
      · refine ⟨u, List.mem_cons_of_mem _ a1, fun w hw => ?_⟩
        rcases List.mem_cons.mp hw with y | y
        · omega
        · exact a2 w y
theorem pz_mayE {n : Nat} {D : Nat → Nat → Nat} {ca : Nat} {V : List Nat} (b : pz_LB n D) (hV : ∀ v, v ∈ V → v < n) (h : V ≠ []) : V.filter (pz_may D ca V) ≠ [] := by
  obtain ⟨u, a1, a2⟩ := pz_maxL V h
  have : pz_may D ca V u = true := by
    unfold pz_may
    have : V.any (fun v => decide (D 4 v = u + 1)) = false := by
      rw [List.any_eq_false]
      intro v hv
      have := (b.2 v (hV v hv)).2.2.2.2.2
      have := a2 v hv
      simp; omega
    rw [this]; simp
  exact fun z => absurd (z ▸ List.mem_filter.mpr ⟨a1, this⟩) (by simp)
/-- what the class knows of a world, but for its course -/
def pz_E9 (h : kv_H) (w n : Nat) (D : Nat → Nat → Nat) (t : Nat) (TX : Nat → pz_T) (ch : Nat → Nat) (sp ru ca : Nat) : Prop := pz_LC h (w + 3) n D ∧ pz_LX h (w + 3) n (pz_rm TX t D) (pz_ms TX t n D) ch ∧ pz_TC h t TX ∧ pz_LW h w t TX ∧ h w 7 = nI sp ∧ h w 8 = nI ru ∧ h w 9 = nI ca
/-- bounds -/
def pz_EB (n : Nat) (D : Nat → Nat → Nat) (t : Nat) (TX : Nat → pz_T) (ch : Nat → Nat) (sp ru ca : Nat) : Prop := pz_LB n D ∧ pz_TB t TX ∧ pz_CH n D ch ∧ sp ≤ 60 ∧ ru ≤ 4 ∧ ca ≤ 1
theorem pz_E9_fr {h h' : kv_H} {w n : Nat} {D : Nat → Nat → Nat} {t : Nat} {TX : Nat → pz_T} {ch : Nat → Nat} {sp ru ca : Nat} (g : pz_E9 h w n D t TX ch sp ru ca) (tb : t ≤ 14) (fc : ∀ a, w ≤ a → a ≤ w + 11 → h' a = h a) (ft : ∀ a, 51 ≤ a → a ≤ 78 → h' a = h a) : pz_E9 h' w n D t TX ch sp ru ca := by
  obtain ⟨lc, lx, tc, lw, e7, e8, e9⟩ := g
  refine ⟨⟨?_, ?_⟩, ?_, ?_, ?_, ?_, ?_, ?_⟩
  · rw [fc _ (by omega) (by omega)]; exact lc.1
  · intro i hi
    rw [fc _ (by omega) (by omega), fc _ (by omega) (by omega), fc _ (by omega) (by omega), fc _ (by omega) (by omega), fc _ (by omega) (by omega)]; exact lc.2 i hi
  · intro i hi
    rw [fc _ (by omega) (by omega), fc _ (by omega) (by omega), fc _ (by omega) (by omega)]; exact lx i hi
  · intro i hi
    rw [ft _ (by omega) (by omega), ft _ (by omega) (by omega)]; exact tc i hi
  · intro k hk
    rw [fc _ (by omega) (by omega)]; exact lw k hk
  · rw [fc _ (by omega) (by omega)]; exact e7
  · rw [fc _ (by omega) (by omega)]; exact e8
  · rw [fc _ (by omega) (by omega)]; exact e9
theorem pz_ur9 {h : kv_H} {w c n : Nat} {D : Nat → Nat → Nat} {t : Nat} {TX : Nat → pz_T} {ch : Nat → Nat} {sp ru ca : Nat} {V : List Nat} {X : Nat → Int32} (e : pz_E9 h w n D t TX ch sp ru ca) (eb : pz_EB n D t TX ch sp ru ca) (cc : pz_CC h c V X) (u : Nat) (hu : u < n) : ∃ h', f_X8_urgeToThrow w c (nI u) h = some (pz_ur TX t (pz_rm TX t D) ru X u, h') ∧ ∀ a, a ≠ 49 → a ≠ 50 → h' a = h a := by
  obtain ⟨lc, lx, tc, lw, e7, e8, e9⟩ := e
  obtain ⟨lb, tb, chh, _, hru, _⟩ := eb
  have hn := lb.1
  have c7 := cc.2.2.2.2.2.2 u (by omega)
  have c5 := cc.2.2.1
  unfold pz_ur
  have cs : ru = 1 ∨ ru = 2 ∨ ru = 4 ∨ (ru = 0 ∨ ru = 3) := by omega
  rcases cs with z | z | z | z
  · refine ⟨h, ?_, fun _ _ _ => rfl⟩
    rw [f_X8_urgeToThrow, e8, if_pos (by rw [z]; rfl), pz_kN (by omega) (by omega), pz_cl (by omega), c7.1, if_pos z]
  · refine ⟨h, ?_, fun _ _ _ => rfl⟩
    rw [f_X8_urgeToThrow, e8, if_neg (by rw [z]; decide), if_pos (by rw [z]; rfl), pz_kN (by omega) (by omega), pz_cl (by omega), c7.2, if_neg (by omega), if_pos z]
  · by_cases q : pz_law TX t 2 = 0
    · refine ⟨h, ?_, fun _ _ _ => rfl⟩
      rw [f_X8_urgeToThrow, e8, if_neg (by rw [z]; decide), if_neg (by rw [z]; decide), if_pos (by rw [z]; rfl), lw 2 (by omega), if_pos (by rw [q]; rfl), if_neg (by omega), if_neg (by omega), if_pos z, if_pos q]
    · obtain ⟨p, hp⟩ : ∃ p, pz_law TX t 2 = p + 1 := ⟨pz_law TX t 2 - 1, by omega⟩
      have le := (pz_law_le TX 2 t).1
      have ht := tb.1
      obtain ⟨h', x1, x2⟩ := pz_val9 tc tb p (by omega) (X 0 - X (10 + u)) (X (20 + u)) (nI (pz_rm TX t D u)) (nI u)
      refine ⟨h', ?_, x2⟩
      rw [f_X8_urgeToThrow, e8, if_neg (by rw [z]; decide), if_neg (by rw [z]; decide), if_pos (by rw [z]; rfl), lw 2 (by omega), hp, if_neg (show ¬ pz_none (p + 1) = -1000000005 from of_eq_false (pz_neq1 (a := 1000000005) (by omega) (by omega) (by omega))), pz_kN (by omega) (by omega), pz_cl (by omega), c7.1, c5, pz_vl, pz_kN (by omega) (by omega), pz_kN (by omega) (by omega), c7.2, (lx u hu).1, show pz_none (p + 1) = nI p from rfl, x1, pz_b, if_neg (by omega), if_neg (by omega), if_pos z, if_neg (by omega), show p + 1 - 1 = p from by omega]
  · refine ⟨h, ?_, fun _ _ _ => rfl⟩
    rw [f_X8_urgeToThrow, e8, if_neg (by rcases z with z | z <;> rw [z] <;> decide), if_neg (by rcases z with z | z <;> rw [z] <;> decide), if_neg (by rcases z with z | z <;> rw [z] <;> decide), if_neg (by omega), if_neg (by omega), if_neg (by omega)]
def pz_ln8 (D : Nat → Nat → Nat) (m : Nat) : Nat → Nat
  | 0 => 0
  | k + 1 => if m.testBit k then (if D 4 k = 0 then pz_ln8 D m k else pz_ln8 D m k ||| 2 ^ (D 4 k - 1)) else pz_ln8 D m k
theorem pz_ln8T (D : Nat → Nat → Nat) (m u : Nat) : ∀ n, (pz_ln8 D m n).testBit u = true ↔ ∃ i, i < n ∧ m.testBit i = true ∧ D 4 i = u + 1 := by
  intro n
  induction n with
  | zero => simp [pz_ln8]
  | succ k ih =>
    have key : (∃ i, i < k + 1 ∧ m.testBit i = true ∧ D 4 i = u + 1) ↔ ((∃ i, i < k ∧ m.testBit i = true ∧ D 4 i = u + 1) ∨ (m.testBit k = true ∧ D 4 k = u + 1)) := by
      constructor
      · rintro ⟨i, h1, h2, h3⟩
        by_cases z : i = k
        · subst z; exact Or.inr ⟨h2, h3⟩
        · exact Or.inl ⟨i, by omega, h2, h3⟩
      · rintro (⟨i, h1, h2, h3⟩ | ⟨h2, h3⟩)
        · exact ⟨i, by omega, h2, h3⟩
        · exact ⟨k, by omega, h2, h3⟩
    rw [key, ← ih, pz_ln8]
    by_cases z : m.testBit k = true
    · rw [if_pos z]
      by_cases y : D 4 k = 0
      · rw [if_pos y]
        constructor
        · exact Or.inl
        · rintro (x | ⟨_, x⟩)
          · exact x
          · omega
      · rw [if_neg y, Nat.testBit_or, Nat.testBit_two_pow, Bool.or_eq_true, decide_eq_true_eq]
        constructor
        · rintro (x | x)
          · exact Or.inl x
          · exact Or.inr ⟨z, by omega⟩
        · rintro (x | ⟨_, x⟩)
          · exact Or.inl x
          · exact Or.inr (by omega)
    · rw [if_neg z]
      constructor
      · exact Or.inl
      · rintro (x | ⟨x, _⟩)
        · exact x
        · exact absurd x z
theorem pz_free9 {h : kv_H} {q n m : Nat} {D : Nat → Nat → Nat} (lc : pz_LC h q n D) (b : pz_LB n D) (hm : m < 2147483648) : f_X1_freeOf q (nI m) h = some (nI m &&& (nI (pz_ln8 D m n) ^^^ (-1)), h) := by
  have hn := b.1
  unfold f_X1_freeOf
  refine pz_for (fun f k (v : Int32) => f_X1_freeOf_L4 q (nI m) f v (nI k) h (fun z2 h3 => some ((nI m &&& (z2 ^^^ (-1))), h3))) (fun k v => v = nI (pz_ln8 D m k)) (fun R => R = some (nI m &&& (nI (pz_ln8 D m n) ^^^ (-1)), h)) n ?_ ?_ kv_fu 0 _ (by omega) (by rw [show kv_fu = 5000 from rfl]; omega) rfl
  · intro f v hv
    show f_X1_freeOf_L4 q (nI m) (f + 1) v (nI n) h _ = _
    rw [f_X1_freeOf_L4, lc.1, if_pos (nI_le (Nat.le_refl _) (by omega)), hv]
  · intro f k v hk hv
    right
    refine ⟨nI (pz_ln8 D m (k + 1)), rfl, ?_⟩
    show f_X1_freeOf_L4 q (nI m) (f + 1) v (nI k) h _ = _
    have bb := (b.2 k hk).2.2.2.2.2
    rw [f_X1_freeOf_L4, lc.1, if_neg (nI_ge hk (by omega)), hv, pz_ln8]
    by_cases z : m.testBit k = true
    · rw [if_pos ((pz_tbT hm (by omega)).mpr z), if_pos z, pz_kN (by omega) (by omega), pz_cl (by omega), (lc.2 k hk).2.2.2.2]
      by_cases y : D 4 k = 0
      · rw [y, if_pos (by decide), nI_1]; rfl
      · obtain ⟨o, ho⟩ : ∃ o, D 4 k = o + 1 := ⟨D 4 k - 1, by omega⟩
        rw [ho, show pz_on (o + 1) = nI o from rfl, if_neg (pz_ng (by omega)), pz_kN (by omega) (by omega), pz_vl, pz_bit o (by omega), pz_or, nI_1, if_neg (by omega), show o + 1 - 1 = o from by omega]
    · rw [if_neg (fun y => z ((pz_tbT hm (by omega)).mp y)), if_neg z, nI_1]
/-- who may be thrown, as bits, by the class -/
theorem pz_cand9 {h : kv_H} {w c n : Nat} {D : Nat → Nat → Nat} {t : Nat} {TX : Nat → pz_T} {ch : Nat → Nat} {sp ru ca : Nat} {V : List Nat} {X : Nat → Int32} (e : pz_E9 h w n D t TX ch sp ru ca) (eb : pz_EB n D t TX ch sp ru ca) (cc : pz_CC h c V X) (cb : pz_CB n V X) (J : Int32 → kv_H → Option (Int32 × kv_H)) : ∃ m, m < 256 ∧ (∀ u, u < 8 → m.testBit u = (decide (u ∈ V) && pz_may D ca V u)) ∧ (if (h w 9) = (1 : Int32) then (kv_b (f_X1_freeOf (w + 3) (h c 4) h) (fun r15 h14 => J r15 h14)) else (J (h c 4) h)) = J (nI m) h := by
  obtain ⟨lc, lx, tc, lw, e7, e8, e9⟩ := e
  have hn := eb.1.1
  have hca := eb.2.2.2.2.2
  have hV : ∀ v, v ∈ V → v < 8 := fun v hv => by have := cb.2.1 v hv; omega
  have bl := pz_bitsL V hV
  rw [e9, cc.2.1]
  by_cases z : ca = 1
  · subst z
    obtain ⟨m, e1, e2, e3⟩ := pz_nand (a := pz_bits V) (b := pz_ln8 D (pz_bits V) n) bl
    refine ⟨m, e2, ?_, ?_⟩
    · intro u hu
      rw [e3 u hu, pz_bitsT]
      congr 1
      unfold pz_may
      have k : (pz_ln8 D (pz_bits V) n).testBit u = V.any (fun v => decide (D 4 v = u + 1)) := by
        rw [Bool.eq_iff_iff, pz_ln8T, List.any_eq_true]
        constructor
        · rintro ⟨i, h1, h2, h3⟩
          rw [pz_bitsT] at h2
          exact ⟨i, by simpa using h2, by simpa using h3⟩
        · rintro ⟨i, h1, h2⟩
          refine ⟨i, cb.2.1 i h1, ?_, by simpa using h2⟩
          rw [pz_bitsT]; simpa using h1
      rw [k]; simp
    · rw [if_pos (show nI 1 = (1 : Int32) from rfl), pz_free9 lc eb.1 (by omega), pz_b, e1]
  · have z0 : ca = 0 := by omega
    refine ⟨pz_bits V, bl, ?_, ?_⟩
    · intro u hu
      rw [pz_bitsT]; unfold pz_may
      simp [z0]
    · rw [if_neg (by rw [z0]; decide)]

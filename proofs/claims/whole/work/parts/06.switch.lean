section KW
variable {α : Type} {val : α → Option Value} {K : kv_K} {pc pc' tgt : Nat} {ls : List (Option Value)} {st : List Value} {h : kv_H} {R R1 R2 : Option (α × kv_H)}
/-! names for what was worked out -/
def kv_hl {γ : Type} (a : kv_H) (f : kv_H → Option γ) : Option γ := f a
def kv_vl {γ : Type} (a : Int32) (f : Int32 → Option γ) : Option γ := f a
def kv_vL {γ : Type} (a : Int64) (f : Int64 → Option γ) : Option γ := f a
theorem kr_hl {a : kv_H} {f : kv_H → Option (α × kv_H)} (k : ∀ h1, kv_S val K pc ls st h1 (f h1)) : kv_S val K pc ls st a (kv_hl a f) := k a
theorem kr_vl {a : Int32} {f : Int32 → Option (α × kv_H)} (k : ∀ v, kv_S val K pc ls (.int v :: st) h (f v)) : kv_S val K pc ls (.int a :: st) h (kv_vl a f) := k a
theorem kr_vL {a : Int64} {f : Int64 → Option (α × kv_H)} (k : ∀ v, kv_S val K pc ls (.long v :: st) h (f v)) : kv_S val K pc ls (.long a :: st) h (kv_vL a f) := k a
/-! switches -/
def kv_sw {β : Type} (x : Int32) : List Int32 → List (Option β) → Option β → Option β
  | k :: ks, r :: rs, d => if x = k then r else kv_sw x ks rs d
  | _, _, d => d
def kv_to (x : Int32) : List Int32 → List Nat → Nat → Nat
  | k :: ks, t :: ts, d => if x = k then t else kv_to x ks ts d
  | _, _, d => d
def kv_ts (K : kv_K) (pc : Nat) (ks : List Int32) (ts : List Nat) (d : Nat) : Prop := ∀ (x : Int32) (p : Program) (l : Launch) (e : Env) (R : Room) (s : State) (m : MethodId) (args : Array Value) (below : List Frame) (meth : Method) (c : Code) (H : Heap) (locs : List Loc) (Q : State → Prop) (la : Array Slot) (rest : List Value), p.tables.exec = Jvm.exec → c.code = K.2.1 → W p l e R s m args below meth c H locs 0 0 Q (F0 m (kv_to x ks ts d) la rest) → W p l e R s m args below meth c H locs 0 0 Q (F0 m pc la (.int x :: rest))
def kv_al (val : α → Option Value) (K : kv_K) (ls : List (Option Value)) (st : List Value) (h : kv_H) : List Nat → List (Option (α × kv_H)) → Prop
  | t :: ts, r :: rs => kv_S val K t ls st h r ∧ kv_al val K ls st h ts rs
  | [], [] => True
  | _, _ => False
theorem kr_sw {x : Int32} {ks : List Int32} {ts : List Nat} {d : Nat} {Rs : List (Option (α × kv_H))} {Rd : Option (α × kv_H)} (hd : kv_ts K pc ks ts d) (kd : kv_S val K d ls st h Rd) (hk : kv_al val K ls st h ts Rs) : kv_S val K pc ls (.int x :: st) h (kv_sw x ks Rs Rd) := by
  have key : ∀ (ks : List Int32) (ts : List Nat) (Rs : List (Option (α × kv_H))), kv_al val K ls st h ts Rs → kv_S val K (kv_to x ks ts d) ls st h (kv_sw x ks Rs Rd) := by
    intro ks
    induction ks with
    | nil => intro ts Rs hk; cases ts <;> cases Rs <;> exact kd
    | cons k ks ih =>
      intro ts Rs hk
      cases ts with
      | nil => cases Rs with
        | nil => exact kd
        | cons r rs => exact absurd hk id
      | cons t ts => cases Rs with
        | nil => exact absurd hk id
        | cons r rs =>
          unfold kv_to kv_sw
          split
          · exact hk.1
          · exact ih ts rs hk.2
  intro r h' hR p l e s m args below meth c H locs la G C hP hS hL
  exact hd x p l e _ s m args below meth c H locs _ la _ C.1 C.2.1 (key ks ts Rs hk r h' hR p l e s m args below meth c H locs la G C hP hS hL)
theorem kv_to_at {x : Int32} {d : Nat} : ∀ {ks : List Int32} {ts : List Nat} {i t : Nat}, ks[i]? = some x → (∀ j : Nat, j < i → ks[j]? ≠ some x) → ts[i]? = some t → kv_to x ks ts d = t
  | [], _, i, t, h, _, _ => by simp at h
  | _ :: _, [], i, t, _, _, h => by simp at h
  | k :: ks, t0 :: ts, 0, t, h, _, h2 => by
    simp at h h2
    subst h h2
    unfold kv_to
    rw [if_pos rfl]
  | k :: ks, t0 :: ts, i + 1, t, h, hn, h2 => by
    unfold kv_to
    have : ¬ x = k := fun e => hn 0 (by omega) (by simp [e])
    rw [if_neg this]
    exact kv_to_at (i := i) (by simpa using h) (fun j hj => by simpa using hn (j + 1) (by omega)) (by simpa using h2)
theorem kv_to_out {x : Int32} {d : Nat} : ∀ {ks : List Int32} {ts : List Nat}, (∀ j : Nat, ks[j]? ≠ some x) → kv_to x ks ts d = d
  | [], ts, _ => by cases ts <;> rfl
  | k :: ks, [], _ => rfl
  | k :: ks, t :: ts, hn => by
    unfold kv_to
    have : ¬ x = k := fun e => hn 0 (by simp [e])
    rw [if_neg this]
    exact kv_to_out (fun j => by simpa using hn (j + 1))
theorem kv_ts_table {ks : List Int32} {ts : List Nat} {d : Nat} {dflt lo hi : Int} {offs : Array Int} {len : Nat} (hd : decode K.2.1 pc = .ok (.tableswitch dflt lo hi offs, len)) (h0 : (pc : Int) + dflt = (d : Int)) (hl : ks.length = ts.length) (hks : ∀ i : Nat, i < ks.length → (ks.getD i 0).toInt = lo + i) (hhi : hi + 1 = lo + ks.length) (hts : ∀ i : Nat, i < ks.length → ∃ off : Int, offs[i]? = some off ∧ (pc : Int) + off = ((ts.getD i 0 : Nat) : Int)) : kv_ts K pc ks ts d := by
  intro x p l e R s m args below meth c H locs Q la rest hx hb hw
  have kat : ∀ i : Nat, i < ks.length → ks[i]? = some (ks.getD i 0) := fun i hi => by simp [List.getD, hi]
  by_cases h1 : x.toInt < lo
  · refine lv_tableOut hx hb hd (Or.inl h1) h0 ?_
    rw [kv_to_out (fun j hj => ?_)] at hw
    · exact hw
    · have hjl := (List.getElem?_eq_some_iff.mp hj).1
      have e1 := hks j hjl
      rw [kat j hjl] at hj
      rw [Option.some.inj hj] at e1
      omega
  by_cases h2 : hi < x.toInt
  · refine lv_tableOut hx hb hd (Or.inr h2) h0 ?_
    rw [kv_to_out (fun j hj => ?_)] at hw
    · exact hw
    · have hjl := (List.getElem?_eq_some_iff.mp hj).1
      have e1 := hks j hjl
      rw [kat j hjl] at hj
      rw [Option.some.inj hj] at e1
      omega
  obtain ⟨i, hi, hxi⟩ : ∃ i : Nat, i < ks.length ∧ x.toInt = lo + i := ⟨(x.toInt - lo).toNat, by omega, by omega⟩
  obtain ⟨off, o1, o2⟩ := hts i hi
  have hkx : ks.getD i 0 = x := Int32.toInt_inj.mp (by rw [hks i hi, hxi])
  have e3 : kv_to x ks ts d = ts.getD i 0 := by
    refine kv_to_at (i := i) (by rw [kat i hi, hkx]) (fun j hj hq => ?_) (by simp [List.getD, show i < ts.length by omega])
    have hjl := (List.getElem?_eq_some_iff.mp hq).1
    have e1 := hks j hjl
    rw [kat j hjl] at hq
    rw [Option.some.inj hq] at e1
    omega
  rw [e3] at hw
  exact lv_tableIn hx hb hd h1 h2 (by rw [show (x.toInt - lo).toNat = i by omega]; exact o1) o2 hw
theorem kv_ts_look2 {k0 k1 : Int32} {o0 o1 dflt : Int} {t0 t1 d len : Nat} (hd : decode K.2.1 pc = .ok (.lookupswitch dflt #[(k0.toInt, o0), (k1.toInt, o1)], len)) (hlt : k0.toInt < k1.toInt) (h0 : (pc : Int) + dflt = (d : Int)) (h1 : (pc : Int) + o0 = (t0 : Int)) (h2 : (pc : Int) + o1 = (t1 : Int)) : kv_ts K pc [k0, k1] [t0, t1] d := by
  intro x p l e R s m args below meth c H locs Q la rest hx hb hw
  have hp : ((#[(k0.toInt, o0), (k1.toInt, o1)] : Array (Int × Int)).toList.zip ((#[(k0.toInt, o0), (k1.toInt, o1)] : Array (Int × Int)).toList.drop 1)).all (fun (a, next) => a.1 < next.1) = true := by simp [hlt]
  by_cases e0 : x = k0
  · refine lv_lookup hx hb hd hp (off := o0) ?_ h1 ?_
    · subst e0; simp [Op.lookupswitch.offset]
    · simpa [kv_to, e0] using hw
  have n0 : ¬ k0.toInt = x.toInt := fun z => e0 (Int32.toInt_inj.mp z.symm)
  by_cases e1 : x = k1
  · refine lv_lookup hx hb hd hp (off := o1) ?_ h2 ?_
    · subst e1; simp [Op.lookupswitch.offset, n0]
    · have e9 : ¬ k1 = k0 := fun z => e0 (e1.trans z)
      simpa [kv_to, e0, e1, e9] using hw
  have n1 : ¬ k1.toInt = x.toInt := fun z => e1 (Int32.toInt_inj.mp z.symm)
  refine lv_lookup hx hb hd hp (off := dflt) ?_ h0 ?_
  · simp [Op.lookupswitch.offset, n0, n1]
  · simpa [kv_to, e0, e1] using hw
/-! places that are known -/
def kv_ix (x : Int32) (j n : Nat) : Prop := ¬ x < 0 ∧ x.toNatClampNeg = j ∧ j < n
theorem kv_ix_in {x : Int32} {j n : Nat} (h : kv_ix x j n) : vp_in x n := fun q => by
  obtain ⟨h1, h2, h3⟩ := h
  rcases q with q | q
  · exact h1 q
  · omega
theorem kr_ialoadC {k n j : Nat} {x : Int32} (hi : kv_ix x j n) (hd : kv_d K pc .iaload 1 pc') (hs : kv_sh[k]? = some (.inl (n, none))) (kk : kv_S val K pc' ls (.int (h k j) :: st) h R) : kv_S val K pc ls (.int x :: .ref k :: st) h R := kr_ialoadK (kv_ix_in hi) hd hs (by rw [hi.2.1]; exact kk)
theorem kr_iastoreC {k n j : Nat} {x v : Int32} (hi : kv_ix x j n) (hd : kv_d K pc .iastore 1 pc') (hs : kv_sh[k]? = some (.inl (n, none))) (kk : kv_S val K pc' ls st (kv_up h k j v) R) : kv_S val K pc ls (.int v :: .int x :: .ref k :: st) h R := kr_iastoreK (kv_ix_in hi) hd hs (by rw [hi.2.1]; exact kk)
theorem kr_aaloadC {k n cc b t j q : Nat} {x : Int32} (hi : kv_ix x j n) (hq : b + t * j = q) (hd : kv_d K pc .aaload 1 pc') (hs : kv_sh[k]? = some (.inl (n, some (cc, b, t)))) (hcc : cc = 0 ∨ cc = 3 ∨ cc = 4 ∨ cc = 6) (kk : kv_S val K pc' ls (.ref q :: st) h R) : kv_S val K pc ls (.int x :: .ref k :: st) h R := by
  intro r h' hR
  have e : kv_k x n R = some (r, h') := by
    unfold kv_k
    rw [if_neg (kv_ix_in hi)]
    exact hR
  exact kr_aaload hd hs hcc (fun _ => by rw [hi.2.1, hq]; exact kk) r h' e
/-! the shapes -/
def kv_Co (k : Nat) : Prop := kv_sh[k]? = some (.inr (0, [some (k + 1), some (k + 2), some (k + 3), none, none, none, none, none])) ∧ kv_sh[k + 1]? = some (.inl (8, none)) ∧ kv_sh[k + 2]? = some (.inl (8, none)) ∧ kv_sh[k + 3]? = some (.inl (8, none))
def kv_Le (k : Nat) : Prop := kv_sh[k]? = some (.inr (1, [some (k + 1), some (k + 2), some (k + 3), some (k + 4), some (k + 5), some (k + 6), some (k + 7), some (k + 8), none])) ∧ kv_sh[k + 1]? = some (.inl (8, none)) ∧ kv_sh[k + 2]? = some (.inl (8, none)) ∧ kv_sh[k + 3]? = some (.inl (8, none)) ∧ kv_sh[k + 4]? = some (.inl (8, none)) ∧ kv_sh[k + 5]? = some (.inl (8, none)) ∧ kv_sh[k + 6]? = some (.inl (8, none)) ∧ kv_sh[k + 7]? = some (.inl (8, none)) ∧ kv_sh[k + 8]? = some (.inl (8, none))
def kv_Wo (k : Nat) : Prop := kv_sh[k]? = some (.inr (8, [some 47, some (k + 3), some (k + 12), some (k + 1), some (k + 2), none, none, none, none, none])) ∧ kv_sh[k + 1]? = some (.inl (24, none)) ∧ kv_sh[k + 2]? = some (.inl (3, none)) ∧ kv_Le (k + 3) ∧ kv_Co (k + 12)
def kv_Sh (k : Nat) : Prop := kv_sh[k]? = some (.inr (3, [some (k + 1), none, none])) ∧ kv_sh[k + 1]? = some (.inl (24, none))
def kv_Sl (k : Nat) : Prop := kv_sh[k]? = some (.inr (4, [some (k + 1), none, none, none, none, none, none])) ∧ kv_Sh (k + 1)
def kv_Te (k : Nat) : Prop := kv_sh[k]? = some (.inr (6, [some (k + 1), none, none, none])) ∧ kv_sh[k + 1]? = some (.inl (96, none))
def kv_Ar (k n : Nat) : Prop := kv_sh[k]? = some (.inl (n, none))
theorem kv_cases {P : Nat → Prop} {x : Int32} {n : Nat} (h : vp_in x n) (hp : ∀ j, j < n → P j) : P x.toNatClampNeg := hp _ (Nat.not_le.mp fun q => h (Or.inr q))
theorem kv_Co_at {x : Int32} (h : vp_in x 3) : kv_Co (6 + 4 * x.toNatClampNeg) := kv_cases (P := fun j => kv_Co (6 + 4 * j)) h (fun j hj => by rcases (show j = 0 ∨ j = 1 ∨ j = 2 by omega) with rfl | rfl | rfl <;> exact ⟨rfl, rfl, rfl, rfl⟩)
theorem kv_Sh_at {x : Int32} (h : vp_in x 4) : kv_Sh (18 + 2 * x.toNatClampNeg) := kv_cases (P := fun j => kv_Sh (18 + 2 * j)) h (fun j hj => by rcases (show j = 0 ∨ j = 1 ∨ j = 2 ∨ j = 3 by omega) with rfl | rfl | rfl | rfl <;> exact ⟨rfl, rfl⟩)
theorem kv_Sl_at {x : Int32} (h : vp_in x 5) : kv_Sl (26 + 3 * x.toNatClampNeg) := kv_cases (P := fun j => kv_Sl (26 + 3 * j)) h (fun j hj => by rcases (show j = 0 ∨ j = 1 ∨ j = 2 ∨ j = 3 ∨ j = 4 by omega) with rfl | rfl | rfl | rfl | rfl <;> exact ⟨rfl, rfl, rfl⟩)
theorem kv_Te_at {x : Int32} (h : vp_in x 14) : kv_Te (51 + 2 * x.toNatClampNeg) := kv_cases (P := fun j => kv_Te (51 + 2 * j)) h (fun j hj => by rcases (show j = 0 ∨ j = 1 ∨ j = 2 ∨ j = 3 ∨ j = 4 ∨ j = 5 ∨ j = 6 ∨ j = 7 ∨ j = 8 ∨ j = 9 ∨ j = 10 ∨ j = 11 ∨ j = 12 ∨ j = 13 by omega) with rfl | rfl | rfl | rfl | rfl | rfl | rfl | rfl | rfl | rfl | rfl | rfl | rfl | rfl <;> exact ⟨rfl, rfl⟩)
end KW
theorem sh_0 : kv_sh[0]? = some (.inr (9, [some 47, some 79, some 95, some 41, some 44, some 1, some 2, some 3, some 4, some 5, none, none])) := rfl
theorem sh_1 : kv_sh[1]? = some (.inl (3, some (0, 6, 4))) := rfl
theorem sh_2 : kv_sh[2]? = some (.inl (2, none)) := rfl
theorem sh_3 : kv_sh[3]? = some (.inl (4, some (3, 18, 2))) := rfl
theorem sh_4 : kv_sh[4]? = some (.inl (5, some (4, 26, 3))) := rfl
theorem sh_5 : kv_sh[5]? = some (.inl (60, none)) := rfl
theorem sh_6 : kv_sh[6]? = some (.inr (0, [some 7, some 8, some 9, none, none, none, none, none])) := rfl
theorem sh_7 : kv_sh[7]? = some (.inl (8, none)) := rfl
theorem sh_8 : kv_sh[8]? = some (.inl (8, none)) := rfl
theorem sh_9 : kv_sh[9]? = some (.inl (8, none)) := rfl
theorem sh_10 : kv_sh[10]? = some (.inr (0, [some 11, some 12, some 13, none, none, none, none, none])) := rfl
theorem sh_11 : kv_sh[11]? = some (.inl (8, none)) := rfl
theorem sh_12 : kv_sh[12]? = some (.inl (8, none)) := rfl
theorem sh_13 : kv_sh[13]? = some (.inl (8, none)) := rfl
theorem sh_14 : kv_sh[14]? = some (.inr (0, [some 15, some 16, some 17, none, none, none, none, none])) := rfl
theorem sh_15 : kv_sh[15]? = some (.inl (8, none)) := rfl
theorem sh_16 : kv_sh[16]? = some (.inl (8, none)) := rfl
theorem sh_17 : kv_sh[17]? = some (.inl (8, none)) := rfl
theorem sh_18 : kv_sh[18]? = some (.inr (3, [some 19, none, none])) := rfl
theorem sh_19 : kv_sh[19]? = some (.inl (24, none)) := rfl
theorem sh_20 : kv_sh[20]? = some (.inr (3, [some 21, none, none])) := rfl
theorem sh_21 : kv_sh[21]? = some (.inl (24, none)) := rfl
theorem sh_22 : kv_sh[22]? = some (.inr (3, [some 23, none, none])) := rfl
theorem sh_23 : kv_sh[23]? = some (.inl (24, none)) := rfl
theorem sh_24 : kv_sh[24]? = some (.inr (3, [some 25, none, none])) := rfl
theorem sh_25 : kv_sh[25]? = some (.inl (24, none)) := rfl
theorem sh_26 : kv_sh[26]? = some (.inr (4, [some 27, none, none, none, none, none, none])) := rfl
theorem sh_27 : kv_sh[27]? = some (.inr (3, [some 28, none, none])) := rfl
theorem sh_28 : kv_sh[28]? = some (.inl (24, none)) := rfl
theorem sh_29 : kv_sh[29]? = some (.inr (4, [some 30, none, none, none, none, none, none])) := rfl
theorem sh_30 : kv_sh[30]? = some (.inr (3, [some 31, none, none])) := rfl
theorem sh_31 : kv_sh[31]? = some (.inl (24, none)) := rfl
theorem sh_32 : kv_sh[32]? = some (.inr (4, [some 33, none, none, none, none, none, none])) := rfl
theorem sh_33 : kv_sh[33]? = some (.inr (3, [some 34, none, none])) := rfl
theorem sh_34 : kv_sh[34]? = some (.inl (24, none)) := rfl
theorem sh_35 : kv_sh[35]? = some (.inr (4, [some 36, none, none, none, none, none, none])) := rfl
theorem sh_36 : kv_sh[36]? = some (.inr (3, [some 37, none, none])) := rfl
theorem sh_37 : kv_sh[37]? = some (.inl (24, none)) := rfl
theorem sh_38 : kv_sh[38]? = some (.inr (4, [some 39, none, none, none, none, none, none])) := rfl
theorem sh_39 : kv_sh[39]? = some (.inr (3, [some 40, none, none])) := rfl
theorem sh_40 : kv_sh[40]? = some (.inl (24, none)) := rfl
theorem sh_41 : kv_sh[41]? = some (.inr (5, [some 42, none, some 43, none, none, none, none, none, none, none])) := rfl
theorem sh_42 : kv_sh[42]? = some (.inl (96, none)) := rfl
theorem sh_43 : kv_sh[43]? = some (.inl (96, none)) := rfl
theorem sh_44 : kv_sh[44]? = some (.inr (2, [some 45, some 46, none, none])) := rfl
theorem sh_45 : kv_sh[45]? = some (.inl (256, none)) := rfl
theorem sh_46 : kv_sh[46]? = some (.inl (256, none)) := rfl
theorem sh_47 : kv_sh[47]? = some (.inr (7, [some 48, some 49, some 50])) := rfl
theorem sh_48 : kv_sh[48]? = some (.inl (14, some (6, 51, 2))) := rfl
theorem sh_49 : kv_sh[49]? = some (.inl (96, none)) := rfl
theorem sh_50 : kv_sh[50]? = some (.inl (4, none)) := rfl
theorem sh_51 : kv_sh[51]? = some (.inr (6, [some 52, none, none, none])) := rfl
theorem sh_52 : kv_sh[52]? = some (.inl (96, none)) := rfl
theorem sh_53 : kv_sh[53]? = some (.inr (6, [some 54, none, none, none])) := rfl
theorem sh_54 : kv_sh[54]? = some (.inl (96, none)) := rfl
theorem sh_55 : kv_sh[55]? = some (.inr (6, [some 56, none, none, none])) := rfl
theorem sh_56 : kv_sh[56]? = some (.inl (96, none)) := rfl
theorem sh_57 : kv_sh[57]? = some (.inr (6, [some 58, none, none, none])) := rfl
theorem sh_58 : kv_sh[58]? = some (.inl (96, none)) := rfl
theorem sh_59 : kv_sh[59]? = some (.inr (6, [some 60, none, none, none])) := rfl
theorem sh_60 : kv_sh[60]? = some (.inl (96, none)) := rfl
theorem sh_61 : kv_sh[61]? = some (.inr (6, [some 62, none, none, none])) := rfl
theorem sh_62 : kv_sh[62]? = some (.inl (96, none)) := rfl
theorem sh_63 : kv_sh[63]? = some (.inr (6, [some 64, none, none, none])) := rfl
theorem sh_64 : kv_sh[64]? = some (.inl (96, none)) := rfl
theorem sh_65 : kv_sh[65]? = some (.inr (6, [some 66, none, none, none])) := rfl
theorem sh_66 : kv_sh[66]? = some (.inl (96, none)) := rfl
theorem sh_67 : kv_sh[67]? = some (.inr (6, [some 68, none, none, none])) := rfl
theorem sh_68 : kv_sh[68]? = some (.inl (96, none)) := rfl
theorem sh_69 : kv_sh[69]? = some (.inr (6, [some 70, none, none, none])) := rfl
theorem sh_70 : kv_sh[70]? = some (.inl (96, none)) := rfl
theorem sh_71 : kv_sh[71]? = some (.inr (6, [some 72, none, none, none])) := rfl
theorem sh_72 : kv_sh[72]? = some (.inl (96, none)) := rfl
theorem sh_73 : kv_sh[73]? = some (.inr (6, [some 74, none, none, none])) := rfl
theorem sh_74 : kv_sh[74]? = some (.inl (96, none)) := rfl
theorem sh_75 : kv_sh[75]? = some (.inr (6, [some 76, none, none, none])) := rfl
theorem sh_76 : kv_sh[76]? = some (.inl (96, none)) := rfl
theorem sh_77 : kv_sh[77]? = some (.inr (6, [some 78, none, none, none])) := rfl
theorem sh_78 : kv_sh[78]? = some (.inl (96, none)) := rfl
theorem sh_79 : kv_sh[79]? = some (.inr (8, [some 47, some 82, some 91, some 80, some 81, none, none, none, none, none])) := rfl
theorem sh_80 : kv_sh[80]? = some (.inl (24, none)) := rfl
theorem sh_81 : kv_sh[81]? = some (.inl (3, none)) := rfl
theorem sh_82 : kv_sh[82]? = some (.inr (1, [some 83, some 84, some 85, some 86, some 87, some 88, some 89, some 90, none])) := rfl
theorem sh_83 : kv_sh[83]? = some (.inl (8, none)) := rfl
theorem sh_84 : kv_sh[84]? = some (.inl (8, none)) := rfl
theorem sh_85 : kv_sh[85]? = some (.inl (8, none)) := rfl
theorem sh_86 : kv_sh[86]? = some (.inl (8, none)) := rfl
theorem sh_87 : kv_sh[87]? = some (.inl (8, none)) := rfl
theorem sh_88 : kv_sh[88]? = some (.inl (8, none)) := rfl
theorem sh_89 : kv_sh[89]? = some (.inl (8, none)) := rfl
theorem sh_90 : kv_sh[90]? = some (.inl (8, none)) := rfl
theorem sh_91 : kv_sh[91]? = some (.inr (0, [some 92, some 93, some 94, none, none, none, none, none])) := rfl
theorem sh_92 : kv_sh[92]? = some (.inl (8, none)) := rfl
theorem sh_93 : kv_sh[93]? = some (.inl (8, none)) := rfl
theorem sh_94 : kv_sh[94]? = some (.inl (8, none)) := rfl
theorem sh_95 : kv_sh[95]? = some (.inr (8, [some 47, some 98, some 107, some 96, some 97, none, none, none, none, none])) := rfl
theorem sh_96 : kv_sh[96]? = some (.inl (24, none)) := rfl
theorem sh_97 : kv_sh[97]? = some (.inl (3, none)) := rfl
theorem sh_98 : kv_sh[98]? = some (.inr (1, [some 99, some 100, some 101, some 102, some 103, some 104, some 105, some 106, none])) := rfl
theorem sh_99 : kv_sh[99]? = some (.inl (8, none)) := rfl
theorem sh_100 : kv_sh[100]? = some (.inl (8, none)) := rfl
theorem sh_101 : kv_sh[101]? = some (.inl (8, none)) := rfl
theorem sh_102 : kv_sh[102]? = some (.inl (8, none)) := rfl
theorem sh_103 : kv_sh[103]? = some (.inl (8, none)) := rfl
theorem sh_104 : kv_sh[104]? = some (.inl (8, none)) := rfl
theorem sh_105 : kv_sh[105]? = some (.inl (8, none)) := rfl
theorem sh_106 : kv_sh[106]? = some (.inl (8, none)) := rfl
theorem sh_107 : kv_sh[107]? = some (.inr (0, [some 108, some 109, some 110, none, none, none, none, none])) := rfl
theorem sh_108 : kv_sh[108]? = some (.inl (8, none)) := rfl
theorem sh_109 : kv_sh[109]? = some (.inl (8, none)) := rfl
theorem sh_110 : kv_sh[110]? = some (.inl (8, none)) := rfl
theorem sh_111 : kv_sh[111]? = some (.inr (10, [some 112, some 113, some 114, none, some 115, some 116, some 117, some 118, some 119, some 120, some 121, some 122, some 123, some 124, some 125, some 126, some 127, some 128, some 129, none, some 130, none, none, none, none, none, none, none, none, none, none, none, some 131, some 132, some 133, some 134, none, some 135])) := rfl
theorem sh_112 : kv_sh[112]? = some (.inl (3098, none)) := rfl
theorem sh_113 : kv_sh[113]? = some (.inl (3098, none)) := rfl
theorem sh_114 : kv_sh[114]? = some (.inl (3098, none)) := rfl
theorem sh_115 : kv_sh[115]? = some (.inl (4, none)) := rfl
theorem sh_116 : kv_sh[116]? = some (.inl (4, none)) := rfl
theorem sh_117 : kv_sh[117]? = some (.inl (96, none)) := rfl
theorem sh_118 : kv_sh[118]? = some (.inl (5, none)) := rfl
theorem sh_119 : kv_sh[119]? = some (.inl (5, none)) := rfl
theorem sh_120 : kv_sh[120]? = some (.inl (5, none)) := rfl
theorem sh_121 : kv_sh[121]? = some (.inl (5, none)) := rfl
theorem sh_122 : kv_sh[122]? = some (.inl (120, none)) := rfl
theorem sh_123 : kv_sh[123]? = some (.inl (8, none)) := rfl
theorem sh_124 : kv_sh[124]? = some (.inl (8, none)) := rfl
theorem sh_125 : kv_sh[125]? = some (.inl (256, none)) := rfl
theorem sh_126 : kv_sh[126]? = some (.inl (98, none)) := rfl
theorem sh_127 : kv_sh[127]? = some (.inl (24, none)) := rfl
theorem sh_128 : kv_sh[128]? = some (.inl (256, none)) := rfl
theorem sh_129 : kv_sh[129]? = some (.inl (256, none)) := rfl
theorem sh_130 : kv_sh[130]? = some (.inl (96, none)) := rfl
theorem sh_131 : kv_sh[131]? = some (.inl (128, none)) := rfl
theorem sh_132 : kv_sh[132]? = some (.inl (100, none)) := rfl
theorem sh_133 : kv_sh[133]? = some (.inl (24, none)) := rfl
theorem sh_134 : kv_sh[134]? = some (.inl (60, none)) := rfl
theorem sh_135 : kv_sh[135]? = some (.inl (60, none)) := rfl
theorem co_6 : kv_Co 6 := ⟨rfl, rfl, rfl, rfl⟩
theorem co_10 : kv_Co 10 := ⟨rfl, rfl, rfl, rfl⟩
theorem co_14 : kv_Co 14 := ⟨rfl, rfl, rfl, rfl⟩
theorem co_91 : kv_Co 91 := ⟨rfl, rfl, rfl, rfl⟩
theorem co_107 : kv_Co 107 := ⟨rfl, rfl, rfl, rfl⟩
theorem le_82 : kv_Le 82 := ⟨rfl, rfl, rfl, rfl, rfl, rfl, rfl, rfl, rfl⟩
theorem le_98 : kv_Le 98 := ⟨rfl, rfl, rfl, rfl, rfl, rfl, rfl, rfl, rfl⟩
theorem wo_79 : kv_Wo 79 := ⟨rfl, rfl, rfl, le_82, co_91⟩
theorem wo_95 : kv_Wo 95 := ⟨rfl, rfl, rfl, le_98, co_107⟩

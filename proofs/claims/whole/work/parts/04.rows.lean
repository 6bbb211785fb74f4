section KR
variable {α : Type} {val : α → Option Value} {K : kv_K} {pc pc' tgt : Nat} {ls : List (Option Value)} {st : List Value} {h : kv_H} {R R1 R2 : Option (α × kv_H)}
def kv_d (K : kv_K) (pc : Nat) (i : Instr) (n pc' : Nat) : Prop := decode K.2.1 pc = .ok (i, n) ∧ pc + n = pc'
def kv_c (K : kv_K) (pc : Nat) (v : Int32) (pc' : Nat) : Prop :=
  (∃ n : Int, (decode K.2.1 pc = .ok (.iconst n, 1) ∧ Int32.ofInt n = v ∧ pc + 1 = pc') ∨ (decode K.2.1 pc = .ok (.bipush n, 2) ∧ (Int8.ofInt n).toInt32 = v ∧ pc + 2 = pc') ∨ (decode K.2.1 pc = .ok (.sipush n, 3) ∧ (Int16.ofInt n).toInt32 = v ∧ pc + 3 = pc')) ∨
  (∃ x : Nat, (decode K.2.1 pc = .ok (.ldc x, 2) ∧ Cond.constant K.1.cls x v ∈ kv_T ∧ pc + 2 = pc') ∨ (decode K.2.1 pc = .ok (.ldc_w x, 3) ∧ Cond.constant K.1.cls x v ∈ kv_T ∧ pc + 3 = pc'))
def kv_cL (K : kv_K) (pc : Nat) (v : Int64) (pc' : Nat) : Prop :=
  (∃ n : Fin 2, decode K.2.1 pc = .ok (.lconst n, 1) ∧ Int64.ofNat (n : Nat) = v ∧ pc + 1 = pc') ∨ (∃ x : Nat, decode K.2.1 pc = .ok (.ldc2_w x, 3) ∧ Cond.constantLong K.1.cls x v ∈ kv_T ∧ pc + 3 = pc')
def kv_if (K : kv_K) (pc : Nat) (c : Jvm.ClassFile.Cond) (tgt pc' : Nat) : Prop := ∃ off : Int, decode K.2.1 pc = .ok (.ifCond c off, 3) ∧ (pc : Int) + off = (tgt : Int) ∧ pc + 3 = pc'
def kv_ic (K : kv_K) (pc : Nat) (c : Jvm.ClassFile.Cond) (tgt pc' : Nat) : Prop := ∃ off : Int, decode K.2.1 pc = .ok (.if_icmp c off, 3) ∧ (pc : Int) + off = (tgt : Int) ∧ pc + 3 = pc'
def kv_go (K : kv_K) (pc tgt : Nat) : Prop := ∃ off : Int, decode K.2.1 pc = .ok (.goto off, 3) ∧ (pc : Int) + off = (tgt : Int)
def kv_k {β : Type} (x : Int32) (n : Nat) (R : Option β) : Option β := if x < 0 ∨ n ≤ x.toNatClampNeg then none else R
theorem kv_k_some {β : Type} {x : Int32} {n : Nat} {R : Option β} {r : β} (h : kv_k x n R = some r) : vp_in x n ∧ R = some r := by
  unfold kv_k at h
  split at h
  · cases h
  · rename_i q; exact ⟨q, h⟩
/-- a divisor -/
def kv_z {β : Type} (y : Int32) (R : Option β) : Option β := if y = 0 then none else R
theorem kv_z_some {β : Type} {y : Int32} {R : Option β} {r : β} (h : kv_z y R = some r) : ¬ y = 0 ∧ R = some r := by
  unfold kv_z at h
  split at h
  · cases h
  · rename_i q; exact ⟨q, h⟩
/-- an answer of a small type -/
def kv_t {β : Type} (ty : FieldType) (v : Int32) (R : Option β) : Option β := if narrow ty (.int v) = .int v then R else none
theorem kv_t_some {β : Type} {ty : FieldType} {v : Int32} {R : Option β} {r : β} (h : kv_t ty v R = some r) : narrow ty (.int v) = .int v ∧ R = some r := by
  unfold kv_t at h
  split at h
  · rename_i q; exact ⟨q, h⟩
  · cases h
def kv_b {β γ : Type} (M : Option (β × kv_H)) (C : β → kv_H → Option γ) : Option γ := match M with
  | none => none
  | some p => C p.1 p.2
def kv_jn {β γ : Type} (J : β) (E : β → Option γ) : Option γ := E J
theorem kr_kill {ls' : List (Option Value)} (hs : ∀ (j : Nat) (v : Value), ls'[j]? = some (some v) → ls[j]? = some (some v)) (k : kv_S val K pc ls' st h R) : kv_S val K pc ls st h R := by
  intro r h' hR p l e s m args below meth c H locs la G C hP hS hL
  exact k r h' hR p l e s m args below meth c H locs la G C hP hS (kv_L_mono hL hs)
theorem kr_const {v : Int32} (hd : kv_c K pc v pc') (k : kv_S val K pc' ls (.int v :: st) h R) : kv_S val K pc ls st h R := by
  intro r h' hR p l e s m args below meth c H locs la G C hP hS hL
  have kk := k r h' hR p l e s m args below meth c H locs la G C hP hS hL
  rcases hd with ⟨n, ⟨h1, h2, rfl⟩ | ⟨h1, h2, rfl⟩ | ⟨h1, h2, rfl⟩⟩ | ⟨x, ⟨h1, h2, rfl⟩ | ⟨h1, h2, rfl⟩⟩
  · exact lv_iconst C.1 C.2.1 h1 h2 kk
  · exact lv_bipush C.1 C.2.1 h1 h2 kk
  · exact lv_sipush C.1 C.2.1 h1 h2 kk
  · exact lv_ldc C.1 C.2.1 C.2.2.2.1 (C.2.2.2.2.1 _ h2) h1 kk
  · exact lv_ldcw C.1 C.2.1 C.2.2.2.1 (C.2.2.2.2.1 _ h2) h1 kk
theorem kr_constL {v : Int64} (hd : kv_cL K pc v pc') (k : kv_S val K pc' ls (.long v :: st) h R) : kv_S val K pc ls st h R := by
  intro r h' hR p l e s m args below meth c H locs la G C hP hS hL
  have kk := k r h' hR p l e s m args below meth c H locs la G C hP hS hL
  rcases hd with ⟨n, h1, h2, rfl⟩ | ⟨x, h1, h2, rfl⟩
  · exact lv_lconst C.1 C.2.1 h1 h2 kk
  · exact lv_ldc2 C.1 C.2.1 C.2.2.2.1 (C.2.2.2.2.1 _ h2) h1 kk
theorem kr_goto (hd : kv_go K pc tgt) (k : kv_S val K tgt ls st h R) : kv_S val K pc ls st h R := by
  obtain ⟨off, h1, h2⟩ := hd
  intro r h' hR p l e s m args below meth c H locs la G C hP hS hL
  exact lv_goto C.1 C.2.1 h1 h2 (k r h' hR p l e s m args below meth c H locs la G C hP hS hL)

theorem kr_iadd {x y : Int32} (hd : kv_d K pc .iadd 1 pc') (k : kv_S val K pc' ls (.int (x + y) :: st) h R) : kv_S val K pc ls (.int y :: .int x :: st) h R := by
  obtain ⟨h1, rfl⟩ := hd
  intro r h' hR p l e s m args below meth c H locs la G C hP hS hL
  exact lv_iadd C.1 C.2.1 h1 (k r h' hR p l e s m args below meth c H locs la G C hP hS hL)
theorem kr_isub {x y : Int32} (hd : kv_d K pc .isub 1 pc') (k : kv_S val K pc' ls (.int (x - y) :: st) h R) : kv_S val K pc ls (.int y :: .int x :: st) h R := by
  obtain ⟨h1, rfl⟩ := hd
  intro r h' hR p l e s m args below meth c H locs la G C hP hS hL
  exact lv_isub C.1 C.2.1 h1 (k r h' hR p l e s m args below meth c H locs la G C hP hS hL)
theorem kr_imul {x y : Int32} (hd : kv_d K pc .imul 1 pc') (k : kv_S val K pc' ls (.int (x * y) :: st) h R) : kv_S val K pc ls (.int y :: .int x :: st) h R := by
  obtain ⟨h1, rfl⟩ := hd
  intro r h' hR p l e s m args below meth c H locs la G C hP hS hL
  exact lv_imul C.1 C.2.1 h1 (k r h' hR p l e s m args below meth c H locs la G C hP hS hL)
theorem kr_iand {x y : Int32} (hd : kv_d K pc .iand 1 pc') (k : kv_S val K pc' ls (.int (x &&& y) :: st) h R) : kv_S val K pc ls (.int y :: .int x :: st) h R := by
  obtain ⟨h1, rfl⟩ := hd
  intro r h' hR p l e s m args below meth c H locs la G C hP hS hL
  exact lv_iand C.1 C.2.1 h1 (k r h' hR p l e s m args below meth c H locs la G C hP hS hL)
theorem kr_ior {x y : Int32} (hd : kv_d K pc .ior 1 pc') (k : kv_S val K pc' ls (.int (x ||| y) :: st) h R) : kv_S val K pc ls (.int y :: .int x :: st) h R := by
  obtain ⟨h1, rfl⟩ := hd
  intro r h' hR p l e s m args below meth c H locs la G C hP hS hL
  exact lv_ior C.1 C.2.1 h1 (k r h' hR p l e s m args below meth c H locs la G C hP hS hL)
theorem kr_ixor {x y : Int32} (hd : kv_d K pc .ixor 1 pc') (k : kv_S val K pc' ls (.int (x ^^^ y) :: st) h R) : kv_S val K pc ls (.int y :: .int x :: st) h R := by
  obtain ⟨h1, rfl⟩ := hd
  intro r h' hR p l e s m args below meth c H locs la G C hP hS hL
  exact lv_ixor C.1 C.2.1 h1 (k r h' hR p l e s m args below meth c H locs la G C hP hS hL)
theorem kr_ineg {x : Int32} (hd : kv_d K pc .ineg 1 pc') (k : kv_S val K pc' ls (.int (-x) :: st) h R) : kv_S val K pc ls (.int x :: st) h R := by
  obtain ⟨h1, rfl⟩ := hd
  intro r h' hR p l e s m args below meth c H locs la G C hP hS hL
  exact lv_ineg C.1 C.2.1 h1 (k r h' hR p l e s m args below meth c H locs la G C hP hS hL)
theorem kr_ishl {x y : Int32} (hd : kv_d K pc .ishl 1 pc') (k : kv_S val K pc' ls (.int (x <<< (y &&& 31)) :: st) h R) : kv_S val K pc ls (.int y :: .int x :: st) h R := by
  obtain ⟨h1, rfl⟩ := hd
  intro r h' hR p l e s m args below meth c H locs la G C hP hS hL
  exact lv_ishl C.1 C.2.1 h1 (k r h' hR p l e s m args below meth c H locs la G C hP hS hL)
theorem kr_ishr {x y : Int32} (hd : kv_d K pc .ishr 1 pc') (k : kv_S val K pc' ls (.int (x >>> (y &&& 31)) :: st) h R) : kv_S val K pc ls (.int y :: .int x :: st) h R := by
  obtain ⟨h1, rfl⟩ := hd
  intro r h' hR p l e s m args below meth c H locs la G C hP hS hL
  exact lv_ishr C.1 C.2.1 h1 (k r h' hR p l e s m args below meth c H locs la G C hP hS hL)
theorem kr_ladd {x y : Int64} (hd : kv_d K pc .ladd 1 pc') (k : kv_S val K pc' ls (.long (x + y) :: st) h R) : kv_S val K pc ls (.long y :: .long x :: st) h R := by
  obtain ⟨h1, rfl⟩ := hd
  intro r h' hR p l e s m args below meth c H locs la G C hP hS hL
  exact lv_ladd C.1 C.2.1 h1 (k r h' hR p l e s m args below meth c H locs la G C hP hS hL)
theorem kr_lmul {x y : Int64} (hd : kv_d K pc .lmul 1 pc') (k : kv_S val K pc' ls (.long (x * y) :: st) h R) : kv_S val K pc ls (.long y :: .long x :: st) h R := by
  obtain ⟨h1, rfl⟩ := hd
  intro r h' hR p l e s m args below meth c H locs la G C hP hS hL
  exact lv_lmul C.1 C.2.1 h1 (k r h' hR p l e s m args below meth c H locs la G C hP hS hL)
theorem kr_lsub {x y : Int64} (hd : kv_d K pc .lsub 1 pc') (k : kv_S val K pc' ls (.long (x - y) :: st) h R) : kv_S val K pc ls (.long y :: .long x :: st) h R := by
  obtain ⟨h1, rfl⟩ := hd
  intro r h' hR p l e s m args below meth c H locs la G C hP hS hL
  exact lv_lsub C.1 C.2.1 h1 (k r h' hR p l e s m args below meth c H locs la G C hP hS hL)
theorem kr_i2l {x : Int32} (hd : kv_d K pc .i2l 1 pc') (k : kv_S val K pc' ls (.long x.toInt64 :: st) h R) : kv_S val K pc ls (.int x :: st) h R := by
  obtain ⟨h1, rfl⟩ := hd
  intro r h' hR p l e s m args below meth c H locs la G C hP hS hL
  exact lv_i2l C.1 C.2.1 h1 rfl (k r h' hR p l e s m args below meth c H locs la G C hP hS hL)
theorem kr_i2s {x : Int32} (hd : kv_d K pc .i2s 1 pc') (k : kv_S val K pc' ls (.int x.toInt16.toInt32 :: st) h R) : kv_S val K pc ls (.int x :: st) h R := by
  obtain ⟨h1, rfl⟩ := hd
  intro r h' hR p l e s m args below meth c H locs la G C hP hS hL
  exact lv_i2s C.1 C.2.1 h1 rfl (k r h' hR p l e s m args below meth c H locs la G C hP hS hL)
theorem kr_i2c {x : Int32} (hd : kv_d K pc .i2c 1 pc') (k : kv_S val K pc' ls (.int (x.toUInt32 % 65536).toInt32 :: st) h R) : kv_S val K pc ls (.int x :: st) h R := by
  obtain ⟨h1, rfl⟩ := hd
  intro r h' hR p l e s m args below meth c H locs la G C hP hS hL
  exact lv_i2c C.1 C.2.1 h1 rfl (k r h' hR p l e s m args below meth c H locs la G C hP hS hL)
theorem kr_i2b {x : Int32} (hd : kv_d K pc .i2b 1 pc') (k : kv_S val K pc' ls (.int x.toInt8.toInt32 :: st) h R) : kv_S val K pc ls (.int x :: st) h R := by
  obtain ⟨h1, rfl⟩ := hd
  intro r h' hR p l e s m args below meth c H locs la G C hP hS hL
  exact lv_i2b C.1 C.2.1 h1 rfl (k r h' hR p l e s m args below meth c H locs la G C hP hS hL)
theorem kr_iushr {x y : Int32} (hd : kv_d K pc .iushr 1 pc') (k : kv_S val K pc' ls (.int (x.toUInt32 >>> (y.toUInt32 &&& Int32.toUInt32 31)).toInt32 :: st) h R) : kv_S val K pc ls (.int y :: .int x :: st) h R := by
  obtain ⟨h1, rfl⟩ := hd
  intro r h' hR p l e s m args below meth c H locs la G C hP hS hL
  exact lv_iushr C.1 C.2.1 h1 rfl (k r h' hR p l e s m args below meth c H locs la G C hP hS hL)
theorem kr_idiv {x y : Int32} (hd : kv_d K pc .idiv 1 pc') (k : kv_S val K pc' ls (.int (x / y) :: st) h R) : kv_S val K pc ls (.int y :: .int x :: st) h (kv_z y R) := by
  obtain ⟨h1, rfl⟩ := hd
  intro r h' hR p l e s m args below meth c H locs la G C hP hS hL
  obtain ⟨hz, hR⟩ := kv_z_some hR
  exact lv_idiv C.1 C.2.1 h1 hz (k r h' hR p l e s m args below meth c H locs la G C hP hS hL)
/-- a divisor that is known -/
theorem kr_idivK {x y : Int32} (hz : ¬ y = 0) (hd : kv_d K pc .idiv 1 pc') (k : kv_S val K pc' ls (.int (x / y) :: st) h R) : kv_S val K pc ls (.int y :: .int x :: st) h R := by
  obtain ⟨h1, rfl⟩ := hd
  intro r h' hR p l e s m args below meth c H locs la G C hP hS hL
  exact lv_idiv C.1 C.2.1 h1 hz (k r h' hR p l e s m args below meth c H locs la G C hP hS hL)
theorem kr_irem {x y : Int32} (hd : kv_d K pc .irem 1 pc') (k : kv_S val K pc' ls (.int (x - x / y * y) :: st) h R) : kv_S val K pc ls (.int y :: .int x :: st) h (kv_z y R) := by
  obtain ⟨h1, rfl⟩ := hd
  intro r h' hR p l e s m args below meth c H locs la G C hP hS hL
  obtain ⟨hz, hR⟩ := kv_z_some hR
  exact lv_irem C.1 C.2.1 h1 hz (k r h' hR p l e s m args below meth c H locs la G C hP hS hL)
/-- a divisor that is known -/
theorem kr_iremK {x y : Int32} (hz : ¬ y = 0) (hd : kv_d K pc .irem 1 pc') (k : kv_S val K pc' ls (.int (x - x / y * y) :: st) h R) : kv_S val K pc ls (.int y :: .int x :: st) h R := by
  obtain ⟨h1, rfl⟩ := hd
  intro r h' hR p l e s m args below meth c H locs la G C hP hS hL
  exact lv_irem C.1 C.2.1 h1 hz (k r h' hR p l e s m args below meth c H locs la G C hP hS hL)
theorem kr_lcmp {x y : Int64} (hd : kv_d K pc .lcmp 1 pc') (k : kv_S val K pc' ls (.int (lg_cmp x y) :: st) h R) : kv_S val K pc ls (.long y :: .long x :: st) h R := by
  obtain ⟨h1, rfl⟩ := hd
  intro r h' hR p l e s m args below meth c H locs la G C hP hS hL
  exact W.lcmp C.1 C.2.1 h1 (k r h' hR p l e s m args below meth c H locs la G C hP hS hL)
theorem kr_dup {v : Value} (hd : kv_d K pc .dup 1 pc') (hv : v.category = 1) (k : kv_S val K pc' ls (v :: v :: st) h R) : kv_S val K pc ls (v :: st) h R := by
  obtain ⟨h1, rfl⟩ := hd
  intro r h' hR p l e s m args below meth c H locs la G C hP hS hL
  exact lv_dup C.1 C.2.1 h1 (by rw [kv_v_cat]; exact hv) (k r h' hR p l e s m args below meth c H locs la G C hP hS hL)
theorem kr_dup2 {v w : Value} (hd : kv_d K pc .dup2 1 pc') (hv : v.category = 1) (hw : w.category = 1) (k : kv_S val K pc' ls (v :: w :: v :: w :: st) h R) : kv_S val K pc ls (v :: w :: st) h R := by
  obtain ⟨h1, rfl⟩ := hd
  intro r h' hR p l e s m args below meth c H locs la G C hP hS hL
  exact lv_dup2_11 C.1 C.2.1 h1 (by rw [kv_v_cat]; exact hv) (by rw [kv_v_cat]; exact hw) (k r h' hR p l e s m args below meth c H locs la G C hP hS hL)
theorem kr_pop {v : Value} (hd : kv_d K pc .pop 1 pc') (hv : v.category = 1) (k : kv_S val K pc' ls st h R) : kv_S val K pc ls (v :: st) h R := by
  obtain ⟨h1, rfl⟩ := hd
  intro r h' hR p l e s m args below meth c H locs la G C hP hS hL
  exact lv_pop C.1 C.2.1 h1 (by rw [kv_v_cat]; exact hv) (k r h' hR p l e s m args below meth c H locs la G C hP hS hL)
theorem kr_if_eq {x : Int32} [D : Decidable (x = 0)] (hd : kv_if K pc .eq tgt pc') (k1 : kv_S val K tgt ls st h R1) (k2 : kv_S val K pc' ls st h R2) : kv_S val K pc ls (.int x :: st) h (if x = 0 then R1 else R2) := by
  obtain ⟨off, h1, h2, rfl⟩ := hd
  intro r h' hR p l e s m args below meth c H locs la G C hP hS hL
  exact lv_if_eq C.1 C.2.1 h1 h2 (fun q => k1 r h' (by rw [if_pos q] at hR; exact hR) p l e s m args below meth c H locs la G C hP hS hL) (fun q => k2 r h' (by rw [if_neg q] at hR; exact hR) p l e s m args below meth c H locs la G C hP hS hL)
theorem kr_icmp_eq {x y : Int32} [D : Decidable (x = y)] (hd : kv_ic K pc .eq tgt pc') (k1 : kv_S val K tgt ls st h R1) (k2 : kv_S val K pc' ls st h R2) : kv_S val K pc ls (.int y :: .int x :: st) h (if x = y then R1 else R2) := by
  obtain ⟨off, h1, h2, rfl⟩ := hd
  intro r h' hR p l e s m args below meth c H locs la G C hP hS hL
  exact lv_icmp_eq C.1 C.2.1 h1 h2 (fun q => k1 r h' (by rw [if_pos q] at hR; exact hR) p l e s m args below meth c H locs la G C hP hS hL) (fun q => k2 r h' (by rw [if_neg q] at hR; exact hR) p l e s m args below meth c H locs la G C hP hS hL)
theorem kr_if_ne {x : Int32} [D : Decidable (x = 0)] (hd : kv_if K pc .ne tgt pc') (k1 : kv_S val K tgt ls st h R2) (k2 : kv_S val K pc' ls st h R1) : kv_S val K pc ls (.int x :: st) h (if x = 0 then R1 else R2) := by
  obtain ⟨off, h1, h2, rfl⟩ := hd
  intro r h' hR p l e s m args below meth c H locs la G C hP hS hL
  exact lv_if_ne C.1 C.2.1 h1 h2 (fun q => k1 r h' (by rw [if_neg q] at hR; exact hR) p l e s m args below meth c H locs la G C hP hS hL) (fun q => k2 r h' (by rw [if_pos q] at hR; exact hR) p l e s m args below meth c H locs la G C hP hS hL)
theorem kr_icmp_ne {x y : Int32} [D : Decidable (x = y)] (hd : kv_ic K pc .ne tgt pc') (k1 : kv_S val K tgt ls st h R2) (k2 : kv_S val K pc' ls st h R1) : kv_S val K pc ls (.int y :: .int x :: st) h (if x = y then R1 else R2) := by
  obtain ⟨off, h1, h2, rfl⟩ := hd
  intro r h' hR p l e s m args below meth c H locs la G C hP hS hL
  exact lv_icmp_ne C.1 C.2.1 h1 h2 (fun q => k1 r h' (by rw [if_neg q] at hR; exact hR) p l e s m args below meth c H locs la G C hP hS hL) (fun q => k2 r h' (by rw [if_pos q] at hR; exact hR) p l e s m args below meth c H locs la G C hP hS hL)
theorem kr_if_lt {x : Int32} [D : Decidable (x < 0)] (hd : kv_if K pc .lt tgt pc') (k1 : kv_S val K tgt ls st h R1) (k2 : kv_S val K pc' ls st h R2) : kv_S val K pc ls (.int x :: st) h (if x < 0 then R1 else R2) := by
  obtain ⟨off, h1, h2, rfl⟩ := hd
  intro r h' hR p l e s m args below meth c H locs la G C hP hS hL
  exact lv_if_lt C.1 C.2.1 h1 h2 (fun q => k1 r h' (by rw [if_pos q] at hR; exact hR) p l e s m args below meth c H locs la G C hP hS hL) (fun q => k2 r h' (by rw [if_neg q] at hR; exact hR) p l e s m args below meth c H locs la G C hP hS hL)
theorem kr_icmp_lt {x y : Int32} [D : Decidable (x < y)] (hd : kv_ic K pc .lt tgt pc') (k1 : kv_S val K tgt ls st h R1) (k2 : kv_S val K pc' ls st h R2) : kv_S val K pc ls (.int y :: .int x :: st) h (if x < y then R1 else R2) := by
  obtain ⟨off, h1, h2, rfl⟩ := hd
  intro r h' hR p l e s m args below meth c H locs la G C hP hS hL
  exact lv_icmp_lt C.1 C.2.1 h1 h2 (fun q => k1 r h' (by rw [if_pos q] at hR; exact hR) p l e s m args below meth c H locs la G C hP hS hL) (fun q => k2 r h' (by rw [if_neg q] at hR; exact hR) p l e s m args below meth c H locs la G C hP hS hL)
theorem kr_if_ge {x : Int32} [D : Decidable (0 ≤ x)] (hd : kv_if K pc .ge tgt pc') (k1 : kv_S val K tgt ls st h R1) (k2 : kv_S val K pc' ls st h R2) : kv_S val K pc ls (.int x :: st) h (if 0 ≤ x then R1 else R2) := by
  obtain ⟨off, h1, h2, rfl⟩ := hd
  intro r h' hR p l e s m args below meth c H locs la G C hP hS hL
  exact lv_if_ge C.1 C.2.1 h1 h2 (fun q => k1 r h' (by rw [if_pos q] at hR; exact hR) p l e s m args below meth c H locs la G C hP hS hL) (fun q => k2 r h' (by rw [if_neg q] at hR; exact hR) p l e s m args below meth c H locs la G C hP hS hL)
theorem kr_icmp_ge {x y : Int32} [D : Decidable (y ≤ x)] (hd : kv_ic K pc .ge tgt pc') (k1 : kv_S val K tgt ls st h R1) (k2 : kv_S val K pc' ls st h R2) : kv_S val K pc ls (.int y :: .int x :: st) h (if y ≤ x then R1 else R2) := by
  obtain ⟨off, h1, h2, rfl⟩ := hd
  intro r h' hR p l e s m args below meth c H locs la G C hP hS hL
  exact lv_icmp_ge C.1 C.2.1 h1 h2 (fun q => k1 r h' (by rw [if_pos q] at hR; exact hR) p l e s m args below meth c H locs la G C hP hS hL) (fun q => k2 r h' (by rw [if_neg q] at hR; exact hR) p l e s m args below meth c H locs la G C hP hS hL)
theorem kr_if_gt {x : Int32} [D : Decidable (0 < x)] (hd : kv_if K pc .gt tgt pc') (k1 : kv_S val K tgt ls st h R1) (k2 : kv_S val K pc' ls st h R2) : kv_S val K pc ls (.int x :: st) h (if 0 < x then R1 else R2) := by
  obtain ⟨off, h1, h2, rfl⟩ := hd
  intro r h' hR p l e s m args below meth c H locs la G C hP hS hL
  exact lv_if_gt C.1 C.2.1 h1 h2 (fun q => k1 r h' (by rw [if_pos q] at hR; exact hR) p l e s m args below meth c H locs la G C hP hS hL) (fun q => k2 r h' (by rw [if_neg q] at hR; exact hR) p l e s m args below meth c H locs la G C hP hS hL)
theorem kr_icmp_gt {x y : Int32} [D : Decidable (y < x)] (hd : kv_ic K pc .gt tgt pc') (k1 : kv_S val K tgt ls st h R1) (k2 : kv_S val K pc' ls st h R2) : kv_S val K pc ls (.int y :: .int x :: st) h (if y < x then R1 else R2) := by
  obtain ⟨off, h1, h2, rfl⟩ := hd
  intro r h' hR p l e s m args below meth c H locs la G C hP hS hL
  exact lv_icmp_gt C.1 C.2.1 h1 h2 (fun q => k1 r h' (by rw [if_pos q] at hR; exact hR) p l e s m args below meth c H locs la G C hP hS hL) (fun q => k2 r h' (by rw [if_neg q] at hR; exact hR) p l e s m args below meth c H locs la G C hP hS hL)
theorem kr_if_le {x : Int32} [D : Decidable (x ≤ 0)] (hd : kv_if K pc .le tgt pc') (k1 : kv_S val K tgt ls st h R1) (k2 : kv_S val K pc' ls st h R2) : kv_S val K pc ls (.int x :: st) h (if x ≤ 0 then R1 else R2) := by
  obtain ⟨off, h1, h2, rfl⟩ := hd
  intro r h' hR p l e s m args below meth c H locs la G C hP hS hL
  exact lv_if_le C.1 C.2.1 h1 h2 (fun q => k1 r h' (by rw [if_pos q] at hR; exact hR) p l e s m args below meth c H locs la G C hP hS hL) (fun q => k2 r h' (by rw [if_neg q] at hR; exact hR) p l e s m args below meth c H locs la G C hP hS hL)
theorem kr_icmp_le {x y : Int32} [D : Decidable (x ≤ y)] (hd : kv_ic K pc .le tgt pc') (k1 : kv_S val K tgt ls st h R1) (k2 : kv_S val K pc' ls st h R2) : kv_S val K pc ls (.int y :: .int x :: st) h (if x ≤ y then R1 else R2) := by
  obtain ⟨off, h1, h2, rfl⟩ := hd
  intro r h' hR p l e s m args below meth c H locs la G C hP hS hL
  exact lv_icmp_le C.1 C.2.1 h1 h2 (fun q => k1 r h' (by rw [if_pos q] at hR; exact hR) p l e s m args below meth c H locs la G C hP hS hL) (fun q => k2 r h' (by rw [if_neg q] at hR; exact hR) p l e s m args below meth c H locs la G C hP hS hL)
def kv_ild (K : kv_K) (pc i pc' : Nat) : Prop := (∃ k : Fin 4, decode K.2.1 pc = .ok (.iload_n k, 1) ∧ (k : Nat) = i ∧ pc + 1 = pc') ∨ (decode K.2.1 pc = .ok (.iload i, 2) ∧ pc + 2 = pc')
def kv_ist (K : kv_K) (pc i pc' : Nat) : Prop := (∃ k : Fin 4, decode K.2.1 pc = .ok (.istore_n k, 1) ∧ (k : Nat) = i ∧ pc + 1 = pc') ∨ (decode K.2.1 pc = .ok (.istore i, 2) ∧ pc + 2 = pc')
theorem kr_iload {i : Nat} {x : Int32} (hd : kv_ild K pc i pc') (hl : ls[i]? = some (some (.int x))) (k : kv_S val K pc' ls (.int x :: st) h R) : kv_S val K pc ls st h R := by
  intro r h' hR p l e s m args below meth c H locs la G C hP hS hL
  have kk := k r h' hR p l e s m args below meth c H locs la G C hP hS hL
  rcases hd with ⟨n, h1, h2, rfl⟩ | ⟨h1, rfl⟩
  · exact lv_iload_n C.1 C.2.1 h1 h2 (kv_L_at hL hl) kk
  · exact lv_iload C.1 C.2.1 h1 (kv_L_at hL hl) kk
theorem kr_istore {i : Nat} {x : Int32} (hd : kv_ist K pc i pc') (hn : i < K.2.2.1) (hp : ∀ w : Value, 0 < i → ls[i - 1]? = some (some w) → w.category = 1) (k : kv_S val K pc' (ls.set i (some (.int x))) st h R) : kv_S val K pc ls (.int x :: st) h R := by
  intro r h' hR p l e s m args below meth c H locs la G C hP hS hL
  rcases hd with ⟨n, h1, h2, rfl⟩ | ⟨h1, rfl⟩
  · exact lv_istore_n C.1 C.2.1 h1 h2 hL hn rfl (fun la2 hl2 => k r h' hR p l e s m args below meth c H locs la2 G C hP hS (kv_L_set1 (x := .int x) hl2 hp))
  · exact lv_istore C.1 C.2.1 h1 hL hn rfl (fun la2 hl2 => k r h' hR p l e s m args below meth c H locs la2 G C hP hS (kv_L_set1 (x := .int x) hl2 hp))
def kv_ald (K : kv_K) (pc i pc' : Nat) : Prop := (∃ k : Fin 4, decode K.2.1 pc = .ok (.aload_n k, 1) ∧ (k : Nat) = i ∧ pc + 1 = pc') ∨ (decode K.2.1 pc = .ok (.aload i, 2) ∧ pc + 2 = pc')
def kv_ast (K : kv_K) (pc i pc' : Nat) : Prop := (∃ k : Fin 4, decode K.2.1 pc = .ok (.astore_n k, 1) ∧ (k : Nat) = i ∧ pc + 1 = pc') ∨ (decode K.2.1 pc = .ok (.astore i, 2) ∧ pc + 2 = pc')
theorem kr_aload {i : Nat} {x : Nat} (hd : kv_ald K pc i pc') (hl : ls[i]? = some (some (.ref x))) (k : kv_S val K pc' ls (.ref x :: st) h R) : kv_S val K pc ls st h R := by
  intro r h' hR p l e s m args below meth c H locs la G C hP hS hL
  have kk := k r h' hR p l e s m args below meth c H locs la G C hP hS hL
  rcases hd with ⟨n, h1, h2, rfl⟩ | ⟨h1, rfl⟩
  · exact lv_aload_n C.1 C.2.1 h1 h2 (kv_L_at hL hl) kk
  · exact lv_aload C.1 C.2.1 h1 (kv_L_at hL hl) kk
theorem kr_astore {i : Nat} {x : Nat} (hd : kv_ast K pc i pc') (hn : i < K.2.2.1) (hp : ∀ w : Value, 0 < i → ls[i - 1]? = some (some w) → w.category = 1) (k : kv_S val K pc' (ls.set i (some (.ref x))) st h R) : kv_S val K pc ls (.ref x :: st) h R := by
  intro r h' hR p l e s m args below meth c H locs la G C hP hS hL
  rcases hd with ⟨n, h1, h2, rfl⟩ | ⟨h1, rfl⟩
  · exact lv_astore_n C.1 C.2.1 h1 h2 hL hn rfl (fun la2 hl2 => k r h' hR p l e s m args below meth c H locs la2 G C hP hS (kv_L_set1 (x := .ref x) hl2 hp))
  · exact lv_astore C.1 C.2.1 h1 hL hn rfl (fun la2 hl2 => k r h' hR p l e s m args below meth c H locs la2 G C hP hS (kv_L_set1 (x := .ref x) hl2 hp))
def kv_lld (K : kv_K) (pc i pc' : Nat) : Prop := (∃ k : Fin 4, decode K.2.1 pc = .ok (.lload_n k, 1) ∧ (k : Nat) = i ∧ pc + 1 = pc') ∨ (decode K.2.1 pc = .ok (.lload i, 2) ∧ pc + 2 = pc')
def kv_lst (K : kv_K) (pc i pc' : Nat) : Prop := (∃ k : Fin 4, decode K.2.1 pc = .ok (.lstore_n k, 1) ∧ (k : Nat) = i ∧ pc + 1 = pc') ∨ (decode K.2.1 pc = .ok (.lstore i, 2) ∧ pc + 2 = pc')
theorem kr_lload {i : Nat} {x : Int64} (hd : kv_lld K pc i pc') (hl : ls[i]? = some (some (.long x))) (k : kv_S val K pc' ls (.long x :: st) h R) : kv_S val K pc ls st h R := by
  intro r h' hR p l e s m args below meth c H locs la G C hP hS hL
  have kk := k r h' hR p l e s m args below meth c H locs la G C hP hS hL
  rcases hd with ⟨n, h1, h2, rfl⟩ | ⟨h1, rfl⟩
  · exact lv_lload_n C.1 C.2.1 h1 h2 (kv_L_at hL hl) kk
  · exact lv_lload C.1 C.2.1 h1 (kv_L_at hL hl) kk
theorem kr_lstore {i : Nat} {x : Int64} (hd : kv_lst K pc i pc') (hn : i + 1 < K.2.2.1) (hp : ∀ w : Value, 0 < i → ls[i - 1]? = some (some w) → w.category = 1) (k : kv_S val K pc' ((ls.set i (some (.long x))).set (i + 1) none) st h R) : kv_S val K pc ls (.long x :: st) h R := by
  intro r h' hR p l e s m args below meth c H locs la G C hP hS hL
  rcases hd with ⟨n, h1, h2, rfl⟩ | ⟨h1, rfl⟩
  · exact lv_lstore_n C.1 C.2.1 h1 h2 hL hn rfl (fun la2 hl2 => k r h' hR p l e s m args below meth c H locs la2 G C hP hS (kv_L_set2 (x := .long x) hl2 hp))
  · exact lv_lstore C.1 C.2.1 h1 hL hn rfl (fun la2 hl2 => k r h' hR p l e s m args below meth c H locs la2 G C hP hS (kv_L_set2 (x := .long x) hl2 hp))
def kv_inc (K : kv_K) (pc i : Nat) (v : Int32) (pc' : Nat) : Prop := ∃ n : Int, decode K.2.1 pc = .ok (.iinc i n, 3) ∧ Int32.ofInt n = v ∧ pc + 3 = pc'
theorem kr_iinc {i : Nat} {x v : Int32} (hd : kv_inc K pc i v pc') (hl : ls[i]? = some (some (.int x))) (hn : i < K.2.2.1) (hp : ∀ w : Value, 0 < i → ls[i - 1]? = some (some w) → w.category = 1) (k : kv_S val K pc' (ls.set i (some (.int (x + v)))) st h R) : kv_S val K pc ls st h R := by
  obtain ⟨n, h1, h2, rfl⟩ := hd
  subst h2
  intro r h' hR p l e s m args below meth c H locs la G C hP hS hL
  have hm : (i, kv_v G (.int x)) ∈ kv_prs G 0 ls := kv_prs_mem.mpr ⟨i, _, hl, by simp⟩
  obtain ⟨q, hq⟩ := List.getElem?_of_mem hm
  exact lv_iinc C.1 C.2.1 h1 hL hq rfl hn rfl (fun la2 hl2 => k r h' hR p l e s m args below meth c H locs la2 G C hP hS (kv_L_set1 (x := .int (x + Int32.ofInt n)) hl2 hp))

theorem kv_kill1 {l : List (Option Value)} (i : Nat) : ∀ (j : Nat) (v : Value), (l.set i none)[j]? = some (some v) → l[j]? = some (some v) := by
  intro j v q
  rw [List.getElem?_set] at q
  split at q
  · split at q <;> cases q
  · exact q
def kv_c1 (v : Option Value) : Prop := ∀ w : Value, v = some w → w.category = 1
theorem kv_c1n : kv_c1 none := fun _ h => by cases h
theorem kv_c1i {x : Int32} : kv_c1 (some (.int x)) := fun _ h => by cases h; rfl
theorem kv_c1a {x : Nat} : kv_c1 (some (.ref x)) := fun _ h => by cases h; rfl
theorem kr_iload0 {t : List (Option Value)} {x : Int32} (hd : kv_ild K pc 0 pc') (k : kv_S val K pc' (some (.int x) :: t) (.int x :: st) h R) : kv_S val K pc (some (.int x) :: t) st h R := kr_iload hd rfl k
theorem kr_istore0 {a0 : Option Value} {t : List (Option Value)} {x : Int32} (hd : kv_ist K pc 0 pc') (hn : 0 < K.2.2.1) (k : kv_S val K pc' (some (.int x) :: t) st h R) : kv_S val K pc (a0 :: t) (.int x :: st) h R := kr_istore hd hn (fun w q => absurd q (Nat.lt_irrefl 0)) k
theorem kr_aload0 {t : List (Option Value)} {x : Nat} (hd : kv_ald K pc 0 pc') (k : kv_S val K pc' (some (.ref x) :: t) (.ref x :: st) h R) : kv_S val K pc (some (.ref x) :: t) st h R := kr_aload hd rfl k
theorem kr_astore0 {a0 : Option Value} {t : List (Option Value)} {x : Nat} (hd : kv_ast K pc 0 pc') (hn : 0 < K.2.2.1) (k : kv_S val K pc' (some (.ref x) :: t) st h R) : kv_S val K pc (a0 :: t) (.ref x :: st) h R := kr_astore hd hn (fun w q => absurd q (Nat.lt_irrefl 0)) k
theorem kr_lload0 {t : List (Option Value)} {x : Int64} (hd : kv_lld K pc 0 pc') (k : kv_S val K pc' (some (.long x) :: t) (.long x :: st) h R) : kv_S val K pc (some (.long x) :: t) st h R := kr_lload hd rfl k
theorem kr_lstore0 {a0 a1 : Option Value} {t : List (Option Value)} {x : Int64} (hd : kv_lst K pc 0 pc') (hn : 0 + 1 < K.2.2.1) (k : kv_S val K pc' (some (.long x) :: none :: t) st h R) : kv_S val K pc (a0 :: a1 :: t) (.long x :: st) h R := kr_lstore hd hn (fun w q => absurd q (Nat.lt_irrefl 0)) k
theorem kr_iinc0 {t : List (Option Value)} {x v : Int32} (hd : kv_inc K pc 0 v pc') (hn : 0 < K.2.2.1) (k : kv_S val K pc' (some (.int (x + v)) :: t) st h R) : kv_S val K pc (some (.int x) :: t) st h R := kr_iinc hd rfl hn (fun w q => absurd q (Nat.lt_irrefl 0)) k
theorem kr_kill0 {a0 : Option Value} {t : List (Option Value)} (k : kv_S val K pc (none :: t) st h R) : kv_S val K pc (a0 :: t) st h R := kr_kill (kv_kill1 0 (l := a0 :: t)) k
theorem kr_iload1 {a0 : Option Value} {t : List (Option Value)} {x : Int32} (hd : kv_ild K pc 1 pc') (k : kv_S val K pc' (a0 :: some (.int x) :: t) (.int x :: st) h R) : kv_S val K pc (a0 :: some (.int x) :: t) st h R := kr_iload hd rfl k
theorem kr_istore1 {a0 : Option Value} {a1 : Option Value} {t : List (Option Value)} {x : Int32} (hd : kv_ist K pc 1 pc') (hn : 1 < K.2.2.1) (hp : kv_c1 a0) (k : kv_S val K pc' (a0 :: some (.int x) :: t) st h R) : kv_S val K pc (a0 :: a1 :: t) (.int x :: st) h R := kr_istore hd hn (fun w _ q => hp w (Option.some.inj q)) k
theorem kr_aload1 {a0 : Option Value} {t : List (Option Value)} {x : Nat} (hd : kv_ald K pc 1 pc') (k : kv_S val K pc' (a0 :: some (.ref x) :: t) (.ref x :: st) h R) : kv_S val K pc (a0 :: some (.ref x) :: t) st h R := kr_aload hd rfl k
theorem kr_astore1 {a0 : Option Value} {a1 : Option Value} {t : List (Option Value)} {x : Nat} (hd : kv_ast K pc 1 pc') (hn : 1 < K.2.2.1) (hp : kv_c1 a0) (k : kv_S val K pc' (a0 :: some (.ref x) :: t) st h R) : kv_S val K pc (a0 :: a1 :: t) (.ref x :: st) h R := kr_astore hd hn (fun w _ q => hp w (Option.some.inj q)) k
theorem kr_lload1 {a0 : Option Value} {t : List (Option Value)} {x : Int64} (hd : kv_lld K pc 1 pc') (k : kv_S val K pc' (a0 :: some (.long x) :: t) (.long x :: st) h R) : kv_S val K pc (a0 :: some (.long x) :: t) st h R := kr_lload hd rfl k
theorem kr_lstore1 {a0 : Option Value} {a1 a2 : Option Value} {t : List (Option Value)} {x : Int64} (hd : kv_lst K pc 1 pc') (hn : 1 + 1 < K.2.2.1) (hp : kv_c1 a0) (k : kv_S val K pc' (a0 :: some (.long x) :: none :: t) st h R) : kv_S val K pc (a0 :: a1 :: a2 :: t) (.long x :: st) h R := kr_lstore hd hn (fun w _ q => hp w (Option.some.inj q)) k
theorem kr_iinc1 {a0 : Option Value} {t : List (Option Value)} {x v : Int32} (hd : kv_inc K pc 1 v pc') (hn : 1 < K.2.2.1) (hp : kv_c1 a0) (k : kv_S val K pc' (a0 :: some (.int (x + v)) :: t) st h R) : kv_S val K pc (a0 :: some (.int x) :: t) st h R := kr_iinc hd rfl hn (fun w _ q => hp w (Option.some.inj q)) k
theorem kr_kill1 {a0 : Option Value} {a1 : Option Value} {t : List (Option Value)} (k : kv_S val K pc (a0 :: none :: t) st h R) : kv_S val K pc (a0 :: a1 :: t) st h R := kr_kill (kv_kill1 1 (l := a0 :: a1 :: t)) k
theorem kr_iload2 {a0 a1 : Option Value} {t : List (Option Value)} {x : Int32} (hd : kv_ild K pc 2 pc') (k : kv_S val K pc' (a0 :: a1 :: some (.int x) :: t) (.int x :: st) h R) : kv_S val K pc (a0 :: a1 :: some (.int x) :: t) st h R := kr_iload hd rfl k
theorem kr_istore2 {a0 a1 : Option Value} {a2 : Option Value} {t : List (Option Value)} {x : Int32} (hd : kv_ist K pc 2 pc') (hn : 2 < K.2.2.1) (hp : kv_c1 a1) (k : kv_S val K pc' (a0 :: a1 :: some (.int x) :: t) st h R) : kv_S val K pc (a0 :: a1 :: a2 :: t) (.int x :: st) h R := kr_istore hd hn (fun w _ q => hp w (Option.some.inj q)) k
theorem kr_aload2 {a0 a1 : Option Value} {t : List (Option Value)} {x : Nat} (hd : kv_ald K pc 2 pc') (k : kv_S val K pc' (a0 :: a1 :: some (.ref x) :: t) (.ref x :: st) h R) : kv_S val K pc (a0 :: a1 :: some (.ref x) :: t) st h R := kr_aload hd rfl k
theorem kr_astore2 {a0 a1 : Option Value} {a2 : Option Value} {t : List (Option Value)} {x : Nat} (hd : kv_ast K pc 2 pc') (hn : 2 < K.2.2.1) (hp : kv_c1 a1) (k : kv_S val K pc' (a0 :: a1 :: some (.ref x) :: t) st h R) : kv_S val K pc (a0 :: a1 :: a2 :: t) (.ref x :: st) h R := kr_astore hd hn (fun w _ q => hp w (Option.some.inj q)) k
theorem kr_lload2 {a0 a1 : Option Value} {t : List (Option Value)} {x : Int64} (hd : kv_lld K pc 2 pc') (k : kv_S val K pc' (a0 :: a1 :: some (.long x) :: t) (.long x :: st) h R) : kv_S val K pc (a0 :: a1 :: some (.long x) :: t) st h R := kr_lload hd rfl k
theorem kr_lstore2 {a0 a1 : Option Value} {a2 a3 : Option Value} {t : List (Option Value)} {x : Int64} (hd : kv_lst K pc 2 pc') (hn : 2 + 1 < K.2.2.1) (hp : kv_c1 a1) (k : kv_S val K pc' (a0 :: a1 :: some (.long x) :: none :: t) st h R) : kv_S val K pc (a0 :: a1 :: a2 :: a3 :: t) (.long x :: st) h R := kr_lstore hd hn (fun w _ q => hp w (Option.some.inj q)) k
theorem kr_iinc2 {a0 a1 : Option Value} {t : List (Option Value)} {x v : Int32} (hd : kv_inc K pc 2 v pc') (hn : 2 < K.2.2.1) (hp : kv_c1 a1) (k : kv_S val K pc' (a0 :: a1 :: some (.int (x + v)) :: t) st h R) : kv_S val K pc (a0 :: a1 :: some (.int x) :: t) st h R := kr_iinc hd rfl hn (fun w _ q => hp w (Option.some.inj q)) k
theorem kr_kill2 {a0 a1 : Option Value} {a2 : Option Value} {t : List (Option Value)} (k : kv_S val K pc (a0 :: a1 :: none :: t) st h R) : kv_S val K pc (a0 :: a1 :: a2 :: t) st h R := kr_kill (kv_kill1 2 (l := a0 :: a1 :: a2 :: t)) k
theorem kr_iload3 {a0 a1 a2 : Option Value} {t : List (Option Value)} {x : Int32} (hd : kv_ild K pc 3 pc') (k : kv_S val K pc' (a0 :: a1 :: a2 :: some (.int x) :: t) (.int x :: st) h R) : kv_S val K pc (a0 :: a1 :: a2 :: some (.int x) :: t) st h R := kr_iload hd rfl k
theorem kr_istore3 {a0 a1 a2 : Option Value} {a3 : Option Value} {t : List (Option Value)} {x : Int32} (hd : kv_ist K pc 3 pc') (hn : 3 < K.2.2.1) (hp : kv_c1 a2) (k : kv_S val K pc' (a0 :: a1 :: a2 :: some (.int x) :: t) st h R) : kv_S val K pc (a0 :: a1 :: a2 :: a3 :: t) (.int x :: st) h R := kr_istore hd hn (fun w _ q => hp w (Option.some.inj q)) k
theorem kr_aload3 {a0 a1 a2 : Option Value} {t : List (Option Value)} {x : Nat} (hd : kv_ald K pc 3 pc') (k : kv_S val K pc' (a0 :: a1 :: a2 :: some (.ref x) :: t) (.ref x :: st) h R) : kv_S val K pc (a0 :: a1 :: a2 :: some (.ref x) :: t) st h R := kr_aload hd rfl k
theorem kr_astore3 {a0 a1 a2 : Option Value} {a3 : Option Value} {t : List (Option Value)} {x : Nat} (hd : kv_ast K pc 3 pc') (hn : 3 < K.2.2.1) (hp : kv_c1 a2) (k : kv_S val K pc' (a0 :: a1 :: a2 :: some (.ref x) :: t) st h R) : kv_S val K pc (a0 :: a1 :: a2 :: a3 :: t) (.ref x :: st) h R := kr_astore hd hn (fun w _ q => hp w (Option.some.inj q)) k
theorem kr_lload3 {a0 a1 a2 : Option Value} {t : List (Option Value)} {x : Int64} (hd : kv_lld K pc 3 pc') (k : kv_S val K pc' (a0 :: a1 :: a2 :: some (.long x) :: t) (.long x :: st) h R) : kv_S val K pc (a0 :: a1 :: a2 :: some (.long x) :: t) st h R := kr_lload hd rfl k
theorem kr_lstore3 {a0 a1 a2 : Option Value} {a3 a4 : Option Value} {t : List (Option Value)} {x : Int64} (hd : kv_lst K pc 3 pc') (hn : 3 + 1 < K.2.2.1) (hp : kv_c1 a2) (k : kv_S val K pc' (a0 :: a1 :: a2 :: some (.long x) :: none :: t) st h R) : kv_S val K pc (a0 :: a1 :: a2 :: a3 :: a4 :: t) (.long x :: st) h R := kr_lstore hd hn (fun w _ q => hp w (Option.some.inj q)) k
theorem kr_iinc3 {a0 a1 a2 : Option Value} {t : List (Option Value)} {x v : Int32} (hd : kv_inc K pc 3 v pc') (hn : 3 < K.2.2.1) (hp : kv_c1 a2) (k : kv_S val K pc' (a0 :: a1 :: a2 :: some (.int (x + v)) :: t) st h R) : kv_S val K pc (a0 :: a1 :: a2 :: some (.int x) :: t) st h R := kr_iinc hd rfl hn (fun w _ q => hp w (Option.some.inj q)) k
theorem kr_kill3 {a0 a1 a2 : Option Value} {a3 : Option Value} {t : List (Option Value)} (k : kv_S val K pc (a0 :: a1 :: a2 :: none :: t) st h R) : kv_S val K pc (a0 :: a1 :: a2 :: a3 :: t) st h R := kr_kill (kv_kill1 3 (l := a0 :: a1 :: a2 :: a3 :: t)) k
theorem kr_iload4 {a0 a1 a2 a3 : Option Value} {t : List (Option Value)} {x : Int32} (hd : kv_ild K pc 4 pc') (k : kv_S val K pc' (a0 :: a1 :: a2 :: a3 :: some (.int x) :: t) (.int x :: st) h R) : kv_S val K pc (a0 :: a1 :: a2 :: a3 :: some (.int x) :: t) st h R := kr_iload hd rfl k
theorem kr_istore4 {a0 a1 a2 a3 : Option Value} {a4 : Option Value} {t : List (Option Value)} {x : Int32} (hd : kv_ist K pc 4 pc') (hn : 4 < K.2.2.1) (hp : kv_c1 a3) (k : kv_S val K pc' (a0 :: a1 :: a2 :: a3 :: some (.int x) :: t) st h R) : kv_S val K pc (a0 :: a1 :: a2 :: a3 :: a4 :: t) (.int x :: st) h R := kr_istore hd hn (fun w _ q => hp w (Option.some.inj q)) k
theorem kr_aload4 {a0 a1 a2 a3 : Option Value} {t : List (Option Value)} {x : Nat} (hd : kv_ald K pc 4 pc') (k : kv_S val K pc' (a0 :: a1 :: a2 :: a3 :: some (.ref x) :: t) (.ref x :: st) h R) : kv_S val K pc (a0 :: a1 :: a2 :: a3 :: some (.ref x) :: t) st h R := kr_aload hd rfl k
theorem kr_astore4 {a0 a1 a2 a3 : Option Value} {a4 : Option Value} {t : List (Option Value)} {x : Nat} (hd : kv_ast K pc 4 pc') (hn : 4 < K.2.2.1) (hp : kv_c1 a3) (k : kv_S val K pc' (a0 :: a1 :: a2 :: a3 :: some (.ref x) :: t) st h R) : kv_S val K pc (a0 :: a1 :: a2 :: a3 :: a4 :: t) (.ref x :: st) h R := kr_astore hd hn (fun w _ q => hp w (Option.some.inj q)) k
theorem kr_lload4 {a0 a1 a2 a3 : Option Value} {t : List (Option Value)} {x : Int64} (hd : kv_lld K pc 4 pc') (k : kv_S val K pc' (a0 :: a1 :: a2 :: a3 :: some (.long x) :: t) (.long x :: st) h R) : kv_S val K pc (a0 :: a1 :: a2 :: a3 :: some (.long x) :: t) st h R := kr_lload hd rfl k
theorem kr_lstore4 {a0 a1 a2 a3 : Option Value} {a4 a5 : Option Value} {t : List (Option Value)} {x : Int64} (hd : kv_lst K pc 4 pc') (hn : 4 + 1 < K.2.2.1) (hp : kv_c1 a3) (k : kv_S val K pc' (a0 :: a1 :: a2 :: a3 :: some (.long x) :: none :: t) st h R) : kv_S val K pc (a0 :: a1 :: a2 :: a3 :: a4 :: a5 :: t) (.long x :: st) h R := kr_lstore hd hn (fun w _ q => hp w (Option.some.inj q)) k
theorem kr_iinc4 {a0 a1 a2 a3 : Option Value} {t : List (Option Value)} {x v : Int32} (hd : kv_inc K pc 4 v pc') (hn : 4 < K.2.2.1) (hp : kv_c1 a3) (k : kv_S val K pc' (a0 :: a1 :: a2 :: a3 :: some (.int (x + v)) :: t) st h R) : kv_S val K pc (a0 :: a1 :: a2 :: a3 :: some (.int x) :: t) st h R := kr_iinc hd rfl hn (fun w _ q => hp w (Option.some.inj q)) k
theorem kr_kill4 {a0 a1 a2 a3 : Option Value} {a4 : Option Value} {t : List (Option Value)} (k : kv_S val K pc (a0 :: a1 :: a2 :: a3 :: none :: t) st h R) : kv_S val K pc (a0 :: a1 :: a2 :: a3 :: a4 :: t) st h R := kr_kill (kv_kill1 4 (l := a0 :: a1 :: a2 :: a3 :: a4 :: t)) k
theorem kr_iload5 {a0 a1 a2 a3 a4 : Option Value} {t : List (Option Value)} {x : Int32} (hd : kv_ild K pc 5 pc') (k : kv_S val K pc' (a0 :: a1 :: a2 :: a3 :: a4 :: some (.int x) :: t) (.int x :: st) h R) : kv_S val K pc (a0 :: a1 :: a2 :: a3 :: a4 :: some (.int x) :: t) st h R := kr_iload hd rfl k
theorem kr_istore5 {a0 a1 a2 a3 a4 : Option Value} {a5 : Option Value} {t : List (Option Value)} {x : Int32} (hd : kv_ist K pc 5 pc') (hn : 5 < K.2.2.1) (hp : kv_c1 a4) (k : kv_S val K pc' (a0 :: a1 :: a2 :: a3 :: a4 :: some (.int x) :: t) st h R) : kv_S val K pc (a0 :: a1 :: a2 :: a3 :: a4 :: a5 :: t) (.int x :: st) h R := kr_istore hd hn (fun w _ q => hp w (Option.some.inj q)) k
theorem kr_aload5 {a0 a1 a2 a3 a4 : Option Value} {t : List (Option Value)} {x : Nat} (hd : kv_ald K pc 5 pc') (k : kv_S val K pc' (a0 :: a1 :: a2 :: a3 :: a4 :: some (.ref x) :: t) (.ref x :: st) h R) : kv_S val K pc (a0 :: a1 :: a2 :: a3 :: a4 :: some (.ref x) :: t) st h R := kr_aload hd rfl k
theorem kr_astore5 {a0 a1 a2 a3 a4 : Option Value} {a5 : Option Value} {t : List (Option Value)} {x : Nat} (hd : kv_ast K pc 5 pc') (hn : 5 < K.2.2.1) (hp : kv_c1 a4) (k : kv_S val K pc' (a0 :: a1 :: a2 :: a3 :: a4 :: some (.ref x) :: t) st h R) : kv_S val K pc (a0 :: a1 :: a2 :: a3 :: a4 :: a5 :: t) (.ref x :: st) h R := kr_astore hd hn (fun w _ q => hp w (Option.some.inj q)) k
theorem kr_lload5 {a0 a1 a2 a3 a4 : Option Value} {t : List (Option Value)} {x : Int64} (hd : kv_lld K pc 5 pc') (k : kv_S val K pc' (a0 :: a1 :: a2 :: a3 :: a4 :: some (.long x) :: t) (.long x :: st) h R) : kv_S val K pc (a0 :: a1 :: a2 :: a3 :: a4 :: some (.long x) :: t) st h R := kr_lload hd rfl k
theorem kr_lstore5 {a0 a1 a2 a3 a4 : Option Value} {a5 a6 : Option Value} {t : List (Option Value)} {x : Int64} (hd : kv_lst K pc 5 pc') (hn : 5 + 1 < K.2.2.1) (hp : kv_c1 a4) (k : kv_S val K pc' (a0 :: a1 :: a2 :: a3 :: a4 :: some (.long x) :: none :: t) st h R) : kv_S val K pc (a0 :: a1 :: a2 :: a3 :: a4 :: a5 :: a6 :: t) (.long x :: st) h R := kr_lstore hd hn (fun w _ q => hp w (Option.some.inj q)) k
theorem kr_iinc5 {a0 a1 a2 a3 a4 : Option Value} {t : List (Option Value)} {x v : Int32} (hd : kv_inc K pc 5 v pc') (hn : 5 < K.2.2.1) (hp : kv_c1 a4) (k : kv_S val K pc' (a0 :: a1 :: a2 :: a3 :: a4 :: some (.int (x + v)) :: t) st h R) : kv_S val K pc (a0 :: a1 :: a2 :: a3 :: a4 :: some (.int x) :: t) st h R := kr_iinc hd rfl hn (fun w _ q => hp w (Option.some.inj q)) k
theorem kr_kill5 {a0 a1 a2 a3 a4 : Option Value} {a5 : Option Value} {t : List (Option Value)} (k : kv_S val K pc (a0 :: a1 :: a2 :: a3 :: a4 :: none :: t) st h R) : kv_S val K pc (a0 :: a1 :: a2 :: a3 :: a4 :: a5 :: t) st h R := kr_kill (kv_kill1 5 (l := a0 :: a1 :: a2 :: a3 :: a4 :: a5 :: t)) k
theorem kr_iload6 {a0 a1 a2 a3 a4 a5 : Option Value} {t : List (Option Value)} {x : Int32} (hd : kv_ild K pc 6 pc') (k : kv_S val K pc' (a0 :: a1 :: a2 :: a3 :: a4 :: a5 :: some (.int x) :: t) (.int x :: st) h R) : kv_S val K pc (a0 :: a1 :: a2 :: a3 :: a4 :: a5 :: some (.int x) :: t) st h R := kr_iload hd rfl k
theorem kr_istore6 {a0 a1 a2 a3 a4 a5 : Option Value} {a6 : Option Value} {t : List (Option Value)} {x : Int32} (hd : kv_ist K pc 6 pc') (hn : 6 < K.2.2.1) (hp : kv_c1 a5) (k : kv_S val K pc' (a0 :: a1 :: a2 :: a3 :: a4 :: a5 :: some (.int x) :: t) st h R) : kv_S val K pc (a0 :: a1 :: a2 :: a3 :: a4 :: a5 :: a6 :: t) (.int x :: st) h R := kr_istore hd hn (fun w _ q => hp w (Option.some.inj q)) k
theorem kr_aload6 {a0 a1 a2 a3 a4 a5 : Option Value} {t : List (Option Value)} {x : Nat} (hd : kv_ald K pc 6 pc') (k : kv_S val K pc' (a0 :: a1 :: a2 :: a3 :: a4 :: a5 :: some (.ref x) :: t) (.ref x :: st) h R) : kv_S val K pc (a0 :: a1 :: a2 :: a3 :: a4 :: a5 :: some (.ref x) :: t) st h R := kr_aload hd rfl k
theorem kr_astore6 {a0 a1 a2 a3 a4 a5 : Option Value} {a6 : Option Value} {t : List (Option Value)} {x : Nat} (hd : kv_ast K pc 6 pc') (hn : 6 < K.2.2.1) (hp : kv_c1 a5) (k : kv_S val K pc' (a0 :: a1 :: a2 :: a3 :: a4 :: a5 :: some (.ref x) :: t) st h R) : kv_S val K pc (a0 :: a1 :: a2 :: a3 :: a4 :: a5 :: a6 :: t) (.ref x :: st) h R := kr_astore hd hn (fun w _ q => hp w (Option.some.inj q)) k
theorem kr_lload6 {a0 a1 a2 a3 a4 a5 : Option Value} {t : List (Option Value)} {x : Int64} (hd : kv_lld K pc 6 pc') (k : kv_S val K pc' (a0 :: a1 :: a2 :: a3 :: a4 :: a5 :: some (.long x) :: t) (.long x :: st) h R) : kv_S val K pc (a0 :: a1 :: a2 :: a3 :: a4 :: a5 :: some (.long x) :: t) st h R := kr_lload hd rfl k
theorem kr_lstore6 {a0 a1 a2 a3 a4 a5 : Option Value} {a6 a7 : Option Value} {t : List (Option Value)} {x : Int64} (hd : kv_lst K pc 6 pc') (hn : 6 + 1 < K.2.2.1) (hp : kv_c1 a5) (k : kv_S val K pc' (a0 :: a1 :: a2 :: a3 :: a4 :: a5 :: some (.long x) :: none :: t) st h R) : kv_S val K pc (a0 :: a1 :: a2 :: a3 :: a4 :: a5 :: a6 :: a7 :: t) (.long x :: st) h R := kr_lstore hd hn (fun w _ q => hp w (Option.some.inj q)) k
theorem kr_iinc6 {a0 a1 a2 a3 a4 a5 : Option Value} {t : List (Option Value)} {x v : Int32} (hd : kv_inc K pc 6 v pc') (hn : 6 < K.2.2.1) (hp : kv_c1 a5) (k : kv_S val K pc' (a0 :: a1 :: a2 :: a3 :: a4 :: a5 :: some (.int (x + v)) :: t) st h R) : kv_S val K pc (a0 :: a1 :: a2 :: a3 :: a4 :: a5 :: some (.int x) :: t) st h R := kr_iinc hd rfl hn (fun w _ q => hp w (Option.some.inj q)) k
theorem kr_kill6 {a0 a1 a2 a3 a4 a5 : Option Value} {a6 : Option Value} {t : List (Option Value)} (k : kv_S val K pc (a0 :: a1 :: a2 :: a3 :: a4 :: a5 :: none :: t) st h R) : kv_S val K pc (a0 :: a1 :: a2 :: a3 :: a4 :: a5 :: a6 :: t) st h R := kr_kill (kv_kill1 6 (l := a0 :: a1 :: a2 :: a3 :: a4 :: a5 :: a6 :: t)) k
theorem kr_iload7 {a0 a1 a2 a3 a4 a5 a6 : Option Value} {t : List (Option Value)} {x : Int32} (hd : kv_ild K pc 7 pc') (k : kv_S val K pc' (a0 :: a1 :: a2 :: a3 :: a4 :: a5 :: a6 :: some (.int x) :: t) (.int x :: st) h R) : kv_S val K pc (a0 :: a1 :: a2 :: a3 :: a4 :: a5 :: a6 :: some (.int x) :: t) st h R := kr_iload hd rfl k
theorem kr_istore7 {a0 a1 a2 a3 a4 a5 a6 : Option Value} {a7 : Option Value} {t : List (Option Value)} {x : Int32} (hd : kv_ist K pc 7 pc') (hn : 7 < K.2.2.1) (hp : kv_c1 a6) (k : kv_S val K pc' (a0 :: a1 :: a2 :: a3 :: a4 :: a5 :: a6 :: some (.int x) :: t) st h R) : kv_S val K pc (a0 :: a1 :: a2 :: a3 :: a4 :: a5 :: a6 :: a7 :: t) (.int x :: st) h R := kr_istore hd hn (fun w _ q => hp w (Option.some.inj q)) k
theorem kr_aload7 {a0 a1 a2 a3 a4 a5 a6 : Option Value} {t : List (Option Value)} {x : Nat} (hd : kv_ald K pc 7 pc') (k : kv_S val K pc' (a0 :: a1 :: a2 :: a3 :: a4 :: a5 :: a6 :: some (.ref x) :: t) (.ref x :: st) h R) : kv_S val K pc (a0 :: a1 :: a2 :: a3 :: a4 :: a5 :: a6 :: some (.ref x) :: t) st h R := kr_aload hd rfl k
theorem kr_astore7 {a0 a1 a2 a3 a4 a5 a6 : Option Value} {a7 : Option Value} {t : List (Option Value)} {x : Nat} (hd : kv_ast K pc 7 pc') (hn : 7 < K.2.2.1) (hp : kv_c1 a6) (k : kv_S val K pc' (a0 :: a1 :: a2 :: a3 :: a4 :: a5 :: a6 :: some (.ref x) :: t) st h R) : kv_S val K pc (a0 :: a1 :: a2 :: a3 :: a4 :: a5 :: a6 :: a7 :: t) (.ref x :: st) h R := kr_astore hd hn (fun w _ q => hp w (Option.some.inj q)) k
theorem kr_lload7 {a0 a1 a2 a3 a4 a5 a6 : Option Value} {t : List (Option Value)} {x : Int64} (hd : kv_lld K pc 7 pc') (k : kv_S val K pc' (a0 :: a1 :: a2 :: a3 :: a4 :: a5 :: a6 :: some (.long x) :: t) (.long x :: st) h R) : kv_S val K pc (a0 :: a1 :: a2 :: a3 :: a4 :: a5 :: a6 :: some (.long x) :: t) st h R := kr_lload hd rfl k
theorem kr_lstore7 {a0 a1 a2 a3 a4 a5 a6 : Option Value} {a7 a8 : Option Value} {t : List (Option Value)} {x : Int64} (hd : kv_lst K pc 7 pc') (hn : 7 + 1 < K.2.2.1) (hp : kv_c1 a6) (k : kv_S val K pc' (a0 :: a1 :: a2 :: a3 :: a4 :: a5 :: a6 :: some (.long x) :: none :: t) st h R) : kv_S val K pc (a0 :: a1 :: a2 :: a3 :: a4 :: a5 :: a6 :: a7 :: a8 :: t) (.long x :: st) h R := kr_lstore hd hn (fun w _ q => hp w (Option.some.inj q)) k
theorem kr_iinc7 {a0 a1 a2 a3 a4 a5 a6 : Option Value} {t : List (Option Value)} {x v : Int32} (hd : kv_inc K pc 7 v pc') (hn : 7 < K.2.2.1) (hp : kv_c1 a6) (k : kv_S val K pc' (a0 :: a1 :: a2 :: a3 :: a4 :: a5 :: a6 :: some (.int (x + v)) :: t) st h R) : kv_S val K pc (a0 :: a1 :: a2 :: a3 :: a4 :: a5 :: a6 :: some (.int x) :: t) st h R := kr_iinc hd rfl hn (fun w _ q => hp w (Option.some.inj q)) k
theorem kr_kill7 {a0 a1 a2 a3 a4 a5 a6 : Option Value} {a7 : Option Value} {t : List (Option Value)} (k : kv_S val K pc (a0 :: a1 :: a2 :: a3 :: a4 :: a5 :: a6 :: none :: t) st h R) : kv_S val K pc (a0 :: a1 :: a2 :: a3 :: a4 :: a5 :: a6 :: a7 :: t) st h R := kr_kill (kv_kill1 7 (l := a0 :: a1 :: a2 :: a3 :: a4 :: a5 :: a6 :: a7 :: t)) k
theorem kr_iload8 {a0 a1 a2 a3 a4 a5 a6 a7 : Option Value} {t : List (Option Value)} {x : Int32} (hd : kv_ild K pc 8 pc') (k : kv_S val K pc' (a0 :: a1 :: a2 :: a3 :: a4 :: a5 :: a6 :: a7 :: some (.int x) :: t) (.int x :: st) h R) : kv_S val K pc (a0 :: a1 :: a2 :: a3 :: a4 :: a5 :: a6 :: a7 :: some (.int x) :: t) st h R := kr_iload hd rfl k
theorem kr_istore8 {a0 a1 a2 a3 a4 a5 a6 a7 : Option Value} {a8 : Option Value} {t : List (Option Value)} {x : Int32} (hd : kv_ist K pc 8 pc') (hn : 8 < K.2.2.1) (hp : kv_c1 a7) (k : kv_S val K pc' (a0 :: a1 :: a2 :: a3 :: a4 :: a5 :: a6 :: a7 :: some (.int x) :: t) st h R) : kv_S val K pc (a0 :: a1 :: a2 :: a3 :: a4 :: a5 :: a6 :: a7 :: a8 :: t) (.int x :: st) h R := kr_istore hd hn (fun w _ q => hp w (Option.some.inj q)) k
theorem kr_aload8 {a0 a1 a2 a3 a4 a5 a6 a7 : Option Value} {t : List (Option Value)} {x : Nat} (hd : kv_ald K pc 8 pc') (k : kv_S val K pc' (a0 :: a1 :: a2 :: a3 :: a4 :: a5 :: a6 :: a7 :: some (.ref x) :: t) (.ref x :: st) h R) : kv_S val K pc (a0 :: a1 :: a2 :: a3 :: a4 :: a5 :: a6 :: a7 :: some (.ref x) :: t) st h R := kr_aload hd rfl k
theorem kr_astore8 {a0 a1 a2 a3 a4 a5 a6 a7 : Option Value} {a8 : Option Value} {t : List (Option Value)} {x : Nat} (hd : kv_ast K pc 8 pc') (hn : 8 < K.2.2.1) (hp : kv_c1 a7) (k : kv_S val K pc' (a0 :: a1 :: a2 :: a3 :: a4 :: a5 :: a6 :: a7 :: some (.ref x) :: t) st h R) : kv_S val K pc (a0 :: a1 :: a2 :: a3 :: a4 :: a5 :: a6 :: a7 :: a8 :: t) (.ref x :: st) h R := kr_astore hd hn (fun w _ q => hp w (Option.some.inj q)) k
theorem kr_lload8 {a0 a1 a2 a3 a4 a5 a6 a7 : Option Value} {t : List (Option Value)} {x : Int64} (hd : kv_lld K pc 8 pc') (k : kv_S val K pc' (a0 :: a1 :: a2 :: a3 :: a4 :: a5 :: a6 :: a7 :: some (.long x) :: t) (.long x :: st) h R) : kv_S val K pc (a0 :: a1 :: a2 :: a3 :: a4 :: a5 :: a6 :: a7 :: some (.long x) :: t) st h R := kr_lload hd rfl k
theorem kr_lstore8 {a0 a1 a2 a3 a4 a5 a6 a7 : Option Value} {a8 a9 : Option Value} {t : List (Option Value)} {x : Int64} (hd : kv_lst K pc 8 pc') (hn : 8 + 1 < K.2.2.1) (hp : kv_c1 a7) (k : kv_S val K pc' (a0 :: a1 :: a2 :: a3 :: a4 :: a5 :: a6 :: a7 :: some (.long x) :: none :: t) st h R) : kv_S val K pc (a0 :: a1 :: a2 :: a3 :: a4 :: a5 :: a6 :: a7 :: a8 :: a9 :: t) (.long x :: st) h R := kr_lstore hd hn (fun w _ q => hp w (Option.some.inj q)) k
theorem kr_iinc8 {a0 a1 a2 a3 a4 a5 a6 a7 : Option Value} {t : List (Option Value)} {x v : Int32} (hd : kv_inc K pc 8 v pc') (hn : 8 < K.2.2.1) (hp : kv_c1 a7) (k : kv_S val K pc' (a0 :: a1 :: a2 :: a3 :: a4 :: a5 :: a6 :: a7 :: some (.int (x + v)) :: t) st h R) : kv_S val K pc (a0 :: a1 :: a2 :: a3 :: a4 :: a5 :: a6 :: a7 :: some (.int x) :: t) st h R := kr_iinc hd rfl hn (fun w _ q => hp w (Option.some.inj q)) k
theorem kr_kill8 {a0 a1 a2 a3 a4 a5 a6 a7 : Option Value} {a8 : Option Value} {t : List (Option Value)} (k : kv_S val K pc (a0 :: a1 :: a2 :: a3 :: a4 :: a5 :: a6 :: a7 :: none :: t) st h R) : kv_S val K pc (a0 :: a1 :: a2 :: a3 :: a4 :: a5 :: a6 :: a7 :: a8 :: t) st h R := kr_kill (kv_kill1 8 (l := a0 :: a1 :: a2 :: a3 :: a4 :: a5 :: a6 :: a7 :: a8 :: t)) k
theorem kr_iload9 {a0 a1 a2 a3 a4 a5 a6 a7 a8 : Option Value} {t : List (Option Value)} {x : Int32} (hd : kv_ild K pc 9 pc') (k : kv_S val K pc' (a0 :: a1 :: a2 :: a3 :: a4 :: a5 :: a6 :: a7 :: a8 :: some (.int x) :: t) (.int x :: st) h R) : kv_S val K pc (a0 :: a1 :: a2 :: a3 :: a4 :: a5 :: a6 :: a7 :: a8 :: some (.int x) :: t) st h R := kr_iload hd rfl k
theorem kr_istore9 {a0 a1 a2 a3 a4 a5 a6 a7 a8 : Option Value} {a9 : Option Value} {t : List (Option Value)} {x : Int32} (hd : kv_ist K pc 9 pc') (hn : 9 < K.2.2.1) (hp : kv_c1 a8) (k : kv_S val K pc' (a0 :: a1 :: a2 :: a3 :: a4 :: a5 :: a6 :: a7 :: a8 :: some (.int x) :: t) st h R) : kv_S val K pc (a0 :: a1 :: a2 :: a3 :: a4 :: a5 :: a6 :: a7 :: a8 :: a9 :: t) (.int x :: st) h R := kr_istore hd hn (fun w _ q => hp w (Option.some.inj q)) k
theorem kr_aload9 {a0 a1 a2 a3 a4 a5 a6 a7 a8 : Option Value} {t : List (Option Value)} {x : Nat} (hd : kv_ald K pc 9 pc') (k : kv_S val K pc' (a0 :: a1 :: a2 :: a3 :: a4 :: a5 :: a6 :: a7 :: a8 :: some (.ref x) :: t) (.ref x :: st) h R) : kv_S val K pc (a0 :: a1 :: a2 :: a3 :: a4 :: a5 :: a6 :: a7 :: a8 :: some (.ref x) :: t) st h R := kr_aload hd rfl k
theorem kr_astore9 {a0 a1 a2 a3 a4 a5 a6 a7 a8 : Option Value} {a9 : Option Value} {t : List (Option Value)} {x : Nat} (hd : kv_ast K pc 9 pc') (hn : 9 < K.2.2.1) (hp : kv_c1 a8) (k : kv_S val K pc' (a0 :: a1 :: a2 :: a3 :: a4 :: a5 :: a6 :: a7 :: a8 :: some (.ref x) :: t) st h R) : kv_S val K pc (a0 :: a1 :: a2 :: a3 :: a4 :: a5 :: a6 :: a7 :: a8 :: a9 :: t) (.ref x :: st) h R := kr_astore hd hn (fun w _ q => hp w (Option.some.inj q)) k
theorem kr_lload9 {a0 a1 a2 a3 a4 a5 a6 a7 a8 : Option Value} {t : List (Option Value)} {x : Int64} (hd : kv_lld K pc 9 pc') (k : kv_S val K pc' (a0 :: a1 :: a2 :: a3 :: a4 :: a5 :: a6 :: a7 :: a8 :: some (.long x) :: t) (.long x :: st) h R) : kv_S val K pc (a0 :: a1 :: a2 :: a3 :: a4 :: a5 :: a6 :: a7 :: a8 :: some (.long x) :: t) st h R := kr_lload hd rfl k
theorem kr_lstore9 {a0 a1 a2 a3 a4 a5 a6 a7 a8 : Option Value} {a9 a10 : Option Value} {t : List (Option Value)} {x : Int64} (hd : kv_lst K pc 9 pc') (hn : 9 + 1 < K.2.2.1) (hp : kv_c1 a8) (k : kv_S val K pc' (a0 :: a1 :: a2 :: a3 :: a4 :: a5 :: a6 :: a7 :: a8 :: some (.long x) :: none :: t) st h R) : kv_S val K pc (a0 :: a1 :: a2 :: a3 :: a4 :: a5 :: a6 :: a7 :: a8 :: a9 :: a10 :: t) (.long x :: st) h R := kr_lstore hd hn (fun w _ q => hp w (Option.some.inj q)) k
theorem kr_iinc9 {a0 a1 a2 a3 a4 a5 a6 a7 a8 : Option Value} {t : List (Option Value)} {x v : Int32} (hd : kv_inc K pc 9 v pc') (hn : 9 < K.2.2.1) (hp : kv_c1 a8) (k : kv_S val K pc' (a0 :: a1 :: a2 :: a3 :: a4 :: a5 :: a6 :: a7 :: a8 :: some (.int (x + v)) :: t) st h R) : kv_S val K pc (a0 :: a1 :: a2 :: a3 :: a4 :: a5 :: a6 :: a7 :: a8 :: some (.int x) :: t) st h R := kr_iinc hd rfl hn (fun w _ q => hp w (Option.some.inj q)) k
theorem kr_kill9 {a0 a1 a2 a3 a4 a5 a6 a7 a8 : Option Value} {a9 : Option Value} {t : List (Option Value)} (k : kv_S val K pc (a0 :: a1 :: a2 :: a3 :: a4 :: a5 :: a6 :: a7 :: a8 :: none :: t) st h R) : kv_S val K pc (a0 :: a1 :: a2 :: a3 :: a4 :: a5 :: a6 :: a7 :: a8 :: a9 :: t) st h R := kr_kill (kv_kill1 9 (l := a0 :: a1 :: a2 :: a3 :: a4 :: a5 :: a6 :: a7 :: a8 :: a9 :: t)) k
theorem kr_iload10 {a0 a1 a2 a3 a4 a5 a6 a7 a8 a9 : Option Value} {t : List (Option Value)} {x : Int32} (hd : kv_ild K pc 10 pc') (k : kv_S val K pc' (a0 :: a1 :: a2 :: a3 :: a4 :: a5 :: a6 :: a7 :: a8 :: a9 :: some (.int x) :: t) (.int x :: st) h R) : kv_S val K pc (a0 :: a1 :: a2 :: a3 :: a4 :: a5 :: a6 :: a7 :: a8 :: a9 :: some (.int x) :: t) st h R := kr_iload hd rfl k
theorem kr_istore10 {a0 a1 a2 a3 a4 a5 a6 a7 a8 a9 : Option Value} {a10 : Option Value} {t : List (Option Value)} {x : Int32} (hd : kv_ist K pc 10 pc') (hn : 10 < K.2.2.1) (hp : kv_c1 a9) (k : kv_S val K pc' (a0 :: a1 :: a2 :: a3 :: a4 :: a5 :: a6 :: a7 :: a8 :: a9 :: some (.int x) :: t) st h R) : kv_S val K pc (a0 :: a1 :: a2 :: a3 :: a4 :: a5 :: a6 :: a7 :: a8 :: a9 :: a10 :: t) (.int x :: st) h R := kr_istore hd hn (fun w _ q => hp w (Option.some.inj q)) k
theorem kr_aload10 {a0 a1 a2 a3 a4 a5 a6 a7 a8 a9 : Option Value} {t : List (Option Value)} {x : Nat} (hd : kv_ald K pc 10 pc') (k : kv_S val K pc' (a0 :: a1 :: a2 :: a3 :: a4 :: a5 :: a6 :: a7 :: a8 :: a9 :: some (.ref x) :: t) (.ref x :: st) h R) : kv_S val K pc (a0 :: a1 :: a2 :: a3 :: a4 :: a5 :: a6 :: a7 :: a8 :: a9 :: some (.ref x) :: t) st h R := kr_aload hd rfl k
theorem kr_astore10 {a0 a1 a2 a3 a4 a5 a6 a7 a8 a9 : Option Value} {a10 : Option Value} {t : List (Option Value)} {x : Nat} (hd : kv_ast K pc 10 pc') (hn : 10 < K.2.2.1) (hp : kv_c1 a9) (k : kv_S val K pc' (a0 :: a1 :: a2 :: a3 :: a4 :: a5 :: a6 :: a7 :: a8 :: a9 :: some (.ref x) :: t) st h R) : kv_S val K pc (a0 :: a1 :: a2 :: a3 :: a4 :: a5 :: a6 :: a7 :: a8 :: a9 :: a10 :: t) (.ref x :: st) h R := kr_astore hd hn (fun w _ q => hp w (Option.some.inj q)) k
theorem kr_lload10 {a0 a1 a2 a3 a4 a5 a6 a7 a8 a9 : Option Value} {t : List (Option Value)} {x : Int64} (hd : kv_lld K pc 10 pc') (k : kv_S val K pc' (a0 :: a1 :: a2 :: a3 :: a4 :: a5 :: a6 :: a7 :: a8 :: a9 :: some (.long x) :: t) (.long x :: st) h R) : kv_S val K pc (a0 :: a1 :: a2 :: a3 :: a4 :: a5 :: a6 :: a7 :: a8 :: a9 :: some (.long x) :: t) st h R := kr_lload hd rfl k
theorem kr_lstore10 {a0 a1 a2 a3 a4 a5 a6 a7 a8 a9 : Option Value} {a10 a11 : Option Value} {t : List (Option Value)} {x : Int64} (hd : kv_lst K pc 10 pc') (hn : 10 + 1 < K.2.2.1) (hp : kv_c1 a9) (k : kv_S val K pc' (a0 :: a1 :: a2 :: a3 :: a4 :: a5 :: a6 :: a7 :: a8 :: a9 :: some (.long x) :: none :: t) st h R) : kv_S val K pc (a0 :: a1 :: a2 :: a3 :: a4 :: a5 :: a6 :: a7 :: a8 :: a9 :: a10 :: a11 :: t) (.long x :: st) h R := kr_lstore hd hn (fun w _ q => hp w (Option.some.inj q)) k
theorem kr_iinc10 {a0 a1 a2 a3 a4 a5 a6 a7 a8 a9 : Option Value} {t : List (Option Value)} {x v : Int32} (hd : kv_inc K pc 10 v pc') (hn : 10 < K.2.2.1) (hp : kv_c1 a9) (k : kv_S val K pc' (a0 :: a1 :: a2 :: a3 :: a4 :: a5 :: a6 :: a7 :: a8 :: a9 :: some (.int (x + v)) :: t) st h R) : kv_S val K pc (a0 :: a1 :: a2 :: a3 :: a4 :: a5 :: a6 :: a7 :: a8 :: a9 :: some (.int x) :: t) st h R := kr_iinc hd rfl hn (fun w _ q => hp w (Option.some.inj q)) k
theorem kr_kill10 {a0 a1 a2 a3 a4 a5 a6 a7 a8 a9 : Option Value} {a10 : Option Value} {t : List (Option Value)} (k : kv_S val K pc (a0 :: a1 :: a2 :: a3 :: a4 :: a5 :: a6 :: a7 :: a8 :: a9 :: none :: t) st h R) : kv_S val K pc (a0 :: a1 :: a2 :: a3 :: a4 :: a5 :: a6 :: a7 :: a8 :: a9 :: a10 :: t) st h R := kr_kill (kv_kill1 10 (l := a0 :: a1 :: a2 :: a3 :: a4 :: a5 :: a6 :: a7 :: a8 :: a9 :: a10 :: t)) k
theorem kr_iload11 {a0 a1 a2 a3 a4 a5 a6 a7 a8 a9 a10 : Option Value} {t : List (Option Value)} {x : Int32} (hd : kv_ild K pc 11 pc') (k : kv_S val K pc' (a0 :: a1 :: a2 :: a3 :: a4 :: a5 :: a6 :: a7 :: a8 :: a9 :: a10 :: some (.int x) :: t) (.int x :: st) h R) : kv_S val K pc (a0 :: a1 :: a2 :: a3 :: a4 :: a5 :: a6 :: a7 :: a8 :: a9 :: a10 :: some (.int x) :: t) st h R := kr_iload hd rfl k
theorem kr_istore11 {a0 a1 a2 a3 a4 a5 a6 a7 a8 a9 a10 : Option Value} {a11 : Option Value} {t : List (Option Value)} {x : Int32} (hd : kv_ist K pc 11 pc') (hn : 11 < K.2.2.1) (hp : kv_c1 a10) (k : kv_S val K pc' (a0 :: a1 :: a2 :: a3 :: a4 :: a5 :: a6 :: a7 :: a8 :: a9 :: a10 :: some (.int x) :: t) st h R) : kv_S val K pc (a0 :: a1 :: a2 :: a3 :: a4 :: a5 :: a6 :: a7 :: a8 :: a9 :: a10 :: a11 :: t) (.int x :: st) h R := kr_istore hd hn (fun w _ q => hp w (Option.some.inj q)) k
theorem kr_aload11 {a0 a1 a2 a3 a4 a5 a6 a7 a8 a9 a10 : Option Value} {t : List (Option Value)} {x : Nat} (hd : kv_ald K pc 11 pc') (k : kv_S val K pc' (a0 :: a1 :: a2 :: a3 :: a4 :: a5 :: a6 :: a7 :: a8 :: a9 :: a10 :: some (.ref x) :: t) (.ref x :: st) h R) : kv_S val K pc (a0 :: a1 :: a2 :: a3 :: a4 :: a5 :: a6 :: a7 :: a8 :: a9 :: a10 :: some (.ref x) :: t) st h R := kr_aload hd rfl k
theorem kr_astore11 {a0 a1 a2 a3 a4 a5 a6 a7 a8 a9 a10 : Option Value} {a11 : Option Value} {t : List (Option Value)} {x : Nat} (hd : kv_ast K pc 11 pc') (hn : 11 < K.2.2.1) (hp : kv_c1 a10) (k : kv_S val K pc' (a0 :: a1 :: a2 :: a3 :: a4 :: a5 :: a6 :: a7 :: a8 :: a9 :: a10 :: some (.ref x) :: t) st h R) : kv_S val K pc (a0 :: a1 :: a2 :: a3 :: a4 :: a5 :: a6 :: a7 :: a8 :: a9 :: a10 :: a11 :: t) (.ref x :: st) h R := kr_astore hd hn (fun w _ q => hp w (Option.some.inj q)) k
theorem kr_lload11 {a0 a1 a2 a3 a4 a5 a6 a7 a8 a9 a10 : Option Value} {t : List (Option Value)} {x : Int64} (hd : kv_lld K pc 11 pc') (k : kv_S val K pc' (a0 :: a1 :: a2 :: a3 :: a4 :: a5 :: a6 :: a7 :: a8 :: a9 :: a10 :: some (.long x) :: t) (.long x :: st) h R) : kv_S val K pc (a0 :: a1 :: a2 :: a3 :: a4 :: a5 :: a6 :: a7 :: a8 :: a9 :: a10 :: some (.long x) :: t) st h R := kr_lload hd rfl k
theorem kr_lstore11 {a0 a1 a2 a3 a4 a5 a6 a7 a8 a9 a10 : Option Value} {a11 a12 : Option Value} {t : List (Option Value)} {x : Int64} (hd : kv_lst K pc 11 pc') (hn : 11 + 1 < K.2.2.1) (hp : kv_c1 a10) (k : kv_S val K pc' (a0 :: a1 :: a2 :: a3 :: a4 :: a5 :: a6 :: a7 :: a8 :: a9 :: a10 :: some (.long x) :: none :: t) st h R) : kv_S val K pc (a0 :: a1 :: a2 :: a3 :: a4 :: a5 :: a6 :: a7 :: a8 :: a9 :: a10 :: a11 :: a12 :: t) (.long x :: st) h R := kr_lstore hd hn (fun w _ q => hp w (Option.some.inj q)) k
theorem kr_iinc11 {a0 a1 a2 a3 a4 a5 a6 a7 a8 a9 a10 : Option Value} {t : List (Option Value)} {x v : Int32} (hd : kv_inc K pc 11 v pc') (hn : 11 < K.2.2.1) (hp : kv_c1 a10) (k : kv_S val K pc' (a0 :: a1 :: a2 :: a3 :: a4 :: a5 :: a6 :: a7 :: a8 :: a9 :: a10 :: some (.int (x + v)) :: t) st h R) : kv_S val K pc (a0 :: a1 :: a2 :: a3 :: a4 :: a5 :: a6 :: a7 :: a8 :: a9 :: a10 :: some (.int x) :: t) st h R := kr_iinc hd rfl hn (fun w _ q => hp w (Option.some.inj q)) k
theorem kr_kill11 {a0 a1 a2 a3 a4 a5 a6 a7 a8 a9 a10 : Option Value} {a11 : Option Value} {t : List (Option Value)} (k : kv_S val K pc (a0 :: a1 :: a2 :: a3 :: a4 :: a5 :: a6 :: a7 :: a8 :: a9 :: a10 :: none :: t) st h R) : kv_S val K pc (a0 :: a1 :: a2 :: a3 :: a4 :: a5 :: a6 :: a7 :: a8 :: a9 :: a10 :: a11 :: t) st h R := kr_kill (kv_kill1 11 (l := a0 :: a1 :: a2 :: a3 :: a4 :: a5 :: a6 :: a7 :: a8 :: a9 :: a10 :: a11 :: t)) k
theorem kr_iload12 {a0 a1 a2 a3 a4 a5 a6 a7 a8 a9 a10 a11 : Option Value} {t : List (Option Value)} {x : Int32} (hd : kv_ild K pc 12 pc') (k : kv_S val K pc' (a0 :: a1 :: a2 :: a3 :: a4 :: a5 :: a6 :: a7 :: a8 :: a9 :: a10 :: a11 :: some (.int x) :: t) (.int x :: st) h R) : kv_S val K pc (a0 :: a1 :: a2 :: a3 :: a4 :: a5 :: a6 :: a7 :: a8 :: a9 :: a10 :: a11 :: some (.int x) :: t) st h R := kr_iload hd rfl k
theorem kr_istore12 {a0 a1 a2 a3 a4 a5 a6 a7 a8 a9 a10 a11 : Option Value} {a12 : Option Value} {t : List (Option Value)} {x : Int32} (hd : kv_ist K pc 12 pc') (hn : 12 < K.2.2.1) (hp : kv_c1 a11) (k : kv_S val K pc' (a0 :: a1 :: a2 :: a3 :: a4 :: a5 :: a6 :: a7 :: a8 :: a9 :: a10 :: a11 :: some (.int x) :: t) st h R) : kv_S val K pc (a0 :: a1 :: a2 :: a3 :: a4 :: a5 :: a6 :: a7 :: a8 :: a9 :: a10 :: a11 :: a12 :: t) (.int x :: st) h R := kr_istore hd hn (fun w _ q => hp w (Option.some.inj q)) k
theorem kr_aload12 {a0 a1 a2 a3 a4 a5 a6 a7 a8 a9 a10 a11 : Option Value} {t : List (Option Value)} {x : Nat} (hd : kv_ald K pc 12 pc') (k : kv_S val K pc' (a0 :: a1 :: a2 :: a3 :: a4 :: a5 :: a6 :: a7 :: a8 :: a9 :: a10 :: a11 :: some (.ref x) :: t) (.ref x :: st) h R) : kv_S val K pc (a0 :: a1 :: a2 :: a3 :: a4 :: a5 :: a6 :: a7 :: a8 :: a9 :: a10 :: a11 :: some (.ref x) :: t) st h R := kr_aload hd rfl k
theorem kr_astore12 {a0 a1 a2 a3 a4 a5 a6 a7 a8 a9 a10 a11 : Option Value} {a12 : Option Value} {t : List (Option Value)} {x : Nat} (hd : kv_ast K pc 12 pc') (hn : 12 < K.2.2.1) (hp : kv_c1 a11) (k : kv_S val K pc' (a0 :: a1 :: a2 :: a3 :: a4 :: a5 :: a6 :: a7 :: a8 :: a9 :: a10 :: a11 :: some (.ref x) :: t) st h R) : kv_S val K pc (a0 :: a1 :: a2 :: a3 :: a4 :: a5 :: a6 :: a7 :: a8 :: a9 :: a10 :: a11 :: a12 :: t) (.ref x :: st) h R := kr_astore hd hn (fun w _ q => hp w (Option.some.inj q)) k
theorem kr_lload12 {a0 a1 a2 a3 a4 a5 a6 a7 a8 a9 a10 a11 : Option Value} {t : List (Option Value)} {x : Int64} (hd : kv_lld K pc 12 pc') (k : kv_S val K pc' (a0 :: a1 :: a2 :: a3 :: a4 :: a5 :: a6 :: a7 :: a8 :: a9 :: a10 :: a11 :: some (.long x) :: t) (.long x :: st) h R) : kv_S val K pc (a0 :: a1 :: a2 :: a3 :: a4 :: a5 :: a6 :: a7 :: a8 :: a9 :: a10 :: a11 :: some (.long x) :: t) st h R := kr_lload hd rfl k
theorem kr_lstore12 {a0 a1 a2 a3 a4 a5 a6 a7 a8 a9 a10 a11 : Option Value} {a12 a13 : Option Value} {t : List (Option Value)} {x : Int64} (hd : kv_lst K pc 12 pc') (hn : 12 + 1 < K.2.2.1) (hp : kv_c1 a11) (k : kv_S val K pc' (a0 :: a1 :: a2 :: a3 :: a4 :: a5 :: a6 :: a7 :: a8 :: a9 :: a10 :: a11 :: some (.long x) :: none :: t) st h R) : kv_S val K pc (a0 :: a1 :: a2 :: a3 :: a4 :: a5 :: a6 :: a7 :: a8 :: a9 :: a10 :: a11 :: a12 :: a13 :: t) (.long x :: st) h R := kr_lstore hd hn (fun w _ q => hp w (Option.some.inj q)) k
theorem kr_iinc12 {a0 a1 a2 a3 a4 a5 a6 a7 a8 a9 a10 a11 : Option Value} {t : List (Option Value)} {x v : Int32} (hd : kv_inc K pc 12 v pc') (hn : 12 < K.2.2.1) (hp : kv_c1 a11) (k : kv_S val K pc' (a0 :: a1 :: a2 :: a3 :: a4 :: a5 :: a6 :: a7 :: a8 :: a9 :: a10 :: a11 :: some (.int (x + v)) :: t) st h R) : kv_S val K pc (a0 :: a1 :: a2 :: a3 :: a4 :: a5 :: a6 :: a7 :: a8 :: a9 :: a10 :: a11 :: some (.int x) :: t) st h R := kr_iinc hd rfl hn (fun w _ q => hp w (Option.some.inj q)) k
theorem kr_kill12 {a0 a1 a2 a3 a4 a5 a6 a7 a8 a9 a10 a11 : Option Value} {a12 : Option Value} {t : List (Option Value)} (k : kv_S val K pc (a0 :: a1 :: a2 :: a3 :: a4 :: a5 :: a6 :: a7 :: a8 :: a9 :: a10 :: a11 :: none :: t) st h R) : kv_S val K pc (a0 :: a1 :: a2 :: a3 :: a4 :: a5 :: a6 :: a7 :: a8 :: a9 :: a10 :: a11 :: a12 :: t) st h R := kr_kill (kv_kill1 12 (l := a0 :: a1 :: a2 :: a3 :: a4 :: a5 :: a6 :: a7 :: a8 :: a9 :: a10 :: a11 :: a12 :: t)) k
theorem kr_iload13 {a0 a1 a2 a3 a4 a5 a6 a7 a8 a9 a10 a11 a12 : Option Value} {t : List (Option Value)} {x : Int32} (hd : kv_ild K pc 13 pc') (k : kv_S val K pc' (a0 :: a1 :: a2 :: a3 :: a4 :: a5 :: a6 :: a7 :: a8 :: a9 :: a10 :: a11 :: a12 :: some (.int x) :: t) (.int x :: st) h R) : kv_S val K pc (a0 :: a1 :: a2 :: a3 :: a4 :: a5 :: a6 :: a7 :: a8 :: a9 :: a10 :: a11 :: a12 :: some (.int x) :: t) st h R := kr_iload hd rfl k
theorem kr_istore13 {a0 a1 a2 a3 a4 a5 a6 a7 a8 a9 a10 a11 a12 : Option Value} {a13 : Option Value} {t : List (Option Value)} {x : Int32} (hd : kv_ist K pc 13 pc') (hn : 13 < K.2.2.1) (hp : kv_c1 a12) (k : kv_S val K pc' (a0 :: a1 :: a2 :: a3 :: a4 :: a5 :: a6 :: a7 :: a8 :: a9 :: a10 :: a11 :: a12 :: some (.int x) :: t) st h R) : kv_S val K pc (a0 :: a1 :: a2 :: a3 :: a4 :: a5 :: a6 :: a7 :: a8 :: a9 :: a10 :: a11 :: a12 :: a13 :: t) (.int x :: st) h R := kr_istore hd hn (fun w _ q => hp w (Option.some.inj q)) k
theorem kr_aload13 {a0 a1 a2 a3 a4 a5 a6 a7 a8 a9 a10 a11 a12 : Option Value} {t : List (Option Value)} {x : Nat} (hd : kv_ald K pc 13 pc') (k : kv_S val K pc' (a0 :: a1 :: a2 :: a3 :: a4 :: a5 :: a6 :: a7 :: a8 :: a9 :: a10 :: a11 :: a12 :: some (.ref x) :: t) (.ref x :: st) h R) : kv_S val K pc (a0 :: a1 :: a2 :: a3 :: a4 :: a5 :: a6 :: a7 :: a8 :: a9 :: a10 :: a11 :: a12 :: some (.ref x) :: t) st h R := kr_aload hd rfl k
theorem kr_astore13 {a0 a1 a2 a3 a4 a5 a6 a7 a8 a9 a10 a11 a12 : Option Value} {a13 : Option Value} {t : List (Option Value)} {x : Nat} (hd : kv_ast K pc 13 pc') (hn : 13 < K.2.2.1) (hp : kv_c1 a12) (k : kv_S val K pc' (a0 :: a1 :: a2 :: a3 :: a4 :: a5 :: a6 :: a7 :: a8 :: a9 :: a10 :: a11 :: a12 :: some (.ref x) :: t) st h R) : kv_S val K pc (a0 :: a1 :: a2 :: a3 :: a4 :: a5 :: a6 :: a7 :: a8 :: a9 :: a10 :: a11 :: a12 :: a13 :: t) (.ref x :: st) h R := kr_astore hd hn (fun w _ q => hp w (Option.some.inj q)) k
theorem kr_lload13 {a0 a1 a2 a3 a4 a5 a6 a7 a8 a9 a10 a11 a12 : Option Value} {t : List (Option Value)} {x : Int64} (hd : kv_lld K pc 13 pc') (k : kv_S val K pc' (a0 :: a1 :: a2 :: a3 :: a4 :: a5 :: a6 :: a7 :: a8 :: a9 :: a10 :: a11 :: a12 :: some (.long x) :: t) (.long x :: st) h R) : kv_S val K pc (a0 :: a1 :: a2 :: a3 :: a4 :: a5 :: a6 :: a7 :: a8 :: a9 :: a10 :: a11 :: a12 :: some (.long x) :: t) st h R := kr_lload hd rfl k
theorem kr_lstore13 {a0 a1 a2 a3 a4 a5 a6 a7 a8 a9 a10 a11 a12 : Option Value} {a13 a14 : Option Value} {t : List (Option Value)} {x : Int64} (hd : kv_lst K pc 13 pc') (hn : 13 + 1 < K.2.2.1) (hp : kv_c1 a12) (k : kv_S val K pc' (a0 :: a1 :: a2 :: a3 :: a4 :: a5 :: a6 :: a7 :: a8 :: a9 :: a10 :: a11 :: a12 :: some (.long x) :: none :: t) st h R) : kv_S val K pc (a0 :: a1 :: a2 :: a3 :: a4 :: a5 :: a6 :: a7 :: a8 :: a9 :: a10 :: a11 :: a12 :: a13 :: a14 :: t) (.long x :: st) h R := kr_lstore hd hn (fun w _ q => hp w (Option.some.inj q)) k
theorem kr_iinc13 {a0 a1 a2 a3 a4 a5 a6 a7 a8 a9 a10 a11 a12 : Option Value} {t : List (Option Value)} {x v : Int32} (hd : kv_inc K pc 13 v pc') (hn : 13 < K.2.2.1) (hp : kv_c1 a12) (k : kv_S val K pc' (a0 :: a1 :: a2 :: a3 :: a4 :: a5 :: a6 :: a7 :: a8 :: a9 :: a10 :: a11 :: a12 :: some (.int (x + v)) :: t) st h R) : kv_S val K pc (a0 :: a1 :: a2 :: a3 :: a4 :: a5 :: a6 :: a7 :: a8 :: a9 :: a10 :: a11 :: a12 :: some (.int x) :: t) st h R := kr_iinc hd rfl hn (fun w _ q => hp w (Option.some.inj q)) k
theorem kr_kill13 {a0 a1 a2 a3 a4 a5 a6 a7 a8 a9 a10 a11 a12 : Option Value} {a13 : Option Value} {t : List (Option Value)} (k : kv_S val K pc (a0 :: a1 :: a2 :: a3 :: a4 :: a5 :: a6 :: a7 :: a8 :: a9 :: a10 :: a11 :: a12 :: none :: t) st h R) : kv_S val K pc (a0 :: a1 :: a2 :: a3 :: a4 :: a5 :: a6 :: a7 :: a8 :: a9 :: a10 :: a11 :: a12 :: a13 :: t) st h R := kr_kill (kv_kill1 13 (l := a0 :: a1 :: a2 :: a3 :: a4 :: a5 :: a6 :: a7 :: a8 :: a9 :: a10 :: a11 :: a12 :: a13 :: t)) k
/-! returns -/
theorem kv_QQ {G : kv_G} {r : Option Value} {h : kv_H} {s : State} {args : Array Value} {H : Heap} {locs : List Loc} (hP : va_P G.2.2.1 kv_cl (kv_w G h) H) (hS : va_S (kv_A G) s.heap H locs) : ∀ t : State, t.heap = H → s.WarmedH t.vm → kv_Q G r h args s (.returned r) t := fun t ht _ => ⟨rfl, by rw [ht]; exact hP, hS.F ht⟩
theorem kr_ireturn {v : Int32} (hd : kv_d K pc .ireturn 1 pc') (hr : K.2.2.2.1 = some .int) : kv_S kv_i K pc ls [.int v] h (some (v, h)) := by
  obtain ⟨h1, rfl⟩ := hd
  intro r h' hR p l e s m args below meth c H locs la G C hP hS hL
  cases hR
  exact W.iret C.1 C.2.1 (C.2.2.2.2.2.1.trans hr) (kv_QQ hP hS) hS.2.2 h1 C.2.2.2.2.2.2.1
theorem kr_zreturn {v : Int32} {ty : FieldType} (hd : kv_d K pc .ireturn 1 pc') (hr : K.2.2.2.1 = some ty) : kv_S kv_i K pc ls [.int v] h (kv_t ty v (some (v, h))) := by
  obtain ⟨h1, rfl⟩ := hd
  intro r h' hR p l e s m args below meth c H locs la G C hP hS hL
  obtain ⟨hn, hR⟩ := kv_t_some hR
  cases hR
  exact W.zret C.1 C.2.1 (C.2.2.2.2.2.1.trans hr) hn (kv_QQ hP hS) hS.2.2 h1 C.2.2.2.2.2.2.1
/-- an answer of a small type that is known -/
theorem kr_zreturnK {v : Int32} {ty : FieldType} (hn : narrow ty (.int v) = .int v) (hd : kv_d K pc .ireturn 1 pc') (hr : K.2.2.2.1 = some ty) : kv_S kv_i K pc ls [.int v] h (some (v, h)) := by
  obtain ⟨h1, rfl⟩ := hd
  intro r h' hR p l e s m args below meth c H locs la G C hP hS hL
  cases hR
  exact W.zret C.1 C.2.1 (C.2.2.2.2.2.1.trans hr) hn (kv_QQ hP hS) hS.2.2 h1 C.2.2.2.2.2.2.1
theorem kr_lreturn {v : Int64} (hd : kv_d K pc .lreturn 1 pc') (hr : K.2.2.2.1 = some .long) : kv_S kv_l K pc ls [.long v] h (some (v, h)) := by
  obtain ⟨h1, rfl⟩ := hd
  intro r h' hR p l e s m args below meth c H locs la G C hP hS hL
  cases hR
  exact W.lret C.1 C.2.1 (C.2.2.2.2.2.1.trans hr) (kv_QQ hP hS) hS.2.2 h1 C.2.2.2.2.2.2.1
theorem kr_return (hd : kv_d K pc .return_ 1 pc') (hr : K.2.2.2.1 = none) : kv_S kv_u K pc ls [] h (some ((), h)) := by
  obtain ⟨h1, rfl⟩ := hd
  intro r h' hR p l e s m args below meth c H locs la G C hP hS hL
  cases hR
  exact W.vret C.1 C.2.1 (C.2.2.2.2.2.1.trans hr) (kv_QQ hP hS) hS.2.2 h1 C.2.2.2.2.2.2.1
/-! fields -/
def kv_Fl (own : String) (idx ci j : Nat) : Prop := ∃ (C : String) (T : u_T) (N : Nat), kv_cl[ci]? = some (C, T, N) ∧ j < N ∧ (∀ w ∈ u_ws C T N, w ∈ kv_T) ∧ Cond.fieldLink own idx (T j).1 (T j).2.1 (T j).2.2.1 ∈ kv_T
def kv_Fp (ty : FieldType) (own : String) (idx ci j : Nat) : Prop := ∃ (C : String) (T : u_T) (N : Nat) (ty0 : Nat → FieldType), kv_cl[ci]? = some (C, T, N) ∧ j < N ∧ (∀ w ∈ u_ws C T N, w ∈ kv_T) ∧ Cond.fieldLink own idx (T j).1 (T j).2.1 (T j).2.2.1 ∈ kv_T ∧ (∀ k, k < N → parseFieldDescriptor (T k).2.2.1 = some (ty0 k)) ∧ (∀ a, a < N → ∀ b, b < N → a ≠ b → (T a).2.1 ≠ (T b).2.1) ∧ (T j).2.2.2 = false ∧ parseFieldDescriptor (T j).2.2.1 = some ty
theorem kr_getI {idx ci j k : Nat} {fs : List (Option Nat)} (hd : kv_d K pc (.getfield idx) 3 pc') (hF : kv_Fl K.1.cls idx ci j) (hs : kv_sh[k]? = some (.inr (ci, fs))) (hf : fs[j]? = some none) (kk : kv_S val K pc' ls (.int (h k j) :: st) h R) : kv_S val K pc ls (.ref k :: st) h R := by
  obtain ⟨h1, rfl⟩ := hd
  obtain ⟨Cn, T, N, f1, f2, f3, f4⟩ := hF
  intro r h' hR p l e s m args below meth c H locs la G C hP hS hL
  exact va_get C.1 C.2.1 C.2.2.2.2.1 f3 C.2.2.2.1 C.2.2.2.2.2.2.2.2.1 hP k (kv_w_at hs) f1 j f2 (C.2.2.2.2.1 _ f4) (fun _ q => q) (v := .int (h k j)) (by rw [List.getElem?_mapIdx, hf]; rfl) h1 (kk r h' hR p l e s m args below meth c H locs la G C hP hS hL)
theorem kr_getR {idx ci j k q : Nat} {fs : List (Option Nat)} (hd : kv_d K pc (.getfield idx) 3 pc') (hF : kv_Fl K.1.cls idx ci j) (hs : kv_sh[k]? = some (.inr (ci, fs))) (hf : fs[j]? = some (some q)) (kk : kv_S val K pc' ls (.ref q :: st) h R) : kv_S val K pc ls (.ref k :: st) h R := by
  obtain ⟨h1, rfl⟩ := hd
  obtain ⟨Cn, T, N, f1, f2, f3, f4⟩ := hF
  intro r h' hR p l e s m args below meth c H locs la G C hP hS hL
  exact va_get C.1 C.2.1 C.2.2.2.2.1 f3 C.2.2.2.1 C.2.2.2.2.2.2.2.2.1 hP k (kv_w_at hs) f1 j f2 (C.2.2.2.2.1 _ f4) (fun _ q => q) (v := .ref (kv_ad G q)) (by rw [List.getElem?_mapIdx, hf]; rfl) h1 (kk r h' hR p l e s m args below meth c H locs la G C hP hS hL)
theorem kv_f_set {G : kv_G} {h : kv_H} {k j : Nat} {v : Int32} {fs : List (Option Nat)} (hf : fs[j]? = some none) : (fs.mapIdx (kv_f G h k)).set j (.int v) = fs.mapIdx (kv_f G (kv_up h k j v) k) := by
  apply List.ext_getElem?
  intro i
  by_cases e : i = j
  · subst e
    rw [List.getElem?_set_self (by rw [List.length_mapIdx]; exact (List.getElem?_eq_some_iff.mp hf).1), List.getElem?_mapIdx, hf]
    simp [kv_f, kv_up]
  · rw [List.getElem?_set_ne (fun z => e z.symm), List.getElem?_mapIdx, List.getElem?_mapIdx]
    cases hs : fs[i]? with
    | none => rfl
    | some x => cases x <;> simp [kv_f, kv_up, e]
theorem kr_putI {ty : FieldType} {idx ci j k : Nat} {v : Int32} {fs : List (Option Nat)} (hd : kv_d K pc (.putfield idx) 3 pc') (hF : kv_Fp ty K.1.cls idx ci j) (hs : kv_sh[k]? = some (.inr (ci, fs))) (hf : fs[j]? = some none) (hn : narrow ty (.int v) = .int v) (hfit : fits ty (.int v) = true) (kk : kv_S val K pc' ls st (kv_up h k j v) R) : kv_S val K pc ls (.int v :: .ref k :: st) h R := by
  obtain ⟨h1, rfl⟩ := hd
  obtain ⟨Cn, T, N, ty0, f1, f2, f3, f4, f5, f6, f7, f8⟩ := hF
  intro r h' hR p l e s m args below meth c H locs la G C hP hS hL
  refine va_put C.1 C.2.1 C.2.2.2.2.1 f3 ty0 f5 f6 C.2.2.2.1 C.2.2.2.2.2.2.2.2.1 hP (kv_wD C.2.2.2.2.2.2.2.1 h) hS k (kv_w_at hs) f1 j f2 (C.2.2.2.2.1 _ f4) (fun _ q => q) f7 (v := .int v) f8 hn hfit (by rw [List.length_mapIdx]; exact (List.getElem?_eq_some_iff.mp hf).1) h1 (fun H1 locs1 hP1 _ hS1 => ?_)
  rw [kv_f_set hf] at hP1
  have e1 := kv_w_set (G := G) (h := h) (h' := kv_up h k j v) hs (kv_up_off h k j v)
  exact kk r h' hR p l e s m args below meth c H1 locs1 la G C (by rw [← e1]; exact hP1) hS1 hL
/-! arrays -/
theorem kr_iaload {k n : Nat} {x : Int32} (hd : kv_d K pc .iaload 1 pc') (hs : kv_sh[k]? = some (.inl (n, none))) (kk : kv_S val K pc' ls (.int (h k x.toNatClampNeg) :: st) h R) : kv_S val K pc ls (.int x :: .ref k :: st) h (kv_k x n R) := by
  obtain ⟨h1, rfl⟩ := hd
  intro r h' hR p l e s m args below meth c H locs la G C hP hS hL
  obtain ⟨hin, hR⟩ := kv_k_some hR
  exact va_iald C.1 C.2.1 C.2.2.2.2.2.2.2.2.1 hP k 0 (kv_w_at hs) rfl hin h1 (kk r h' hR p l e s m args below meth c H locs la G C hP hS hL)
theorem kr_ialoadK {k n : Nat} {x : Int32} (hin : vp_in x n) (hd : kv_d K pc .iaload 1 pc') (hs : kv_sh[k]? = some (.inl (n, none))) (kk : kv_S val K pc' ls (.int (h k x.toNatClampNeg) :: st) h R) : kv_S val K pc ls (.int x :: .ref k :: st) h R := by
  obtain ⟨h1, rfl⟩ := hd
  intro r h' hR p l e s m args below meth c H locs la G C hP hS hL
  exact va_iald C.1 C.2.1 C.2.2.2.2.2.2.2.2.1 hP k 0 (kv_w_at hs) rfl hin h1 (kk r h' hR p l e s m args below meth c H locs la G C hP hS hL)
theorem kr_iastoreK {k n : Nat} {x v : Int32} (hin : vp_in x n) (hd : kv_d K pc .iastore 1 pc') (hs : kv_sh[k]? = some (.inl (n, none))) (kk : kv_S val K pc' ls st (kv_up h k x.toNatClampNeg v) R) : kv_S val K pc ls (.int v :: .int x :: .ref k :: st) h R := by
  obtain ⟨h1, rfl⟩ := hd
  intro r h' hR p l e s m args below meth c H locs la G C hP hS hL
  refine va_iast C.1 C.2.1 C.2.2.2.2.2.2.2.2.1 hP (kv_wD C.2.2.2.2.2.2.2.1 h) hS k 0 (kv_w_at hs) rfl hin h1 (fun H1 locs1 hP1 _ hS1 => ?_)
  have e1 := kv_w_set (G := G) (h := h) (h' := kv_up h k x.toNatClampNeg v) hs (kv_up_off h k _ v)
  have e2 : kv_e G (kv_up h k x.toNatClampNeg v) k (.inl (n, none)) = .inl (G.1, n, .inl (upd (h k) x.toNatClampNeg v)) := by
    show (.inl (G.1, n, .inl (kv_up h k x.toNatClampNeg v k)) : va_E) = _
    rw [kv_up_at]
  rw [e2] at e1
  exact kk r h' hR p l e s m args below meth c H1 locs1 la G C (by rw [← e1]; exact hP1) hS1 hL
theorem kr_iastore {k n : Nat} {x v : Int32} (hd : kv_d K pc .iastore 1 pc') (hs : kv_sh[k]? = some (.inl (n, none))) (kk : kv_S val K pc' ls st (kv_up h k x.toNatClampNeg v) R) : kv_S val K pc ls (.int v :: .int x :: .ref k :: st) h (kv_k x n R) := by
  intro r h' hR
  obtain ⟨hin, hR⟩ := kv_k_some hR
  exact kr_iastoreK hin hd hs kk r h' hR
def kv_rt (c : Nat) : Option Nat := match c with
  | 0 => some 1 | 3 => some 2 | 4 => some 3 | 6 => some 4 | _ => none
theorem kr_aaload {k n cc b t : Nat} {x : Int32} (hd : kv_d K pc .aaload 1 pc') (hs : kv_sh[k]? = some (.inl (n, some (cc, b, t)))) (hcc : cc = 0 ∨ cc = 3 ∨ cc = 4 ∨ cc = 6) (kk : vp_in x n → kv_S val K pc' ls (.ref (b + t * x.toNatClampNeg) :: st) h R) : kv_S val K pc ls (.int x :: .ref k :: st) h (kv_k x n R) := by
  obtain ⟨h1, rfl⟩ := hd
  intro r h' hR p l e s m args below meth c H locs la G C hP hS hL
  obtain ⟨hin, hR⟩ := kv_k_some hR
  have kk := kk hin r h' hR p l e s m args below meth c H locs la G C hP hS hL
  rcases hcc with rfl | rfl | rfl | rfl
  · exact va_aldq (C := RX0) C.1 C.2.1 C.2.2.2.2.2.2.2.2.1 hP k 1 (kv_w_at hs) rfl hin h1 kk
  · exact va_aldq (C := RX3) C.1 C.2.1 C.2.2.2.2.2.2.2.2.1 hP k 2 (kv_w_at hs) rfl hin h1 kk
  · exact va_aldq (C := RX4) C.1 C.2.1 C.2.2.2.2.2.2.2.2.1 hP k 3 (kv_w_at hs) rfl hin h1 kk
  · exact va_aldq (C := RX6) C.1 C.2.1 C.2.2.2.2.2.2.2.2.1 hP k 4 (kv_w_at hs) rfl hin h1 kk
theorem kr_alen {k n : Nat} (hd : kv_d K pc .arraylength 1 pc') (hs : kv_sh[k]? = some (.inl (n, none))) (kk : kv_S val K pc' ls (.int (nI n) :: st) h R) : kv_S val K pc ls (.ref k :: st) h R := by
  obtain ⟨h1, rfl⟩ := hd
  intro r h' hR p l e s m args below meth c H locs la G C hP hS hL
  exact va_alen C.1 C.2.1 C.2.2.2.2.2.2.2.2.1 hP k 0 (kv_w_at hs) rfl (v := nI n) rfl h1 (kk r h' hR p l e s m args below meth c H locs la G C hP hS hL)
def kv_cp {β : Type} (sp n0 dp n1 : Nat) (x y z : Int32) (R : Option β) : Option β := if x < 0 ∨ y < 0 ∨ z < 0 ∨ n0 < sp + z.toNatClampNeg ∨ n1 < dp + z.toNatClampNeg then none else R

end KR

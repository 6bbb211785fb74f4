/-! PURE PART: means: sums over rows -/
def pz_sm (f : Nat → Int64) : Nat → Int64
  | 0 => 0
  | k + 1 => pz_sm f k + f k
theorem pz_smC {f g : Nat → Int64} : ∀ k, (∀ i, i < k → f i = g i) → pz_sm f k = pz_sm g k := by
  intro k
  induction k with
  | zero => intro _; rfl
  | succ k ih => intro h; rw [pz_sm, pz_sm, ih (fun i hi => h i (by omega)), h k (by omega)]
theorem pz_sm0 {f : Nat → Int64} (k : Nat) (h : ∀ i, i < k → f i = 0) : pz_sm f k = 0 := by
  induction k with
  | zero => rfl
  | succ k ih => rw [pz_sm, ih (fun i hi => h i (by omega)), h k (by omega)]; rfl
theorem pz_smA (f : Nat → Int64) (a : Nat) : ∀ b, pz_sm f (a + b) = pz_sm f a + pz_sm (fun k => f (a + k)) b := by
  intro b
  induction b with
  | zero => rw [pz_sm, Int64.add_zero]; rfl
  | succ b ih => rw [← Nat.add_assoc, pz_sm, ih, pz_sm, Int64.add_assoc]
theorem pz_smM (f : Nat → Int64) (b : Nat) : ∀ a, pz_sm f (a * b) = pz_sm (fun u => pz_sm (fun k => f (u * b + k)) b) a := by
  intro a
  induction a with
  | zero => rw [Nat.zero_mul]; rfl
  | succ a ih => rw [Nat.succ_mul, pz_smA, ih, pz_sm]
def pz_dg (n : Nat) : Nat → Nat → List Nat
  | 0, _ => []
  | d + 1, k => (k / n ^ d % n) :: pz_dg n d k
theorem pz_dgL (n : Nat) : ∀ d k, (pz_dg n d k).length = d := by
  intro d
  induction d with
  | zero => intro k; rfl
  | succ d ih => intro k; rw [pz_dg, List.length_cons, ih]
theorem pz_dgI (n : Nat) : ∀ d k i u, (pz_dg n d k)[i]? = some u → i < d ∧ u = k / n ^ (d - 1 - i) % n := by
  intro d
  induction d with
  | zero => intro k i u h; cases h
  | succ d ih =>
    intro k i u h
    match i, h with
    | 0, h => cases h; exact ⟨by omega, rfl⟩
    | i + 1, h =>
      have := ih k i u h
      refine ⟨by omega, ?_⟩
      rw [this.2, show d + 1 - 1 - (i + 1) = d - 1 - i from by omega]
theorem pz_dgU {n : Nat} (n0 : 0 < n) : ∀ d k u, u ∈ pz_dg n d k → u < n := by
  intro d
  induction d with
  | zero => intro k u h; cases h
  | succ d ih =>
    intro k u h
    rcases List.mem_cons.mp h with z | z
    · rw [z]; exact Nat.mod_lt _ n0
    · exact ih k u z
theorem pz_dgM {n : Nat} (n0 : 0 < n) (e u k : Nat) : ∀ m, m ≤ e → pz_dg n m (u * n ^ e + k) = pz_dg n m k := by
  intro m
  induction m with
  | zero => intro _; rfl
  | succ m ih =>
    intro hm
    rw [pz_dg, pz_dg, ih (by omega)]
    congr 1
    obtain ⟨j, ej⟩ : ∃ j, e = m + 1 + j := ⟨e - (m + 1), by omega⟩
    have p : u * n ^ e = (u * n ^ j * n) * n ^ m := by
      rw [ej, Nat.pow_add, Nat.pow_succ]
      generalize n ^ m = A
      generalize n ^ j = B
      ac_rfl
    rw [p, Nat.add_comm, Nat.add_mul_div_right _ _ (Nat.pow_pos n0), Nat.add_mul_mod_self_right]
def pz_wt (D : Nat → Nat → Nat) (u : Nat) : Int64 := (nI (D 3 u)).toInt64
def pz_pd (D : Nat → Nat → Nat) : List Nat → Int64 → Int64
  | [], w => w
  | u :: r, w => pz_pd D r (w * pz_wt D u)
theorem pz_pd0 (D : Nat → Nat → Nat) : ∀ L, pz_pd D L 0 = 0 := by
  intro L
  induction L with
  | nil => rfl
  | cons u r ih => rw [pz_pd, Int64.zero_mul]; exact ih
noncomputable def pz_meC (n : Nat) (D : Nat → Nat → Nat) (t : Nat) (TX : Nat → pz_T) (sp ru ca : Nat) (x0 : Int32) : Nat → List Nat → (Nat → Int32) → Int64 → Int64
  | 0, _, _, _ => 0
  | d + 1, V, X, w => pz_sm (fun u => if w * pz_wt D u = 0 then 0 else if d = 0 then (w * pz_wt D u) * ((pz_askS n D t TX sp ru ca V X u).2.2 1 - x0).toInt64 else pz_meC n D t TX sp ru ca x0 d (pz_askS n D t TX sp ru ca V X u).2.1 (pz_askS n D t TX sp ru ca V X u).2.2 (w * pz_wt D u)) n
noncomputable def pz_tm (n : Nat) (D : Nat → Nat → Nat) (t : Nat) (TX : Nat → pz_T) (sp ru ca : Nat) (x0 : Int32) (V : List Nat) (X : Nat → Int32) (w : Int64) (L : List Nat) : Int64 := if pz_pd D L w = 0 then 0 else pz_pd D L w * ((pz_runS n D t TX sp ru ca L V X).2 1 - x0).toInt64
theorem pz_meE {n : Nat} {D : Nat → Nat → Nat} {t : Nat} {TX : Nat → pz_T} {sp ru ca : Nat} {x0 : Int32} : ∀ (d : Nat) (V : List Nat) (X : Nat → Int32) (w : Int64), pz_meC n D t TX sp ru ca x0 (d + 1) V X w = pz_sm (fun k => pz_tm n D t TX sp ru ca x0 V X w (pz_dg n (d + 1) k)) (n ^ (d + 1)) := by
  intro d
  induction d with
  | zero =>
    intro V X w
    rw [pz_meC, Nat.zero_add, Nat.pow_one]
    apply pz_smC
    intro k hk
    rw [if_pos rfl, pz_dg, pz_dg, Nat.pow_zero, Nat.div_one, Nat.mod_eq_of_lt hk, pz_tm, pz_pd, pz_pd, pz_runS, pz_runS]
  | succ d ih =>
    intro V X w
    rw [pz_meC, Nat.pow_succ, Nat.mul_comm, pz_smM]
    apply pz_smC
    intro u hu
    have n0 : 0 < n := by omega
    have dg : ∀ k, k < n ^ (d + 1) → pz_dg n (d + 1 + 1) (u * n ^ (d + 1) + k) = u :: pz_dg n (d + 1) k := by
      intro k hk
      rw [pz_dg, pz_dgM n0 (d + 1) u k (d + 1) (Nat.le_refl _)]
      congr 1
      rw [Nat.add_comm, Nat.add_mul_div_right _ _ (Nat.pow_pos n0), Nat.div_eq_of_lt hk, Nat.zero_add, Nat.mod_eq_of_lt hu]
    by_cases z : w * pz_wt D u = 0
    · rw [if_pos z]
      symm
      apply pz_sm0
      intro k hk
      rw [dg k hk, pz_tm, pz_pd, z, pz_pd0, if_pos rfl]
    · rw [if_neg z, if_neg (by omega), ih]
      apply pz_smC
      intro k hk
      rw [dg k hk, pz_tm, pz_tm, pz_pd, pz_runS]

def pz_P : kv_H → Prop := fun _ => True
theorem pz_0 : pz_P kv_h0 := trivial
theorem pz_ops : kl_Ops pz_P := sorry

/-! Row's other methods. -/
theorem set_self {G : bo_G} {a : Nat} {c : bo_C} (h : G[a]? = some c) : G.set a c = G := by
  apply List.ext_getElem?
  intro j
  by_cases hj : a = j
  · subst hj
    rw [List.getElem?_set_self (List.getElem?_eq_some_iff.mp h).1, h]
  · rw [List.getElem?_set_ne hj]
theorem get_set {G : bo_G} {a : Nat} {c c0 : bo_C} (h : G[a]? = some c0) : (G.set a c)[a]? = some c := List.getElem?_set_self (List.getElem?_eq_some_iff.mp h).1
theorem s_size {d a lim cap : Nat} {xs : List Int32} {G : bo_G} {Q : Option Value → bo_G → Prop} (hG : G[a]? = some (cR lim cap xs)) (k : Q (some (.int (Int32.ofNat xs.length))) G) : Cx d mX4_size [.ref a] G Q := by
  refine Cx.body rfl rfl ?_
  (repeat (first | refine Ex.go rfl rfl ?_ | refine Ex.gf rfl rfl (by assumption) (by rfl) (by first | rfl | assumption) ?_))
  refine Ex.gsz rfl rfl hG ?_
  refine Ex.ret rfl rfl rfl ?_
  exact k
theorem bo_lei {n : Nat} (hn : n < 2 ^ 31) {i : Int32} (h0 : 0 ≤ i) : i ≤ Int32.ofNat n ↔ i.toNatClampNeg ≤ n := by
  have h2 : (Int32.ofNat n).toInt = (n : Int) := nI_toInt hn
  have h1 := bp_nat h0
  rw [Int32.le_iff_toInt_le, h2, h1]
  omega
def rcut (n : Int32) (xs : List Int32) : List Int32 := if 0 ≤ n ∧ n.toNatClampNeg ≤ xs.length then xs.take n.toNatClampNeg else xs
theorem s_cut {d a lim cap : Nat} {n : Int32} {xs : List Int32} {G : bo_G} {Q : Option Value → bo_G → Prop} (hG : G[a]? = some (cR lim cap xs)) (hn : xs.length < 2 ^ 31) (k : Q (some (.int (bo_b (0 ≤ n ∧ n.toNatClampNeg ≤ xs.length)))) (G.set a (cR lim cap (rcut n xs)))) : Cx d mX4_cut [.ref a, .int n] G Q := by
  refine Cx.body rfl rfl ?_
  (repeat (first | refine Ex.go rfl rfl ?_ | refine Ex.gf rfl rfl (by assumption) (by rfl) (by first | rfl | assumption) ?_))
  refine Ex.br (fun hb => ?_) (fun hb => ?_)
  · have hc : ¬ (0 ≤ n ∧ n.toNatClampNeg ≤ xs.length) := fun z => absurd hb (Int32.not_lt.mpr z.1)
    rw [bo_b_f hc, rcut, if_neg hc, set_self hG] at k
    (repeat (first | refine Ex.go rfl rfl ?_ | refine Ex.gf rfl rfl (by assumption) (by rfl) (by first | rfl | assumption) ?_))
    refine Ex.retz rfl rfl rfl (Or.inl rfl) k
  · have h0 := Int32.not_lt.mp hb
    (repeat (first | refine Ex.go rfl rfl ?_ | refine Ex.gf rfl rfl (by assumption) (by rfl) (by first | rfl | assumption) ?_))
    refine Ex.gsz rfl rfl hG ?_
    (repeat (first | refine Ex.go rfl rfl ?_ | refine Ex.gf rfl rfl (by assumption) (by rfl) (by first | rfl | assumption) ?_))
    refine Ex.br (fun hb => ?_) (fun hb => ?_)
    · have hc : 0 ≤ n ∧ n.toNatClampNeg ≤ xs.length := ⟨h0, (bo_lei hn h0).mp hb⟩
      rw [bo_b_t hc, rcut, if_pos hc] at k
      (repeat (first | refine Ex.go rfl rfl ?_ | refine Ex.gf rfl rfl (by assumption) (by rfl) (by first | rfl | assumption) ?_))
      refine Ex.psz rfl rfl rfl hG h0 rfl hc.2 ?_
      (repeat (first | refine Ex.go rfl rfl ?_ | refine Ex.gf rfl rfl (by assumption) (by rfl) (by first | rfl | assumption) ?_))
      refine Ex.retz rfl rfl rfl (Or.inr rfl) k
    · have hc : ¬ (0 ≤ n ∧ n.toNatClampNeg ≤ xs.length) := fun z => hb ((bo_lei hn h0).mpr z.2)
      rw [bo_b_f hc, rcut, if_neg hc, set_self hG] at k
      (repeat (first | refine Ex.go rfl rfl ?_ | refine Ex.gf rfl rfl (by assumption) (by rfl) (by first | rfl | assumption) ?_))
      refine Ex.retz rfl rfl rfl (Or.inl rfl) k

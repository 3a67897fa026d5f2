/-! The class's spot: how thick on a day. -/
section CI
variable {d a : Nat} {G : bo_G} {Q : Option Value → bo_G → Prop}
/-- what a spot's object says is ahead of its last measure -/
def spO (s : spT) : Option (Int × Int) := if s.2.2.1 = -1 then none else some (s.2.2.1.toInt, s.2.2.2.toInt)
def spB (s : spT) : Prop := rng s.1 0 40000 ∧ rng s.2.1 0 10000 ∧ (s.2.2.1 = -1 ∨ rng s.2.2.1 0 40000 ∧ rng s.2.2.2 0 10000 ∧ s.2.2.1.toInt < s.1.toInt)
theorem up_div {t D P : Int} (hD : 0 < D) : (t * D - P) / D = t - (P + D - 1) / D := by
  have h1 := Int.mul_ediv_add_emod (P + D - 1) D
  have h2 := Int.emod_nonneg (P + D - 1) (show D ≠ 0 by omega)
  have h3 := Int.emod_lt_of_pos (P + D - 1) hD
  generalize (P + D - 1) / D = q at *
  have e : (t - q) * D = t * D - D * q := by rw [Int.sub_mul, Int.mul_comm q D]
  have e2 : (t - q + 1) * D = t * D - D * q + D := by rw [Int.add_mul, e, Int.one_mul]
  apply Int.le_antisymm
  · have : (t * D - P) / D < t - q + 1 := Int.ediv_lt_of_lt_mul hD (by rw [e2]; omega)
    omega
  · exact Int.le_ediv_of_mul_le hD (by rw [e]; omega)
theorem s_spThick {s : spT} {x w : Int32} (hG : G[a]? = some (spC s)) (hB : spB s) (b3 : rng w 0 1000) (hx : s.1.toInt ≤ x.toInt) (hx4 : x.toInt ≤ 40000) (k : ∀ r : Int32, r.toInt = thZ s.1.toInt s.2.1.toInt (spO s) w.toInt x.toInt → Q (some (.int r)) G) : Cx d mX6_thickOn [.ref a, .int x, .int w] G Q := by
  obtain ⟨b1, b2, b4⟩ := hB
  unfold spO at k
  have fin : ∀ (up down : Int64) (U D : Int), up.toInt = U → down.toInt = D → 0 ≤ U ∧ U ≤ 10000 → 1 ≤ D ∧ D ≤ 40000 → (∀ r : Int32, r.toInt = max 0 ((s.2.1.toInt * D - U * (x.toInt - s.1.toInt)) / D) → Q (some (.int r)) G) → Ex d mX6_thickOn (70, [(0, .ref a), (1, .int x), (2, .int w), (3, .long up), (5, .long down)], [], G) Q := by
    intro up down U D hU hD bU bD k
    have hn : 0 ≤ x.toInt - s.1.toInt := by omega
    have hm2 := z_pb bU.1 bU.2 hn (show x.toInt - s.1.toInt ≤ 40000 by have := b1.1; omega)
    have hx1 : (x - s.1).toInt = x.toInt - s.1.toInt := z_sub rfl rfl (by have := b1.1; have := b1.2; omega)
    have l2 : (up * (x - s.1).toInt64).toInt = U * (x.toInt - s.1.toInt) := l_mul hU (l_of hx1) (by omega)
    have l3 := l_add l2 hD (by omega)
    have l4 : (up * (x - s.1).toInt64 + down - Int64.ofNat ((1 : Fin 2).val)).toInt = U * (x.toInt - s.1.toInt) + D - 1 := l_sub l3 rfl (by omega)
    have l5 := l_div l4 hD (by omega) (by omega)
    rw [up_div (show 0 < D by omega)] at k
    generalize hN : (U * (x.toInt - s.1.toInt) + D - 1) / D = N at *
    have hN2 : 0 ≤ N ∧ N ≤ 400040000 := by
      rw [← hN]
      constructor
      · exact Int.ediv_nonneg (by omega) (by omega)
      · exact Int.ediv_le_of_le_mul (by omega) (by have : 400040000 * 1 ≤ 400040000 * D := Int.mul_le_mul_of_nonneg_left (by omega) (by omega); omega)
    have l6 := l_sub (l_of (rfl : s.2.1.toInt = _)) l5 (by have := b2.1; have := b2.2; omega)
    have h1 : ¬ down = 0 := fun z => by rw [z] at hD; have : (0 : Int64).toInt = 0 := rfl; omega
    (repeat (first | refine Ex.go rfl rfl ?_ | refine Ex.gf rfl rfl (by assumption) (by rfl) (by first | rfl | assumption) ?_))
    refine Ex.br (fun c1 => ?_) (fun c1 => ?_); rotate_left
    · have c2 := lcmp_nge c1
      rw [hD] at c2
      have c3 : D < 1 := c2
      omega
    (repeat (first | refine Ex.go rfl rfl ?_ | refine Ex.gf rfl rfl (by assumption) (by rfl) (by first | rfl | assumption) ?_))
    refine Ex.ldv rfl h1 ?_
    (repeat (first | refine Ex.go rfl rfl ?_ | refine Ex.gf rfl rfl (by assumption) (by rfl) (by first | rfl | assumption) ?_))
    refine Ex.br (fun hc => ?_) (fun hc => ?_)
    · have hc1 := lcmp_ge hc
      have hc2 : 0 ≤ s.2.1.toInt - N := by
        rw [show _ = s.2.1.toInt - N from l6] at hc1
        exact hc1
      (repeat (first | refine Ex.go rfl rfl ?_ | refine Ex.gf rfl rfl (by assumption) (by rfl) (by first | rfl | assumption) ?_))
      refine Ex.ret rfl rfl rfl ?_
      refine k _ ?_
      rw [show _ = s.2.1.toInt - N from l_to l6 (by have := b2.1; have := b2.2; omega)]
      omega
    · have hc1 := lcmp_nge hc
      have hc2 : s.2.1.toInt - N < 0 := by
        rw [show _ = s.2.1.toInt - N from l6] at hc1
        exact hc1
      (repeat (first | refine Ex.go rfl rfl ?_ | refine Ex.gf rfl rfl (by assumption) (by rfl) (by first | rfl | assumption) ?_))
      refine Ex.ret rfl rfl rfl ?_
      refine k _ ?_
      rw [show (Int32.ofInt 0).toInt = 0 from rfl]
      omega
  refine Cx.body rfl rfl ?_
  (repeat (first | refine Ex.go rfl rfl ?_ | refine Ex.gf rfl rfl (by assumption) (by rfl) (by first | rfl | assumption) ?_))
  refine Ex.br (fun c1 => ?_) (fun c1 => ?_)
  · rw [if_pos (Decidable.not_not.mp (by simpa using c1))] at k
    (repeat (first | exact fin _ _ _ 365 (l_of rfl) rfl ⟨b3.1, by have := b3.2; omega⟩ (by omega) k | refine Ex.go rfl rfl ?_ | refine Ex.gf rfl rfl (by assumption) (by rfl) (by first | rfl | assumption) ?_))
  · have c2 : ¬ s.2.2.1 = -1 := by simpa using c1
    rw [if_neg c2] at k
    obtain ⟨b5, b6, b7⟩ := b4.resolve_left c2
    have hd1 : (s.2.2.2 - s.2.1).toInt = s.2.2.2.toInt - s.2.1.toInt := z_sub rfl rfl (by have := b6.1; have := b6.2; have := b2.1; have := b2.2; omega)
    have hd2 : (s.1 - s.2.2.1).toInt = s.1.toInt - s.2.2.1.toInt := z_sub rfl rfl (by have := b5.1; have := b5.2; have := b1.1; have := b1.2; omega)
    have hd3 := z_pb b3.1 b3.2 (show 0 ≤ s.1.toInt - s.2.2.1.toInt by omega) (show s.1.toInt - s.2.2.1.toInt ≤ 40000 by have := b1.2; have := b5.1; omega)
    have l1 : (365 * (s.2.2.2 - s.2.1).toInt64).toInt = (s.2.2.2.toInt - s.2.1.toInt) * 365 := by
      have h5 : (365 : Int64).toInt = (365 : Int) := rfl
      have l0 : (365 * (s.2.2.2 - s.2.1).toInt64).toInt = 365 * (s.2.2.2.toInt - s.2.1.toInt) := l_mul h5 (l_of hd1) (by have := b6.1; have := b6.2; have := b2.1; have := b2.2; omega)
      rw [l0, Int.mul_comm]
    have l2 : (w.toInt64 * (s.1 - s.2.2.1).toInt64).toInt = w.toInt * (s.1.toInt - s.2.2.1.toInt) := l_mul (l_of rfl) (l_of hd2) (by omega)
    (repeat (first | refine Ex.go rfl rfl ?_ | refine Ex.gf rfl rfl (by assumption) (by rfl) (by first | rfl | assumption) ?_))
    refine Ex.br (fun hc => ?_) (fun hc => ?_)
    · have hc1 := lcmp_le hc
      rw [l1, l2] at hc1
      have e1 : ¬ w.toInt * (s.1.toInt - s.2.2.1.toInt) < (s.2.2.2.toInt - s.2.1.toInt) * 365 := by omega
      have k2 : ∀ r : Int32, r.toInt = max 0 ((s.2.1.toInt * 365 - w.toInt * (x.toInt - s.1.toInt)) / 365) → Q (some (.int r)) G := fun r hr => k r (hr.trans (if_neg e1).symm)
      (repeat (first | exact fin _ _ _ 365 (l_of rfl) rfl ⟨b3.1, by have := b3.2; omega⟩ (by omega) k2 | refine Ex.go rfl rfl ?_ | refine Ex.gf rfl rfl (by assumption) (by rfl) (by first | rfl | assumption) ?_))
    · have hc1 := lcmp_nle hc
      rw [l1, l2] at hc1
      have k2 : ∀ r : Int32, r.toInt = max 0 ((s.2.1.toInt * (s.1.toInt - s.2.2.1.toInt) - (s.2.2.2.toInt - s.2.1.toInt) * (x.toInt - s.1.toInt)) / (s.1.toInt - s.2.2.1.toInt)) → Q (some (.int r)) G := fun r hr => k r (hr.trans (if_pos hc1).symm)
      have hpos : 0 ≤ s.2.2.2.toInt - s.2.1.toInt := by omega
      (repeat (first | exact fin _ _ _ _ (l_of hd1) (l_of hd2) ⟨hpos, by have := b6.2; have := b2.1; omega⟩ ⟨by omega, by have := b1.2; have := b5.1; omega⟩ k2 | refine Ex.go rfl rfl ?_ | refine Ex.gf rfl rfl (by assumption) (by rfl) (by first | rfl | assumption) ?_))
end CI

/-! The reference's thickness. -/
section RR
variable {d : Nat} {G : bo_G} {Q : Option Value → bo_G → Prop} {fs : List Value} {lg : Nat → Int32} {E : Nat} {td : Int32} {VS : Nat} {pt vl pp va pa wa nn : Nat → Int32}
def oZ (o : Option (Int32 × Int32)) : Option (Int × Int) := o.map fun q => (q.1.toInt, q.2.toInt)
/-- what a row of a spot may hold -/
def rwB (lg : Nat → Int32) (E v p s : Nat) (x y : Int32) : Prop := rng (rwE lg E v p s x y) 0 40000 ∧ rng (rwT lg E v p s x y) 0 10000 ∧ rng (sho lg E (nI v) (nI p) y 3 0) 0 1000 ∧ ∀ a t, rwA lg E v p s x y = some (a, t) → rng a 0 40000 ∧ rng t 0 10000 ∧ a.toInt < (rwE lg E v p s x y).toInt
def thk (lg : Nat → Int32) (E v p s : Nat) (x y : Int32) : Int := thZ (rwE lg E v p s x y).toInt (rwT lg E v p s x y).toInt (oZ (rwA lg E v p s x y)) (sho lg E (nI v) (nI p) y 3 0).toInt x.toInt
theorem r_thickness {v p s : Nat} {x y : Int32} (h : RD G fs lg E td VS pt vl pp va pa wa nn) (hI : RI lg E VS pt vl pp va pa wa) (hL : fs.length = 32) (hv : v < VS) (hp : p < (psl lg E v).length) (hs : s < 12) (hB : rwB lg E v p s x y) (hx : rng x 0 40000) (k : ∀ r G' f, RD G' f lg E td VS pt vl pp va pa wa nn → SG G fs G' f → r.toInt = thk lg E v p s x y → Q (some (.int r)) G') : Cx (d + 4) mX11_thickness [.ref 364, .int (nI v), .int (nI p), .int (nI s), .int x, .int y] G Q := by
  have g0 := h.1.1
  unfold thk at k
  obtain ⟨b1, b2, b3, b4⟩ := hB
  refine Cx.body rfl rfl ?_
  (repeat (first | refine Ex.go rfl rfl ?_ | refine Ex.gf rfl rfl (by assumption) (by rfl) (by first | rfl | assumption) ?_))
  refine Ex.cv5 rfl rfl rfl (by assumption) (by rfl) (by decide) rfl ?_
  refine r_row h hI hL hv hp hs (fun G1 f R1 S1 g1 f20 f21 f24 fA => ?_)
  have fin : ∀ (up down : Int64) (U D : Int), up.toInt = U → down.toInt = D → 0 ≤ U ∧ U ≤ 10000 → 1 ≤ D ∧ D ≤ 40000 → (∀ r, r.toInt = max 0 (((rwT lg E v p s x y).toInt * D - U * (x.toInt - (rwE lg E v p s x y).toInt)) / D) → Q (some (.int r)) G1) → Ex (d + 4) mX11_thickness (89, [(0, .ref 364), (1, .int (nI v)), (2, .int (nI p)), (3, .int (nI s)), (4, .int x), (5, .int y), (6, .long up), (8, .long down)], [], G1) Q := by
    intro up down U D hU hD bU bD k
    have hm1 := z_pb b2.1 b2.2 (show 0 ≤ D by omega) bD.2
    have hm2 : -400000000 ≤ U * (x.toInt - (rwE lg E v p s x y).toInt) ∧ U * (x.toInt - (rwE lg E v p s x y).toInt) ≤ 400000000 := by
      by_cases hn : 0 ≤ x.toInt - (rwE lg E v p s x y).toInt
      · have := z_pb bU.1 bU.2 hn (show x.toInt - (rwE lg E v p s x y).toInt ≤ 40000 by have := hx.2; have := b1.1; omega)
        omega
      · have := z_pb bU.1 bU.2 (show 0 ≤ -(x.toInt - (rwE lg E v p s x y).toInt) by omega) (show -(x.toInt - (rwE lg E v p s x y).toInt) ≤ 40000 by have := hx.1; have := b1.2; omega)
        rw [Int.mul_neg] at this
        omega
    have hx1 : (x - rwE lg E v p s x y).toInt = x.toInt - (rwE lg E v p s x y).toInt := z_sub rfl rfl (by have := hx.1; have := hx.2; have := b1.1; have := b1.2; omega)
    have l1 : ((rwT lg E v p s x y).toInt64 * down).toInt = (rwT lg E v p s x y).toInt * D := l_mul (l_of rfl) hD (by omega)
    have l2 : (up * (x - rwE lg E v p s x y).toInt64).toInt = U * (x.toInt - (rwE lg E v p s x y).toInt) := l_mul hU (l_of hx1) (by omega)
    have l3 := l_sub l1 l2 (by omega)
    (repeat (first | refine Ex.go rfl rfl ?_ | refine Ex.gf rfl rfl (by assumption) (by rfl) (by first | rfl | assumption) ?_))
    refine Ex.cs2 rfl rfl rfl rfl rfl rfl ?_
    refine j_floorDiv l3 hD (by omega) (by omega) (fun q hq => ?_)
    have h0 : (0 : Int64).toInt = 0 := rfl
    generalize hN : (rwT lg E v p s x y).toInt * D - U * (x.toInt - (rwE lg E v p s x y).toInt) = N at *
    have hN2 : -800000000 ≤ N ∧ N ≤ 800000000 := by omega
    have hq2 : -800000001 ≤ N / D ∧ N / D ≤ 800000000 := by
      have hm := Int.mul_ediv_add_emod N D
      have hm0 := Int.emod_nonneg N (show D ≠ 0 by omega)
      have hm1 := Int.emod_lt_of_pos N (show 0 < D by omega)
      constructor
      · exact Int.le_ediv_of_mul_le (by omega) (by have : -800000001 * D ≤ -800000001 * 1 := Int.mul_le_mul_of_nonpos_left (by omega) (by omega); omega)
      · exact Int.ediv_le_of_le_mul (by omega) (by have : 800000000 * 1 ≤ 800000000 * D := Int.mul_le_mul_of_nonneg_left (by omega) (by omega); omega)
    (repeat (first | refine Ex.go rfl rfl ?_ | refine Ex.gf rfl rfl (by assumption) (by rfl) (by first | rfl | assumption) ?_))
    refine Ex.br (fun hc => ?_) (fun hc => ?_)
    · have hc1 := lcmp_ge hc
      have hc2 : 0 ≤ N / D := by
        have e0 : (Int64.ofNat ((0 : Fin 2).val)).toInt = 0 := rfl
        rw [hq] at hc1
        exact hc1
      (repeat (first | refine Ex.go rfl rfl ?_ | refine Ex.gf rfl rfl (by assumption) (by rfl) (by first | rfl | assumption) ?_))
      refine Ex.ret rfl rfl rfl ?_
      refine k _ ?_
      rw [l_to hq (by omega)]
      omega
    · have hc1 := lcmp_nge hc
      have hc2 : N / D < 0 := by
        rw [hq] at hc1
        exact hc1
      (repeat (first | refine Ex.go rfl rfl ?_ | refine Ex.gf rfl rfl (by assumption) (by rfl) (by first | rfl | assumption) ?_))
      refine Ex.ret rfl rfl rfl ?_
      refine k _ ?_
      rw [show (Int32.ofInt 0).toInt = 0 from rfl]
      omega
  replace k := fun r e => k r G1 f R1 S1 e
  (repeat (first | refine Ex.go rfl rfl ?_ | refine Ex.gf rfl rfl (by assumption) (by rfl) (by first | rfl | assumption) ?_))
  refine Ex.cv3 rfl rfl rfl g1 (by rfl) (by decide) rfl ?_
  refine r_wear R1 ?_
  cases ho : rwA lg E v p s x y with
  | none =>
    rw [ho] at f24 k
    replace f24 : f[24]? = some (.int 0) := f24
    (repeat (first | exact fin _ _ _ 365 (l_of rfl) rfl ⟨b3.1, by have := b3.2; omega⟩ (by omega) k | refine Ex.go rfl rfl ?_ | refine Ex.gf rfl rfl (by assumption) (by rfl) (by first | rfl | assumption) ?_))
  | some q =>
    obtain ⟨a, t⟩ := q
    obtain ⟨f22, f23⟩ := fA a t ho
    obtain ⟨b5, b6, b7⟩ := b4 a t ho
    rw [ho] at f24 k
    replace f24 : f[24]? = some (.int 1) := f24
    have hd1 : (t - rwT lg E v p s x y).toInt = t.toInt - (rwT lg E v p s x y).toInt := z_sub rfl rfl (by have := b6.1; have := b6.2; have := b2.1; have := b2.2; omega)
    have hd2 : (rwE lg E v p s x y - a).toInt = (rwE lg E v p s x y).toInt - a.toInt := z_sub rfl rfl (by have := b5.1; have := b5.2; have := b1.1; have := b1.2; omega)
    have hd3 := z_pb b3.1 b3.2 (show 0 ≤ (rwE lg E v p s x y).toInt - a.toInt by omega) (show (rwE lg E v p s x y).toInt - a.toInt ≤ 40000 by have := b1.2; have := b5.1; omega)
    have l1 : ((t - rwT lg E v p s x y).toInt64 * 365).toInt = (t.toInt - (rwT lg E v p s x y).toInt) * 365 := l_mul (l_of hd1) rfl (by have := b6.1; have := b6.2; have := b2.1; have := b2.2; omega)
    have l2 : ((sho lg E (nI v) (nI p) y 3 0).toInt64 * (rwE lg E v p s x y - a).toInt64).toInt = (sho lg E (nI v) (nI p) y 3 0).toInt * ((rwE lg E v p s x y).toInt - a.toInt) := l_mul (l_of rfl) (l_of hd2) (by omega)
    (repeat (first | refine Ex.go rfl rfl ?_ | refine Ex.gf rfl rfl (by assumption) (by rfl) (by first | rfl | assumption) ?_))
    refine Ex.br (fun hc => ?_) (fun hc => ?_)
    · have hc1 := lcmp_le hc
      rw [l1, l2] at hc1
      have e1 : ¬ (sho lg E (nI v) (nI p) y 3 0).toInt * ((rwE lg E v p s x y).toInt - a.toInt) < (t.toInt - (rwT lg E v p s x y).toInt) * 365 := by omega
      have k2 : ∀ r : Int32, r.toInt = max 0 (((rwT lg E v p s x y).toInt * 365 - (sho lg E (nI v) (nI p) y 3 0).toInt * (x.toInt - (rwE lg E v p s x y).toInt)) / 365) → Q (some (.int r)) G1 := fun r hr => k r (hr.trans (if_neg e1).symm)
      (repeat (first | exact fin _ _ _ 365 (l_of rfl) rfl ⟨b3.1, by have := b3.2; omega⟩ (by omega) k2 | refine Ex.go rfl rfl ?_ | refine Ex.gf rfl rfl (by assumption) (by rfl) (by first | rfl | assumption) ?_))
    · have hc1 := lcmp_nle hc
      rw [l1, l2] at hc1
      have k2 : ∀ r : Int32, r.toInt = max 0 (((rwT lg E v p s x y).toInt * ((rwE lg E v p s x y).toInt - a.toInt) - (t.toInt - (rwT lg E v p s x y).toInt) * (x.toInt - (rwE lg E v p s x y).toInt)) / ((rwE lg E v p s x y).toInt - a.toInt)) → Q (some (.int r)) G1 := fun r hr => k r (hr.trans (if_pos hc1).symm)
      have hpos : 0 ≤ t.toInt - (rwT lg E v p s x y).toInt := by omega
      (repeat (first | exact fin _ _ _ _ (l_of hd1) (l_of hd2) ⟨hpos, by have := b6.2; have := b2.1; omega⟩ ⟨by omega, by have := b1.2; have := b5.1; omega⟩ k2 | refine Ex.go rfl rfl ?_ | refine Ex.gf rfl rfl (by assumption) (by rfl) (by first | rfl | assumption) ?_))
end RR

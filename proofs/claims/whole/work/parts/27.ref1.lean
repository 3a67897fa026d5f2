/-! The reference's small readers. -/
theorem bo_b_congr {P R : Prop} [Decidable P] [Decidable R] (h : P ↔ R) : bo_b P = bo_b R := by
  by_cases hp : P
  · rw [bo_b_t hp, bo_b_t (h.mp hp)]
  · rw [bo_b_f hp, bo_b_f (fun z => hp (h.mpr z))]
theorem lcmp_lt {x y : Int64} (h : lg_cmp x y < 0) : x.toInt < y.toInt := Int64.lt_iff_toInt_lt.mp ((lg_cmp_lt x y).mp h)
theorem lcmp_nlt {x y : Int64} (h : ¬ lg_cmp x y < 0) : y.toInt ≤ x.toInt := by
  exact Int.not_lt.mp fun z => h ((lg_cmp_lt x y).mpr (Int64.lt_iff_toInt_lt.mpr z))
theorem lcmp_gt {x y : Int64} (h : 0 < lg_cmp x y) : y.toInt < x.toInt := Int64.lt_iff_toInt_lt.mp ((lg_cmp_gt x y).mp h)
theorem lcmp_ngt {x y : Int64} (h : ¬ 0 < lg_cmp x y) : x.toInt ≤ y.toInt := by
  exact Int.not_lt.mp fun z => h ((lg_cmp_gt x y).mpr (Int64.lt_iff_toInt_lt.mpr z))
theorem lcmp_le {x y : Int64} (h : lg_cmp x y ≤ 0) : x.toInt ≤ y.toInt := Int64.le_iff_toInt_le.mp ((lg_cmp_le x y).mp h)
theorem lcmp_nle {x y : Int64} (h : ¬ lg_cmp x y ≤ 0) : y.toInt < x.toInt := by
  exact Int.not_le.mp fun z => h ((lg_cmp_le x y).mpr (Int64.le_iff_toInt_le.mpr z))
theorem lcmp_ge {x y : Int64} (h : 0 ≤ lg_cmp x y) : y.toInt ≤ x.toInt := Int64.le_iff_toInt_le.mp ((lg_cmp_ge x y).mp h)
theorem lcmp_nge {x y : Int64} (h : ¬ 0 ≤ lg_cmp x y) : x.toInt < y.toInt := by
  exact Int.not_le.mp fun z => h ((lg_cmp_ge x y).mpr (Int64.le_iff_toInt_le.mpr z))
theorem Ex.ialN {d : Nat} {m : bo_M} {pc : Nat} {lv : bo_LV} {G : bo_G} {Q : Option Value → bo_G → Prop} {a nx tg kp n j : Nat} {i : Int32} {f : Nat → Int32} {r : List Value} (he : bo_cd m pc = some (.iaload, nx, tg, kp)) (hj : i = nI j) (hG : G[a]? = some (cI n f)) (hi : j < n) (hn : n < 2 ^ 31) (k1 : Ex d m (nx, lv, .int (f j) :: r, G) Q) : Ex d m (pc, lv, .int i :: .ref a :: r, G) Q := by
  subst hj
  have e : (nI j).toNatClampNeg = j := nI_clamp (by omega)
  refine Ex.ial he hG ⟨nI_pos' (by omega), by rw [e]; exact hi⟩ ?_
  rw [e]
  exact k1
theorem Ex.cs3 {d : Nat} {m y : bo_M} {pc : Nat} {lv : bo_LV} {G : bo_G} {Q : Option Value → bo_G → Prop} {k nx tg kp : Nat} {x1 x2 x3 : Value} {r : List Value} (he : bo_cd m pc = some (.invokestatic k, nx, tg, kp)) (h0 : bo_step m pc (.invokestatic k, nx, tg, kp) lv (x3 :: x2 :: x1 :: r) G = none) (h1 : bo_ret m (.invokestatic k) (x3 :: x2 :: x1 :: r) = none) (h2 : bo_nat m (.invokestatic k) (x3 :: x2 :: x1 :: r) = none) (h3 : bo_cal m (.invokestatic k) (x3 :: x2 :: x1 :: r) G = some (y, [x1, x2, x3], r)) (hc : bo_cat r = true) (k1 : Cx d y [x1, x2, x3] G (fun v G' => Ex (d + 1) m (nx, lv, v.toList ++ r, G') Q)) : Ex (d + 1) m (pc, lv, x3 :: x2 :: x1 :: r, G) Q := Ex.cs he h0 h1 h2 h3 hc k1
theorem Ex.cs2 {d : Nat} {m y : bo_M} {pc : Nat} {lv : bo_LV} {G : bo_G} {Q : Option Value → bo_G → Prop} {k nx tg kp : Nat} {x1 x2 : Value} {r : List Value} (he : bo_cd m pc = some (.invokestatic k, nx, tg, kp)) (h0 : bo_step m pc (.invokestatic k, nx, tg, kp) lv (x2 :: x1 :: r) G = none) (h1 : bo_ret m (.invokestatic k) (x2 :: x1 :: r) = none) (h2 : bo_nat m (.invokestatic k) (x2 :: x1 :: r) = none) (h3 : bo_cal m (.invokestatic k) (x2 :: x1 :: r) G = some (y, [x1, x2], r)) (hc : bo_cat r = true) (k1 : Cx d y [x1, x2] G (fun v G' => Ex (d + 1) m (nx, lv, v.toList ++ r, G') Q)) : Ex (d + 1) m (pc, lv, x2 :: x1 :: r, G) Q := Ex.cs he h0 h1 h2 h3 hc k1
theorem r_in {d : Nat} {G : bo_G} {a b c : Int64} {Q : Option Value → bo_G → Prop} (k : Q (some (.int (bo_b (b.toInt ≤ a.toInt ∧ a.toInt ≤ c.toInt)))) G) : Cx d mX11_in [.long a, .long b, .long c] G Q := by
  refine Cx.body rfl rfl ?_
  (repeat (first | refine Ex.go rfl rfl ?_ | refine Ex.gf rfl rfl (by assumption) (by rfl) (by first | rfl | assumption) ?_))
  refine Ex.br (fun hb => ?_) (fun hb => ?_)
  · rw [bo_b_f (fun z => by have := lcmp_lt hb; omega)] at k
    (repeat (first | refine Ex.go rfl rfl ?_ | refine Ex.gf rfl rfl (by assumption) (by rfl) (by first | rfl | assumption) ?_))
    exact Ex.retz rfl rfl rfl (Or.inl rfl) k
  · have h1 := lcmp_nlt hb
    (repeat (first | refine Ex.go rfl rfl ?_ | refine Ex.gf rfl rfl (by assumption) (by rfl) (by first | rfl | assumption) ?_))
    refine Ex.br (fun hb => ?_) (fun hb => ?_)
    · rw [bo_b_f (fun z => by have := lcmp_gt hb; omega)] at k
      (repeat (first | refine Ex.go rfl rfl ?_ | refine Ex.gf rfl rfl (by assumption) (by rfl) (by first | rfl | assumption) ?_))
      exact Ex.retz rfl rfl rfl (Or.inl rfl) k
    · rw [bo_b_t ⟨h1, lcmp_ngt hb⟩] at k
      (repeat (first | refine Ex.go rfl rfl ?_ | refine Ex.gf rfl rfl (by assumption) (by rfl) (by first | rfl | assumption) ?_))
      exact Ex.retz rfl rfl rfl (Or.inr rfl) k
/-- what the reference's cells hold: its fields, its rows -/
def RD (G : bo_G) (fs : List Value) (lg : Nat → Int32) (E : Nat) (td : Int32) (VS : Nat) (pt vl pp va pa wa nn : Nat → Int32) : Prop :=
  (G[364]? = some (cO 11 fs) ∧ fs[0]? = some (.ref 365) ∧ fs[2]? = some (.int (nI E)) ∧ fs[4]? = some (.int td) ∧ fs[7]? = some (.int (nI VS)) ∧ fs[9]? = some (.ref 367) ∧ fs[10]? = some (.ref 368) ∧ fs[11]? = some (.ref 369) ∧ fs[12]? = some (.ref 370) ∧ fs[13]? = some (.ref 371) ∧ fs[14]? = some (.ref 372) ∧ fs[16]? = some (.ref 373)) ∧
  (G[365]? = some (cI 108000 lg) ∧ G[367]? = some (cI 30 pt) ∧ G[368]? = some (cI 30 vl) ∧ G[369]? = some (cI 30 pp) ∧ G[370]? = some (cI 30 va) ∧ G[371]? = some (cI 720 pa) ∧ G[372]? = some (cI 180 wa) ∧ G[373]? = some (cI 15 nn)) ∧ E ≤ 6000 ∧ VS ≤ 30
section RR
variable {d : Nat} {G : bo_G} {Q : Option Value → bo_G → Prop} {fs : List Value} {lg : Nat → Int32} {E : Nat} {td : Int32} {VS : Nat} {pt vl pp va pa wa nn : Nat → Int32}
theorem r_code {i : Nat} (h : RD G fs lg E td VS pt vl pp va pa wa nn) (hi : i < 6000) (k : Q (some (.int (lg (18 * i)))) G) : Cx d mX11_code [.ref 364, .int (nI i)] G Q := by
  obtain ⟨⟨g0, g1, -⟩, ⟨h0, -⟩, -⟩ := h
  refine Cx.body rfl rfl ?_
  (repeat (first | refine Ex.go rfl rfl ?_ | refine Ex.gf rfl rfl (by assumption) (by rfl) (by first | rfl | assumption) ?_))
  refine Ex.ialN rfl (pk_mul 18 i) (by assumption) (by omega) (by omega) ?_
  refine Ex.ret rfl rfl rfl ?_
  exact k
theorem r_entered {i : Nat} (h : RD G fs lg E td VS pt vl pp va pa wa nn) (hi : i < 6000) (k : Q (some (.int (lg (18 * i + 1)))) G) : Cx d mX11_entered [.ref 364, .int (nI i)] G Q := by
  obtain ⟨⟨g0, g1, -⟩, ⟨h0, -⟩, -⟩ := h
  refine Cx.body rfl rfl ?_
  (repeat (first | refine Ex.go rfl rfl ?_ | refine Ex.gf rfl rfl (by assumption) (by rfl) (by first | rfl | assumption) ?_))
  refine Ex.ialN rfl (show nI 18 * nI i + nI 1 = nI (18 * i + 1) by rw [pk_mul, nI_add]) (by assumption) (by omega) (by omega) ?_
  refine Ex.ret rfl rfl rfl ?_
  exact k
theorem r_day {i : Nat} (h : RD G fs lg E td VS pt vl pp va pa wa nn) (hi : i < 6000) (k : Q (some (.int (lg (18 * i + 2)))) G) : Cx d mX11_day [.ref 364, .int (nI i)] G Q := by
  obtain ⟨⟨g0, g1, -⟩, ⟨h0, -⟩, -⟩ := h
  refine Cx.body rfl rfl ?_
  (repeat (first | refine Ex.go rfl rfl ?_ | refine Ex.gf rfl rfl (by assumption) (by rfl) (by first | rfl | assumption) ?_))
  refine Ex.ialN rfl (show nI 18 * nI i + nI 2 = nI (18 * i + 2) by rw [pk_mul, nI_add]) (by assumption) (by omega) (by omega) ?_
  refine Ex.ret rfl rfl rfl ?_
  exact k
theorem r_number {i j : Nat} (h : RD G fs lg E td VS pt vl pp va pa wa nn) (hi : i < 6000) (hj : j < 15) (k : Q (some (.int (lg (18 * i + 3 + j)))) G) : Cx d mX11_number [.ref 364, .int (nI i), .int (nI j)] G Q := by
  obtain ⟨⟨g0, g1, -⟩, ⟨h0, -⟩, -⟩ := h
  refine Cx.body rfl rfl ?_
  (repeat (first | refine Ex.go rfl rfl ?_ | refine Ex.gf rfl rfl (by assumption) (by rfl) (by first | rfl | assumption) ?_))
  refine Ex.ialN rfl (show nI 18 * nI i + nI 3 + nI j = nI (18 * i + 3 + j) by rw [pk_mul, nI_add, nI_add]) (by assumption) (by omega) (by omega) ?_
  refine Ex.ret rfl rfl rfl ?_
  exact k
theorem r_built {v a : Nat} (h : RD G fs lg E td VS pt vl pp va pa wa nn) (hv : v < 30) (ha : va v = nI a) (ha2 : a < 6000) (k : Q (some (.int (lg (18 * a + 2)))) G) : Cx (d + 1) mX11_built [.ref 364, .int (nI v)] G Q := by
  have h' := h
  obtain ⟨⟨g0, g1, g2, g3, g4, g5, g6, g7, g8, -⟩, ⟨h0, h1, h2, h3, h4, -⟩, -⟩ := h
  refine Cx.body rfl rfl ?_
  (repeat (first | refine Ex.go rfl rfl ?_ | refine Ex.gf rfl rfl (by assumption) (by rfl) (by first | rfl | assumption) ?_))
  refine Ex.ialN rfl (j := v) rfl (by assumption) (by omega) (by omega) ?_
  rw [ha]
  refine Ex.cv1 rfl rfl rfl g0 rfl (by decide) rfl ?_
  refine r_day h' ha2 ?_
  (repeat (first | refine Ex.go rfl rfl ?_ | refine Ex.gf rfl rfl (by assumption) (by rfl) (by first | rfl | assumption) ?_))
  refine Ex.ret rfl rfl rfl ?_
  exact k
theorem r_isVessel {v : Int32} (h : RD G fs lg E td VS pt vl pp va pa wa nn) (k : Q (some (.int (bo_b (0 ≤ v.toInt ∧ v.toInt < VS)))) G) : Cx (d + 1) mX11_isVessel [.ref 364, .int v] G Q := by
  have h' := h
  obtain ⟨⟨g0, g1, g2, g3, g4, -⟩, -, hE, hV⟩ := h
  refine Cx.body rfl rfl ?_
  (repeat (first | refine Ex.go rfl rfl ?_ | refine Ex.gf rfl rfl (by assumption) (by rfl) (by first | rfl | assumption) ?_))
  refine Ex.cs3 rfl rfl rfl rfl rfl rfl ?_
  refine r_in ?_
  (repeat (first | refine Ex.go rfl rfl ?_ | refine Ex.gf rfl rfl (by assumption) (by rfl) (by first | rfl | assumption) ?_))
  refine Ex.retz rfl rfl rfl (bo_b_01 _) ?_
  rw [bo_b_congr (R := 0 ≤ v.toInt ∧ v.toInt < VS) ?_]
  · exact k
  · have e1 : (nI VS).toInt = (VS : Int) := nI_toInt (by omega)
    have e2 : (nI VS - 1).toInt = (VS : Int) - 1 := z_sub e1 rfl (by omega)
    rw [Int32.toInt_toInt64]
    have e3 : (Int32.toInt64 (nI VS - Int32.ofInt 1)).toInt = (VS : Int) - 1 := by rw [Int32.toInt_toInt64]; exact e2
    rw [e3]
    have e4 : (Int64.ofNat ((0 : Fin 2).val)).toInt = 0 := rfl
    constructor
    · intro z; exact ⟨by have := z.1; rw [e4] at this; exact this, by omega⟩
    · intro z; exact ⟨by rw [e4]; exact z.1, by omega⟩
end RR

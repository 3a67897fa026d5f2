/-! The class's sheet: tenths. -/
section CS1
variable {d q : Nat} {G G1 : bo_G} {Q : Option Value → bo_G → Prop} {es : List Int32} {sh : Int32}
theorem hw_nan {b : Int32} (k : Q (some (.int (bo_b (¬ b &&& 2147483647 ≤ 2139095040)))) G) : Cx d mX5_isNoNumber [.int b] G Q := by
  refine Cx.body rfl rfl ?_
  (repeat (first | refine Ex.go rfl rfl ?_ | refine Ex.gf rfl rfl (by assumption) (by rfl) (by first | rfl | assumption) ?_))
  refine Ex.br (fun c1 => ?_) (fun c1 => ?_)
  · rw [bo_b_f (fun z => z c1)] at k
    (repeat (first | refine Ex.go rfl rfl ?_ | refine Ex.gf rfl rfl (by assumption) (by rfl) (by first | rfl | assumption) ?_))
    exact Ex.retz rfl rfl rfl (Or.inl rfl) k
  rw [bo_b_t (show ¬ b &&& 2147483647 ≤ 2139095040 from c1)] at k
  (repeat (first | refine Ex.go rfl rfl ?_ | refine Ex.gf rfl rfl (by assumption) (by rfl) (by first | rfl | assumption) ?_))
  exact Ex.retz rfl rfl rfl (Or.inr rfl) k
theorem b_exp (b : Int32) : (b.toUInt32 >>> ((Int32.ofInt 23).toUInt32 &&& Int32.toUInt32 31)).toInt32 &&& Int32.ofInt 255 = nI (b.toUInt32.toNat / 8388608 % 256) := by
  have hb := b.toUInt32.toNat_lt
  have e : ((b.toUInt32 >>> 23).toInt32 &&& 255).toBitVec.toNat = b.toUInt32.toNat / 8388608 % 256 := by
    rw [Int32.toBitVec_and, BitVec.toNat_and]
    have h1 : (b.toUInt32 >>> 23).toInt32.toBitVec.toNat = b.toUInt32.toNat / 8388608 := by
      show (b.toUInt32 >>> 23).toNat = _
      rw [UInt32.toNat_shiftRight]
      exact Nat.shiftRight_eq_div_pow _ 23
    rw [h1]
    exact Nat.and_two_pow_sub_one_eq_mod _ 8
  have h3 : b.toUInt32.toNat / 8388608 % 256 < 256 := Nat.mod_lt _ (by omega)
  refine Int32.toBitVec_inj.mp (BitVec.eq_of_toNat_eq (e.trans ?_))
  show _ = (BitVec.ofNat 32 _).toNat
  rw [BitVec.toNat_ofNat]
  exact (Nat.mod_eq_of_lt (show b.toUInt32.toNat / 8388608 % 256 < 2 ^ 32 by omega)).symm
theorem b_dig (b : Int32) : b &&& 8388607 ||| 8388608 = nI (8388608 + b.toUInt32.toNat % 8388608) := by
  have h3 : b.toUInt32.toNat % 8388608 < 8388608 := Nat.mod_lt _ (by omega)
  have e : (b &&& 8388607 ||| 8388608).toBitVec.toNat = 8388608 + b.toUInt32.toNat % 8388608 := by
    rw [Int32.toBitVec_or, BitVec.toNat_or, Int32.toBitVec_and, BitVec.toNat_and]
    have h1 : b.toBitVec.toNat &&& (8388607 : Int32).toBitVec.toNat = b.toUInt32.toNat % 8388608 := Nat.and_two_pow_sub_one_eq_mod _ 23
    rw [h1, Nat.or_comm]
    exact (Nat.two_pow_add_eq_or_of_lt (i := 23) h3 1).symm
  refine Int32.toBitVec_inj.mp (BitVec.eq_of_toNat_eq (e.trans ?_))
  show _ = (BitVec.ofNat 32 _).toNat
  rw [BitVec.toNat_ofNat]
  exact (Nat.mod_eq_of_lt (show 8388608 + b.toUInt32.toNat % 8388608 < 2 ^ 32 by omega)).symm
theorem b_sign (b : Int32) : FP.Core.fieldS FP.Core.b32 b.toUInt32.toNat = decide (b < 0) := by
  have hb := b.toUInt32.toNat_lt
  have h1 : FP.Core.fieldS FP.Core.b32 b.toUInt32.toNat = (b.toUInt32.toNat / 8388608 / 256 % 2 == 1) := rfl
  have h2 : b.toInt = if 2 * b.toUInt32.toNat < 2 ^ 32 then (b.toUInt32.toNat : Int) else (b.toUInt32.toNat : Int) - ((2 ^ 32 : Nat) : Int) := BitVec.toInt_eq_toNat_cond _
  rw [h1, Bool.eq_iff_iff, beq_iff_eq, decide_eq_true_iff, Int32.lt_iff_toInt_lt, h2, show (0 : Int32).toInt = 0 from rfl]
  split <;> omega
theorem i_shr {x y : Int32} {j : Nat} (hy : (y.toBitVec.smod 32).toNat = j) (h0 : 0 ≤ x.toInt) : (x >>> y).toInt = x.toInt / 2 ^ j := by
  show (x >>> y).toBitVec.toInt = _
  rw [Int32.toBitVec_shiftRight]
  show (x.toBitVec.sshiftRight (y.toBitVec.smod 32).toNat).toInt = _
  rw [hy, BitVec.toInt_sshiftRight]
  exact Int.shiftRight_eq_div_pow _ _
theorem fl_i2f {m : Nat} (h1 : 8388608 ≤ m) (h2 : m < 16777216) : FP.Core.val32 (FP.i2f (nI m)) = .fin false m 0 := by
  have e := FP.Core.val32_i2f (nI m)
  rw [nI_toInt (by omega)] at e
  have e2 : FP.Core.ofInt (m : Int) = .fin false m 0 := by
    unfold FP.Core.ofInt
    rw [decide_eq_false (by omega)]
    rfl
  rw [e2, FP.Core.round_of_fits FP.Core.good_b32] at e
  · exact e
  · exact ⟨by rw [fl_p]; omega, by rw [fl_qmin]; omega, by rw [fl_qmax]; omega, Or.inr (by rw [fl_tails]; omega)⟩
theorem hw_float {b : Int32} (hn : isNum b) (k : ∀ r : Int32, (r = FP.f2i (FP.fmul 0x41200000 b.toUInt32) ∨ r = -2 ∧ ¬ (0 ≤ (FP.f2i (FP.fmul 0x41200000 b.toUInt32)).toInt ∧ (FP.f2i (FP.fmul 0x41200000 b.toUInt32)).toInt ≤ 10000)) → Q (some (.int r)) G) : Cx d mX5_tenthsOfFloat [.int b] G Q := by
  have hf := fl_ten (b := b.toUInt32) (fun z => by unfold isNum at hn; omega)
  obtain ⟨f1, f2, f3⟩ := hf
  have hE : b.toUInt32.toNat / 8388608 % 256 < 256 := Nat.mod_lt _ (by omega)
  have hT : b.toUInt32.toNat % 8388608 < 8388608 := Nat.mod_lt _ (by omega)
  have bx := b_exp b
  have bd := b_dig b
  have bs := b_sign b
  obtain ⟨g1, g2⟩ := fl_digits (m := 8388608 + b.toUInt32.toNat % 8388608) (by omega) (by omega)
  generalize hEE : b.toUInt32.toNat / 8388608 % 256 = E at *
  generalize hMM : 8388608 + b.toUInt32.toNat % 8388608 = m at *
  generalize FP.f2i (FP.fmul 0x41200000 b.toUInt32) = F at *
  have fin : ∀ (x y : Int32), 121 ≤ E → E ≤ 137 → x.toInt = ((flN m * 2 ^ (3 + flJ m) : Nat) : Int) → (y.toBitVec.smod 32).toNat = 150 - E → (¬ b < 0 → Q (some (.int (x >>> y))) G) ∧ (b < 0 → Q (some (.int (-(x >>> y)))) G) := by
    intro x y l1 l2 hx hy
    have f3 := f3 l1 l2
    have hs := i_shr hy (by rw [hx]; omega)
    rw [hx] at hs
    have hs2 : (x >>> y).toInt = ((flN m * 2 ^ (3 + flJ m) / 2 ^ (150 - E) : Nat) : Int) := by rw [hs]; simp
    have hle : flN m * 2 ^ (3 + flJ m) / 2 ^ (150 - E) ≤ flN m * 2 ^ (3 + flJ m) := Nat.div_le_self _ _
    rw [bs] at f3
    unfold FP.Core.signed at f3
    refine ⟨fun z => k _ (Or.inl (Int32.toInt_inj.mp ?_)), fun z => k _ (Or.inl (Int32.toInt_inj.mp ?_))⟩
    · rw [decide_eq_false z] at f3
      exact hs2.trans f3.symm
    · rw [decide_eq_true z] at f3
      have f4 : F.toInt = -((flN m * 2 ^ (3 + flJ m) / 2 ^ (150 - E) : Nat) : Int) := f3
      generalize flN m * 2 ^ (3 + flJ m) / 2 ^ (150 - E) = w at hs2 hle f4
      rw [f4, Int32.toInt_neg, hs2]
      exact Int.bmod_eq_of_le (by omega) (by omega)
  have sm : ∀ E : Nat, 121 ≤ E → E ≤ 137 → (((Int32.ofInt 150 - nI E) &&& 31).toBitVec.smod 32).toNat = 150 - E := by
    intro E h1 h2
    have : E = 121 ∨ E = 122 ∨ E = 123 ∨ E = 124 ∨ E = 125 ∨ E = 126 ∨ E = 127 ∨ E = 128 ∨ E = 129 ∨ E = 130 ∨ E = 131 ∨ E = 132 ∨ E = 133 ∨ E = 134 ∨ E = 135 ∨ E = 136 ∨ E = 137 := by omega
    rcases this with h | h | h | h | h | h | h | h | h | h | h | h | h | h | h | h | h <;> (subst h; decide +kernel)
  have sm := sm E
  refine Cx.body rfl rfl ?_
  (repeat (first | refine Ex.go rfl rfl ?_ | refine Ex.gf rfl rfl (by assumption) (by rfl) (by first | rfl | assumption) ?_))
  refine Ex.br (fun c1 => ?_) (fun c1 => ?_); rotate_left
  · have c2 : ¬ nI 121 ≤ nI E := by rw [← bx]; exact c1
    rw [nI_leI (by omega) (by omega)] at c2
    have k := k 0 (Or.inl (Int32.toInt_inj.mp (f1 (by omega)).symm))
    (repeat (first | refine Ex.go rfl rfl ?_ | refine Ex.gf rfl rfl (by assumption) (by rfl) (by first | rfl | assumption) ?_))
    refine Ex.ret rfl rfl rfl ?_
    exact k
  have c2 : nI 121 ≤ nI E := by rw [← bx]; exact c1
  rw [nI_leI (by omega) (by omega)] at c2
  (repeat (first | refine Ex.go rfl rfl ?_ | refine Ex.gf rfl rfl (by assumption) (by rfl) (by first | rfl | assumption) ?_))
  refine Ex.br (fun c3 => ?_) (fun c3 => ?_); rotate_left
  · have c4 : ¬ nI E ≤ nI 137 := by rw [← bx]; exact c3
    rw [nI_leI (by omega) (by omega)] at c4
    have k := k (-2) (Or.inr ⟨rfl, f2 (by omega)⟩)
    (repeat (first | refine Ex.go rfl rfl ?_ | refine Ex.gf rfl rfl (by assumption) (by rfl) (by first | rfl | assumption) ?_))
    refine Ex.ret rfl rfl rfl ?_
    exact k
  have c4 : nI E ≤ nI 137 := by rw [← bx]; exact c3
  rw [nI_leI (by omega) (by omega)] at c4
  (repeat (first | refine Ex.go rfl rfl ?_ | refine Ex.gf rfl rfl (by assumption) (by rfl) (by first | rfl | assumption) ?_))
  rw [bx, bd]
  show Ex d mX5_tenthsOfFloat (39, [(0, .int b), (1, .int (nI E)), (2, .int (nI m))], [.float (FP.i2f (nI m)), .float 0x41200000], G) Q
  refine Ex.fmm rfl (fl_nan ?_) ?_
  · rw [fl_i2f (by omega) (by omega)]
    intro z
    cases z
  have fin := fin (FP.f2i (FP.fmul 0x41200000 (FP.i2f (nI m)))) ((Int32.ofInt 150 - nI E) &&& 31) c2 c4 g1 (sm c2 c4)
  (repeat (first | refine Ex.go rfl rfl ?_ | refine Ex.gf rfl rfl (by assumption) (by rfl) (by first | rfl | assumption) ?_))
  refine Ex.br (fun b1 => ?_) (fun b1 => ?_)
  · have fin := fin.1 (Int32.not_lt.mpr b1)
    (repeat (first | refine Ex.go rfl rfl ?_ | refine Ex.gf rfl rfl (by assumption) (by rfl) (by first | rfl | assumption) ?_))
    refine Ex.ret rfl rfl rfl ?_
    exact fin
  · have fin := fin.2 (Int32.not_le.mp b1)
    (repeat (first | refine Ex.go rfl rfl ?_ | refine Ex.gf rfl rfl (by assumption) (by rfl) (by first | rfl | assumption) ?_))
    refine Ex.ret rfl rfl rfl ?_
    exact fin
/-- what the sheet tells of a spot: -1 none, -2 what no measure may tell -/
def tnV (sh b : Int32) : Int32 := if sh = 0 then b.toInt16.toInt32 else FP.f2i (FP.fmul 0x41200000 b.toUInt32)
def tnC (sh : Int32) (es : List Int32) (i : Int32) : Int32 := if ¬ ((0 ≤ i.toInt ∧ i.toInt < es.length) ∧ (sh = 0 ∨ bo_at es i &&& 2147483647 ≤ 2139095040)) then -1 else if rng (tnV sh (bo_at es i)) 0 10000 then tnV sh (bo_at es i) else -2
theorem hw_tenths {i : Int32} (h : HW G q sh es) (l : es.length ≤ 40) (k : Q (some (.int (tnC sh es i))) G) : Cx (d + 1) mX5_tenths [.ref q, .int i] G Q := by
  obtain ⟨a0, c, a1⟩ := id h
  have e40 : (nI es.length).toInt = es.length := nI_toInt (by omega)
  have no : ¬ ((0 ≤ i.toInt ∧ i.toInt < es.length) ∧ (sh = 0 ∨ bo_at es i &&& 2147483647 ≤ 2139095040)) → Q (some (.int (Int32.ofInt (-1)))) G := fun z => by
    rw [show tnC sh es i = -1 from if_pos z] at k
    exact k
  have last : ((0 ≤ i.toInt ∧ i.toInt < es.length) ∧ (sh = 0 ∨ bo_at es i &&& 2147483647 ≤ 2139095040)) → ∀ r : Int32, (r = tnV sh (bo_at es i) ∨ r = -2 ∧ ¬ (0 ≤ (tnV sh (bo_at es i)).toInt ∧ (tnV sh (bo_at es i)).toInt ≤ 10000)) → Ex (d + 1) mX5_tenths (59, [(0, .ref q), (1, .int i), (2, .int (bo_at es i)), (3, .int r)], [], G) Q := by
    intro z r hr
    rw [show tnC sh es i = _ from if_neg (fun y => y z)] at k
    (repeat (first | refine Ex.go rfl rfl ?_ | refine Ex.gf rfl rfl (by assumption) (by rfl) (by first | rfl | assumption) ?_))
    refine Ex.cs3 rfl rfl rfl rfl rfl rfl ?_
    refine c_withinP (lo := 0) (hi := 10000) rfl rfl (fun P1 d1 i1 => ?_)
    (repeat (first | refine Ex.go rfl rfl ?_ | refine Ex.gf rfl rfl (by assumption) (by rfl) (by first | rfl | assumption) ?_))
    first | (refine Ex.brz (fun c1 => ?_) (fun c1 => ?_); rotate_left) | (refine Ex.brn (fun c1 => ?_) (fun c1 => ?_); rotate_left)
    · have c2 : ¬ rng (tnV sh (bo_at es i)) 0 10000 := fun y => by
        rcases hr with hr | hr
        · exact c1 (i1.mpr (by rw [hr]; exact y))
        · exact hr.2 y
      rw [if_neg c2] at k
      (repeat (first | refine Ex.go rfl rfl ?_ | refine Ex.gf rfl rfl (by assumption) (by rfl) (by first | rfl | assumption) ?_))
      refine Ex.ret rfl rfl rfl ?_
      exact k
    · have c3 := i1.mp c1
      have c2 : r = tnV sh (bo_at es i) := hr.resolve_right fun y => by rw [y.1] at c3; exact absurd c3.1 (by decide)
      rw [if_pos (show rng (tnV sh (bo_at es i)) 0 10000 by rw [← c2]; exact c3), ← c2] at k
      (repeat (first | refine Ex.go rfl rfl ?_ | refine Ex.gf rfl rfl (by assumption) (by rfl) (by first | rfl | assumption) ?_))
      refine Ex.ret rfl rfl rfl ?_
      exact k
  refine Cx.body rfl rfl ?_
  (repeat (first | refine Ex.go rfl rfl ?_ | refine Ex.gf rfl rfl (by assumption) (by rfl) (by first | rfl | assumption) ?_))
  refine Ex.br (fun b1 => ?_) (fun b1 => ?_)
  · have no := no fun z => absurd b1 (Int32.not_lt.mpr (Int32.le_iff_toInt_le.mpr z.1.1))
    (repeat (first | refine Ex.go rfl rfl ?_ | refine Ex.gf rfl rfl (by assumption) (by rfl) (by first | rfl | assumption) ?_))
    refine Ex.ret rfl rfl rfl ?_
    exact no
  have b2 := Int32.le_iff_toInt_le.mp (Int32.not_lt.mp b1)
  (repeat (first | refine Ex.go rfl rfl ?_ | refine Ex.gf rfl rfl (by assumption) (by rfl) (by first | rfl | assumption) ?_))
  refine Ex.cv0 rfl rfl rfl a1 (by rfl) (by decide) rfl ?_
  refine s_size a1 ?_
  (repeat (first | refine Ex.go rfl rfl ?_ | refine Ex.gf rfl rfl (by assumption) (by rfl) (by first | rfl | assumption) ?_))
  refine Ex.br (fun b3 => ?_) (fun b3 => ?_); rotate_left
  · have no := no fun z => b3 (Int32.lt_iff_toInt_lt.mpr (show i.toInt < (nI es.length).toInt by rw [e40]; exact z.1.2))
    (repeat (first | refine Ex.go rfl rfl ?_ | refine Ex.gf rfl rfl (by assumption) (by rfl) (by first | rfl | assumption) ?_))
    refine Ex.ret rfl rfl rfl ?_
    exact no
  have b5 : i.toInt < (nI es.length).toInt := Int32.lt_iff_toInt_lt.mp b3
  rw [e40] at b5
  (repeat (first | refine Ex.go rfl rfl ?_ | refine Ex.gf rfl rfl (by assumption) (by rfl) (by first | rfl | assumption) ?_))
  refine Ex.cv1 rfl rfl rfl a1 (by rfl) (by decide) rfl ?_
  refine Cx.rat a1 ?_
  (repeat (first | refine Ex.go rfl rfl ?_ | refine Ex.gf rfl rfl (by assumption) (by rfl) (by first | rfl | assumption) ?_))
  by_cases hs : sh = 0
  · subst hs
    have last := last ⟨⟨b2, b5⟩, Or.inl rfl⟩ _ (Or.inl rfl)
    rw [show tnV 0 (bo_at es i) = (bo_at es i).toInt16.toInt32 from rfl] at last
    (repeat (first | exact last | refine Ex.go rfl rfl ?_ | refine Ex.gf rfl rfl (by assumption) (by rfl) (by first | rfl | assumption) ?_))
  refine Ex.br (fun c1 => ?_) (fun c1 => ?_)
  · exact absurd c1 hs
  (repeat (first | refine Ex.go rfl rfl ?_ | refine Ex.gf rfl rfl (by assumption) (by rfl) (by first | rfl | assumption) ?_))
  refine Ex.cs1 rfl rfl rfl rfl rfl rfl ?_
  refine hw_nan ?_
  (repeat (first | refine Ex.go rfl rfl ?_ | refine Ex.gf rfl rfl (by assumption) (by rfl) (by first | rfl | assumption) ?_))
  first | (refine Ex.brz (fun c2 => ?_) (fun c2 => ?_); rotate_left) | (refine Ex.brn (fun c2 => ?_) (fun c2 => ?_); rotate_left)
  · have c3 : bo_at es i &&& 2147483647 ≤ 2139095040 := Decidable.not_not.mp c2
    have last := last ⟨⟨b2, b5⟩, Or.inr c3⟩
    rw [show tnV sh (bo_at es i) = _ from if_neg hs] at last
    (repeat (first | refine Ex.go rfl rfl ?_ | refine Ex.gf rfl rfl (by assumption) (by rfl) (by first | rfl | assumption) ?_))
    refine Ex.br (fun c4 => ?_) (fun c4 => ?_); rotate_left
    · exact absurd (Decidable.not_not.mp c4) hs
    (repeat (first | refine Ex.go rfl rfl ?_ | refine Ex.gf rfl rfl (by assumption) (by rfl) (by first | rfl | assumption) ?_))
    refine Ex.cs1 rfl rfl rfl rfl rfl rfl ?_
    refine hw_float (isNum_iff.mp c3) (fun r hr => ?_)
    have last := last r hr
    (repeat (first | exact last | refine Ex.go rfl rfl ?_ | refine Ex.gf rfl rfl (by assumption) (by rfl) (by first | rfl | assumption) ?_))
  · have no := no fun z => z.2.elim hs c2
    (repeat (first | refine Ex.go rfl rfl ?_ | refine Ex.gf rfl rfl (by assumption) (by rfl) (by first | rfl | assumption) ?_))
    refine Ex.ret rfl rfl rfl ?_
    exact no
end CS1

/-! Ten times a float, as a float, cut. -/
section FL
set_option maxHeartbeats 400000 in
theorem fl_clamp (d : FP.Core.Datum) : -2147483648 ≤ FP.Core.toInt (-2 ^ 31) (2 ^ 31 - 1) d ∧ FP.Core.toInt (-2 ^ 31) (2 ^ 31 - 1) d ≤ 2147483647 := by
  cases d with
  | nan => exact show (-2147483648 : Int) ≤ 0 ∧ (0 : Int) ≤ 2147483647 by omega
  | inf s => cases s <;> exact ⟨by decide, by decide⟩
  | fin s c q =>
    show -2147483648 ≤ max (-2 ^ 31) (min (2 ^ 31 - 1) (FP.Core.truncate s c q)) ∧ max (-2 ^ 31) (min (2 ^ 31 - 1) (FP.Core.truncate s c q)) ≤ 2147483647
    omega
set_option maxHeartbeats 400000 in
theorem fl_f2i (a : UInt32) : (FP.f2i a).toInt = FP.Core.toInt (-2 ^ 31) (2 ^ 31 - 1) (FP.Core.val32 a) := by
  show (Int32.ofInt (FP.Core.toInt (-2 ^ 31) (2 ^ 31 - 1) (FP.Core.val32 a))).toInt = _
  have h := fl_clamp (FP.Core.val32 a)
  rw [Int32.toInt_ofInt]
  show Int.bmod _ 4294967296 = _
  exact Int.bmod_eq_of_le (by omega) (by omega)
set_option maxHeartbeats 400000 in
theorem fl_10 : FP.Core.val32 0x41200000 = .fin false 10485760 (-20) := by decide +kernel
set_option maxHeartbeats 400000 in
/-- ten times a number, rounded -/
theorem fl_prod (s : Bool) (c : Nat) (q : Int) : FP.Core.round FP.Core.b32 (FP.Core.exactProduct (.fin false 10485760 (-20)) (.fin s c q)) = FP.Core.roundRatio FP.Core.b32 s (10485760 * c) 1 (-20 + q) := by
  show FP.Core.roundRatio FP.Core.b32 (false != s) (10485760 * c) 1 (-20 + q) = _
  cases s <;> rfl
set_option maxHeartbeats 400000 in
theorem fl_round {s : Bool} {A : Nat} {e : Int} (hA : 0 < A) : FP.Core.roundRatio FP.Core.b32 s A 1 e = FP.Core.settle FP.Core.b32 s (FP.Core.nearest (FP.Core.unitsNum A e (FP.Core.quantum FP.Core.b32 A 1 e)) (FP.Core.unitsDen 1 e (FP.Core.quantum FP.Core.b32 A 1 e))) (FP.Core.quantum FP.Core.b32 A 1 e) := by
  unfold FP.Core.roundRatio
  rw [if_neg (by omega)]
  rfl
set_option maxHeartbeats 400000 in
theorem fl_qmin : FP.Core.b32.qmin = -149 := by decide
set_option maxHeartbeats 400000 in
theorem fl_qmax : FP.Core.b32.qmax = 104 := by decide
set_option maxHeartbeats 400000 in
theorem fl_p : FP.Core.b32.p = 24 := rfl
set_option maxHeartbeats 400000 in
theorem fl_tails : FP.Core.b32.tails = 8388608 := by decide
set_option maxHeartbeats 400000 in
/-- what a settled number is, cut; Q below 0 -/
theorem fl_cutneg {s : Bool} {N : Nat} {Q : Int} {k : Nat} (hN : N ≤ 16777216) (hQ : Q = -(k : Int)) (hk : 1 ≤ k) : FP.Core.toInt (-2 ^ 31) (2 ^ 31 - 1) (FP.Core.settle FP.Core.b32 s N Q) = FP.Core.signed s (N / 2 ^ k) := by
  have sg : ∀ m : Nat, m ≤ 16777216 → max (-2 ^ 31) (min (2 ^ 31 - 1) (FP.Core.signed s m)) = FP.Core.signed s m := by
    intro m hm
    cases s
    · show max (-2 ^ 31) (min (2 ^ 31 - 1) (m : Int)) = (m : Int); omega
    · show max (-2 ^ 31) (min (2 ^ 31 - 1) (-(m : Int))) = -(m : Int); omega
  unfold FP.Core.settle
  rw [fl_p]
  by_cases h : N < 2 ^ 24
  · rw [if_pos h]
    unfold FP.Core.bound
    rw [fl_qmax, if_pos (by omega)]
    show max (-2 ^ 31) (min (2 ^ 31 - 1) (FP.Core.signed s (N * 2 ^ Q.toNat / 2 ^ (-Q).toNat))) = _
    rw [show Q.toNat = 0 by omega, show (-Q).toNat = k by omega, Nat.pow_zero, Nat.mul_one]
    exact sg _ (Nat.le_trans (Nat.div_le_self _ _) hN)
  · have hN2 : N = 2 * 8388608 := by omega
    rw [if_neg h]
    unfold FP.Core.bound
    rw [fl_qmax, if_pos (by omega), fl_tails]
    show max (-2 ^ 31) (min (2 ^ 31 - 1) (FP.Core.signed s (8388608 * 2 ^ (Q + 1).toNat / 2 ^ (-(Q + 1)).toNat))) = _
    obtain ⟨k, rfl⟩ : ∃ j, k = j + 1 := ⟨k - 1, by omega⟩
    rw [show (Q + 1).toNat = 0 by omega, show (-(Q + 1)).toNat = k by omega, Nat.pow_zero, Nat.mul_one]
    rw [show N / 2 ^ (k + 1) = 8388608 / 2 ^ k by rw [hN2, Nat.pow_succ, Nat.mul_comm (2 ^ k) 2, Nat.mul_div_mul_left _ _ (by omega)]]
    exact sg _ (Nat.le_trans (Nat.div_le_self _ _) (by omega))
set_option maxHeartbeats 400000 in
theorem fl_cutpos {N k : Nat} (hN : N ≤ 16777216) (hk : k ≤ 4) : FP.Core.toInt (-2 ^ 31) (2 ^ 31 - 1) (FP.Core.settle FP.Core.b32 false N k) = ((N * 2 ^ k : Nat) : Int) := by
  have hk2 : 2 ^ k ≤ 2 ^ 4 := Nat.pow_le_pow_right (by omega) hk
  have hm : N * 2 ^ k ≤ 16777216 * 2 ^ 4 := Nat.mul_le_mul hN hk2
  unfold FP.Core.settle
  rw [fl_p]
  by_cases h : N < 2 ^ 24
  · rw [if_pos h]
    unfold FP.Core.bound
    rw [fl_qmax, if_pos (by omega)]
    show max (-2 ^ 31) (min (2 ^ 31 - 1) (((N * 2 ^ (k : Int).toNat / 2 ^ (-(k : Int)).toNat : Nat)) : Int)) = _
    rw [show (k : Int).toNat = k by omega, show (-(k : Int)).toNat = 0 by omega, Nat.pow_zero, Nat.div_one]
    omega
  · have hN2 : N = 8388608 * 2 := by omega
    rw [if_neg h]
    unfold FP.Core.bound
    rw [fl_qmax, if_pos (by omega), fl_tails]
    show max (-2 ^ 31) (min (2 ^ 31 - 1) (((8388608 * 2 ^ ((k : Int) + 1).toNat / 2 ^ (-((k : Int) + 1)).toNat : Nat)) : Int)) = _
    rw [show ((k : Int) + 1).toNat = k + 1 by omega, show (-((k : Int) + 1)).toNat = 0 by omega, Nat.pow_zero, Nat.div_one, Nat.pow_succ, Nat.mul_comm (2 ^ k) 2, ← Nat.mul_assoc, ← hN2]
    omega
set_option maxHeartbeats 400000 in
/-- where a product of ten with c of 24 digits is cut off -/
theorem fl_quant {c : Nat} {q : Int} (h1 : 8388608 ≤ c) (h2 : c < 16777216) (hq : -149 ≤ q) : FP.Core.quantum FP.Core.b32 (10485760 * c) 1 (-20 + q) = q + 3 + (if 10 * c < 134217728 then 0 else 1) := by
  refine FP.Core.quantum_eq (by omega) (by omega) ?_ ?_ (Or.inr ?_)
  · rw [fl_qmin]; split <;> omega
  · rw [fl_p]
    split
    · rw [show q + 3 + 0 - (-20 + q) + ((24 : Nat) : Int) = ((47 : Nat) : Int) - (0 : Nat) by omega, FP.Core.below_iff]; omega
    · rw [show q + 3 + 1 - (-20 + q) + ((24 : Nat) : Int) = ((48 : Nat) : Int) - (0 : Nat) by omega, FP.Core.below_iff]; omega
  · rw [fl_p]
    split
    · rw [show q + 3 + 0 - (-20 + q) + (((24 : Nat) : Int) - 1) = ((46 : Nat) : Int) - (0 : Nat) by omega, FP.Core.below_iff]; omega
    · rw [show q + 3 + 1 - (-20 + q) + (((24 : Nat) : Int) - 1) = ((47 : Nat) : Int) - (0 : Nat) by omega, FP.Core.below_iff]; omega
def flJ (c : Nat) : Nat := if 10 * c < 134217728 then 0 else 1
def flN (c : Nat) : Nat := FP.Core.nearest (10485760 * c) (2 ^ (23 + flJ c))
set_option maxHeartbeats 400000 in
theorem fl_rr {s : Bool} {c : Nat} {q : Int} (h1 : 8388608 ≤ c) (h2 : c < 16777216) (hq : -149 ≤ q) : FP.Core.roundRatio FP.Core.b32 s (10485760 * c) 1 (-20 + q) = FP.Core.settle FP.Core.b32 s (flN c) (q + 3 + flJ c) ∧ flN c ≤ 16777216 := by
  have hQ := fl_quant h1 h2 hq
  have hN := FP.Core.nearest_units_le (f := FP.Core.b32) (A := 10485760 * c) (B := 1) (by omega) (by omega) (-20 + q)
  have hr := fl_round (s := s) (A := 10485760 * c) (e := -20 + q) (by omega)
  rw [hQ] at hN hr
  have e1 : FP.Core.unitsNum (10485760 * c) (-20 + q) (q + 3 + (if 10 * c < 134217728 then 0 else 1)) = 10485760 * c := by
    unfold FP.Core.unitsNum
    rw [show (-20 + q - (q + 3 + (if 10 * c < 134217728 then 0 else 1))).toNat = 0 by split <;> omega, Nat.pow_zero, Nat.mul_one]
  have e2 : FP.Core.unitsDen 1 (-20 + q) (q + 3 + (if 10 * c < 134217728 then 0 else 1)) = 2 ^ (23 + flJ c) := by
    unfold FP.Core.unitsDen flJ
    rw [Nat.one_mul]
    congr 1
    split <;> omega
  rw [e1, e2] at hN hr
  have e3 : q + 3 + (if 10 * c < 134217728 then (0 : Int) else 1) = q + 3 + (flJ c : Int) := by
    unfold flJ; split <;> omega
  rw [e3] at hr
  exact ⟨hr, hN⟩
set_option maxHeartbeats 400000 in
theorem flJ_le (c : Nat) : flJ c ≤ 1 := by unfold flJ; split <;> omega
set_option maxHeartbeats 400000 in
/-- the mid range: the digits alone round alike -/
theorem fl_mid {s : Bool} {c E : Nat} (h1 : 8388608 ≤ c) (h2 : c < 16777216) (hE : 121 ≤ E) (hE2 : E ≤ 137) : FP.Core.toInt (-2 ^ 31) (2 ^ 31 - 1) (FP.Core.round FP.Core.b32 (FP.Core.exactProduct (.fin false 10485760 (-20)) (.fin s c ((E : Int) - 150)))) = FP.Core.signed s (flN c * 2 ^ (3 + flJ c) / 2 ^ (150 - E)) := by
  obtain ⟨e, hN⟩ := fl_rr (s := s) (q := (E : Int) - 150) h1 h2 (by omega)
  have hJ := flJ_le c
  rw [fl_prod, e, fl_cutneg (k := 150 - E - 3 - flJ c) hN (by omega) (by omega)]
  congr 1
  obtain ⟨m, hm⟩ : ∃ m, 150 - E = m + (3 + flJ c) := ⟨150 - E - 3 - flJ c, by omega⟩
  rw [show 150 - E - 3 - flJ c = m by omega, hm, Nat.pow_add 2 m (3 + flJ c), Nat.mul_div_mul_right _ _ (Nat.two_pow_pos _)]
set_option maxHeartbeats 400000 in
theorem fl_dig {c : Nat} (h1 : 8388608 ≤ c) (h2 : c < 16777216) : FP.Core.toInt (-2 ^ 31) (2 ^ 31 - 1) (FP.Core.round FP.Core.b32 (FP.Core.exactProduct (.fin false 10485760 (-20)) (.fin false c 0))) = ((flN c * 2 ^ (3 + flJ c) : Nat) : Int) ∧ flN c * 2 ^ (3 + flJ c) < 2 ^ 31 := by
  obtain ⟨e, hN⟩ := fl_rr (s := false) (q := 0) h1 h2 (by omega)
  have hJ := flJ_le c
  have hk2 : 2 ^ (3 + flJ c) ≤ 2 ^ 4 := Nat.pow_le_pow_right (by omega) (by omega)
  have hm : flN c * 2 ^ (3 + flJ c) ≤ 16777216 * 2 ^ 4 := Nat.mul_le_mul hN hk2
  refine ⟨?_, by omega⟩
  rw [fl_prod, e, show (0 : Int) + 3 + (flJ c : Int) = ((3 + flJ c : Nat) : Int) by omega]
  exact fl_cutpos hN (by omega)
set_option maxHeartbeats 400000 in
theorem fl_low {s : Bool} {c : Nat} {q : Int} (h2 : c < 16777216) (hq : q ≤ -30) : FP.Core.toInt (-2 ^ 31) (2 ^ 31 - 1) (FP.Core.round FP.Core.b32 (FP.Core.exactProduct (.fin false 10485760 (-20)) (.fin s c q))) = 0 := by
  rw [fl_prod]
  by_cases hc : c = 0
  · subst hc
    unfold FP.Core.roundRatio
    rw [if_pos (by omega), fl_qmin]
    cases s <;> decide
  · rw [fl_round (by omega)]
    have hN := FP.Core.nearest_units_le (f := FP.Core.b32) (A := 10485760 * c) (B := 1) (by omega) (by omega) (-20 + q)
    have hQ : FP.Core.quantum FP.Core.b32 (10485760 * c) 1 (-20 + q) ≤ -26 := by
      rcases FP.Core.quantum_not_below (f := FP.Core.b32) (A := 10485760 * c) (B := 1) (by omega) (by omega) (-20 + q) with h | h
      · rw [h, fl_qmin]; omega
      · refine Int.not_lt.mp fun z => h ?_
        rw [fl_p]
        refine FP.Core.below_mono (a := ((48 : Nat) : Int) - (0 : Nat)) (by omega) ?_
        rw [FP.Core.below_iff]; omega
    generalize FP.Core.nearest _ _ = N at hN ⊢
    generalize FP.Core.quantum FP.Core.b32 (10485760 * c) 1 (-20 + q) = Q at hQ ⊢
    have hN' : N ≤ 16777216 := hN
    rw [fl_cutneg (k := (-Q).toNat) hN' (by omega) (by omega)]
    have : N / 2 ^ (-Q).toNat = 0 := by
      refine Nat.div_eq_of_lt (Nat.lt_of_lt_of_le (show N < 2 ^ 26 by omega) (Nat.pow_le_pow_right (by omega) (by omega)))
    rw [this]
    cases s <;> rfl
set_option maxHeartbeats 400000 in
theorem fl_big {s : Bool} {M : Nat} {Q : Int} (hM : 8388608 ≤ M) (hQ : -9 ≤ Q) : ¬ (0 ≤ max (-2 ^ 31) (min (2 ^ 31 - 1) (FP.Core.truncate s M Q)) ∧ max (-2 ^ 31) (min (2 ^ 31 - 1) (FP.Core.truncate s M Q)) ≤ 10000) := by
  have hv : 16384 ≤ M * 2 ^ Q.toNat / 2 ^ (-Q).toNat := by
    rw [Nat.le_div_iff_mul_le (Nat.two_pow_pos _)]
    have a1 : 2 ^ (-Q).toNat ≤ 2 ^ 9 := Nat.pow_le_pow_right (by omega) (by omega)
    have a2 : 1 ≤ 2 ^ Q.toNat := Nat.two_pow_pos _
    have a3 : 16384 * 2 ^ (-Q).toNat ≤ 16384 * 2 ^ 9 := Nat.mul_le_mul_left _ a1
    have a4 : M * 1 ≤ M * 2 ^ Q.toNat := Nat.mul_le_mul_left _ a2
    omega
  unfold FP.Core.truncate
  generalize M * 2 ^ Q.toNat / 2 ^ (-Q).toNat = m at hv
  cases s
  · show ¬ (0 ≤ max (-2 ^ 31) (min (2 ^ 31 - 1) (m : Int)) ∧ max (-2 ^ 31) (min (2 ^ 31 - 1) (m : Int)) ≤ 10000); omega
  · show ¬ (0 ≤ max (-2 ^ 31) (min (2 ^ 31 - 1) (-(m : Int))) ∧ max (-2 ^ 31) (min (2 ^ 31 - 1) (-(m : Int))) ≤ 10000); omega
set_option maxHeartbeats 400000 in
theorem fl_infs {s : Bool} : ¬ (0 ≤ FP.Core.toInt (-2 ^ 31) (2 ^ 31 - 1) (.inf s) ∧ FP.Core.toInt (-2 ^ 31) (2 ^ 31 - 1) (.inf s) ≤ 10000) := by cases s <;> decide
set_option maxHeartbeats 400000 in
theorem fl_high {s : Bool} {c : Nat} {q : Int} (h1 : 8388608 ≤ c) (h2 : c < 16777216) (hq : -12 ≤ q) : ¬ (0 ≤ FP.Core.toInt (-2 ^ 31) (2 ^ 31 - 1) (FP.Core.round FP.Core.b32 (FP.Core.exactProduct (.fin false 10485760 (-20)) (.fin s c q))) ∧ FP.Core.toInt (-2 ^ 31) (2 ^ 31 - 1) (FP.Core.round FP.Core.b32 (FP.Core.exactProduct (.fin false 10485760 (-20)) (.fin s c q))) ≤ 10000) := by
  obtain ⟨e, hN⟩ := fl_rr (s := s) (q := q) h1 h2 (by omega)
  have hlo : 8388608 ≤ flN c := by
    unfold flN
    refine FP.Core.nearest_ge (Nat.two_pow_pos _) ?_
    unfold flJ
    split
    · show 8388608 * 2 ^ 23 ≤ _; omega
    · show 8388608 * 2 ^ 24 ≤ _; omega
  rw [fl_prod, e]
  unfold FP.Core.settle FP.Core.bound
  split
  · split
    · exact fl_big hlo (by omega)
    · exact fl_infs
  · rw [fl_tails]
    split
    · exact fl_big (by omega) (by omega)
    · exact fl_infs
set_option maxHeartbeats 400000 in
/-- by the fields of a float that is a number -/
theorem fl_ten {b : UInt32} (hnan : ¬ (b.toNat / 8388608 % 256 = 255 ∧ ¬ b.toNat % 8388608 = 0)) :
    (b.toNat / 8388608 % 256 < 121 → (FP.f2i (FP.fmul 0x41200000 b)).toInt = 0) ∧
    (137 < b.toNat / 8388608 % 256 → ¬ (0 ≤ (FP.f2i (FP.fmul 0x41200000 b)).toInt ∧ (FP.f2i (FP.fmul 0x41200000 b)).toInt ≤ 10000)) ∧
    (121 ≤ b.toNat / 8388608 % 256 → b.toNat / 8388608 % 256 ≤ 137 → (FP.f2i (FP.fmul 0x41200000 b)).toInt = FP.Core.signed (FP.Core.fieldS FP.Core.b32 b.toNat) (flN (8388608 + b.toNat % 8388608) * 2 ^ (3 + flJ (8388608 + b.toNat % 8388608)) / 2 ^ (150 - b.toNat / 8388608 % 256))) := by
  have hv : (FP.f2i (FP.fmul 0x41200000 b)).toInt = FP.Core.toInt (-2 ^ 31) (2 ^ 31 - 1) (FP.Core.round FP.Core.b32 (FP.Core.exactProduct (.fin false 10485760 (-20)) (FP.Core.val32 b))) := by
    rw [fl_f2i, FP.Core.val32_fmul, fl_10]
  rw [hv]
  have hT : b.toNat % 8388608 < 8388608 := Nat.mod_lt _ (by omega)
  have hd : FP.Core.val32 b = if b.toNat / 8388608 % 256 = 255 then (if b.toNat % 8388608 = 0 then .inf (FP.Core.fieldS FP.Core.b32 b.toNat) else .nan) else if b.toNat / 8388608 % 256 = 0 then .fin (FP.Core.fieldS FP.Core.b32 b.toNat) (b.toNat % 8388608) (-149) else .fin (FP.Core.fieldS FP.Core.b32 b.toNat) (8388608 + b.toNat % 8388608) (-149 + (((b.toNat / 8388608 % 256 : Nat) : Int) - 1)) := by
    unfold FP.Core.val32 FP.Core.decode FP.Core.fieldE FP.Core.fieldT
    rw [fl_tails, fl_qmin]
    rfl
  rw [hd]
  generalize FP.Core.fieldS FP.Core.b32 b.toNat = s
  generalize b.toNat / 8388608 % 256 = E at hnan
  generalize b.toNat % 8388608 = T at hnan hT
  by_cases h255 : E = 255
  · have hT0 : T = 0 := Decidable.not_not.mp fun z => hnan ⟨h255, z⟩
    rw [if_pos h255, if_pos hT0]
    refine ⟨fun z => by omega, fun _ => ?_, fun _ z => by omega⟩
    have : FP.Core.round FP.Core.b32 (FP.Core.exactProduct (.fin false 10485760 (-20)) (.inf s)) = .inf s := by cases s <;> rfl
    rw [this]
    exact fl_infs
  · rw [if_neg h255]
    by_cases h0 : E = 0
    · rw [if_pos h0]
      exact ⟨fun _ => fl_low (by omega) (by omega), fun z => by omega, fun z => by omega⟩
    · rw [if_neg h0, show -149 + ((E : Int) - 1) = (E : Int) - 150 by omega]
      exact ⟨fun z => fl_low (by omega) (by omega), fun z => fl_high (by omega) (by omega) (by omega), fun z z2 => fl_mid (by omega) (by omega) z z2⟩
set_option maxHeartbeats 400000 in
/-- the digits alone, made a float -/
theorem fl_digits {m : Nat} (h1 : 8388608 ≤ m) (h2 : m < 16777216) : (FP.f2i (FP.fmul 0x41200000 (FP.i2f (nI m)))).toInt = ((flN m * 2 ^ (3 + flJ m) : Nat) : Int) ∧ flN m * 2 ^ (3 + flJ m) < 2 ^ 31 := by
  have hv : FP.Core.val32 (FP.i2f (nI m)) = .fin false m 0 := by
    have e := FP.Core.val32_i2f (nI m)
    rw [nI_toInt (by omega)] at e
    have e2 : FP.Core.ofInt (m : Int) = .fin false m 0 := by
      unfold FP.Core.ofInt
      rw [decide_eq_false (by omega)]
      rfl
    rw [e2, FP.Core.round_of_fits FP.Core.good_b32] at e
    · exact e
    · refine ⟨by rw [fl_p]; omega, by rw [fl_qmin]; omega, by rw [fl_qmax]; omega, Or.inr (by rw [fl_tails]; omega)⟩
  obtain ⟨a, b⟩ := fl_dig h1 h2
  refine ⟨?_, b⟩
  rw [fl_f2i, FP.Core.val32_fmul, fl_10, hv, a]
set_option maxHeartbeats 400000 in
/-- no NaN comes of a number -/
theorem fl_nan {b : UInt32} (h : ¬ FP.Core.val32 b = .nan) : FP.fmul 0x41200000 b &&& 0x7fffffff ≤ 0x7f800000 := by
  have hv : FP.Core.val32 (FP.fmul 0x41200000 b) = FP.Core.round FP.Core.b32 (FP.Core.exactProduct (.fin false 10485760 (-20)) (FP.Core.val32 b)) := by
    rw [← fl_10]
    exact FP.Core.val32_fmul _ _
  have hnn : ¬ FP.Core.val32 (FP.fmul 0x41200000 b) = .nan := by
    rw [hv]
    cases hb : FP.Core.val32 b with
    | nan => exact absurd hb h
    | inf s => intro z; cases z
    | fin s c q =>
      rw [fl_prod]
      unfold FP.Core.roundRatio
      split
      · intro z; cases z
      · unfold FP.Core.roundAt FP.Core.settle FP.Core.bound
        repeat' split
        all_goals (intro z; cases z)
  generalize FP.fmul 0x41200000 b = r at hnn
  have h1 : ¬ (r.toNat / 8388608 % 256 = 255 ∧ ¬ r.toNat % 8388608 = 0) := fun z => hnn (by
    unfold FP.Core.val32 FP.Core.decode FP.Core.fieldE FP.Core.fieldT
    rw [fl_tails]
    rw [if_pos (show r.toNat / 8388608 % FP.Core.b32.exps = FP.Core.b32.exps - 1 from z.1), if_neg z.2])
  rw [UInt32.le_iff_toNat_le, UInt32.toNat_and]
  rw [show (0x7fffffff : UInt32).toNat = 2 ^ 31 - 1 from rfl, show (0x7f800000 : UInt32).toNat = 2139095040 from rfl, Nat.and_two_pow_sub_one_eq_mod]
  have h3 := UInt32.toNat_lt r
  omega
end FL

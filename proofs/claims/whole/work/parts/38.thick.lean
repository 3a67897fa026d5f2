/-! floorDiv; what a spot is worth. -/
theorem tdiv_fl {A B : Int} (h1 : 0 < B) (h0 : A < 0) : A / B = if A.tdiv B * B = A then A.tdiv B else A.tdiv B - 1 := by
  have e1 : A.tdiv B = -((-A) / B) := by
    have : A = -(-A) := by omega
    rw [this, Int.neg_tdiv, Int.neg_neg, Int.tdiv_eq_ediv_of_nonneg (by omega)]
  have hm := Int.mul_ediv_add_emod (-A) B
  have hm0 := Int.emod_nonneg (-A) (show B ≠ 0 by omega)
  have hm1 := Int.emod_lt_of_pos (-A) h1
  rw [e1]
  generalize (-A) / B = q at *
  generalize (-A) % B = m at *
  have hc : -q * B = -(B * q) := by rw [Int.neg_mul, Int.mul_comm]
  rw [hc]
  split
  · rename_i hq
    refine ((Int.ediv_emod_unique (r := 0) h1).mpr ⟨?_, by omega, by omega⟩).1
    rw [Int.mul_neg]; omega
  · rename_i hq
    refine ((Int.ediv_emod_unique (r := B - m) h1).mpr ⟨?_, by omega, ?_⟩).1
    · rw [Int.mul_sub, Int.mul_neg]; omega
    · have : m ≠ 0 := fun z => hq (by omega)
      omega
theorem lxor_neg {a b : Int64} (hb : ¬ b < 0) : a ^^^ b < 0 ↔ a < 0 := by
  have e : ∀ x : Int64, x < 0 ↔ x.toBitVec.msb = true := fun x => by
    rw [Int64.lt_iff_toInt_lt, BitVec.msb_eq_toInt, decide_eq_true_iff]
    exact Iff.rfl
  rw [e] at hb
  rw [e, e, Int64.toBitVec_xor, BitVec.msb_xor]
  simp [hb]
theorem Ex.ldv {d : Nat} {m : bo_M} {pc nx tg kp : Nat} {lv : bo_LV} {G : bo_G} {Q : Option Value → bo_G → Prop} {x y : Int64} {r : List Value} (he : bo_cd m pc = some (.ldiv, nx, tg, kp)) (hy : ¬ y = 0) (k : Ex d m (nx, lv, .long (x / y) :: r, G) Q) : Ex d m (pc, lv, .long y :: .long x :: r, G) Q := by
  refine Ex.go he ?_ k
  show bo_dl (fun x y => .long (x / y)) lv nx (.long y :: .long x :: r) G = _
  unfold bo_dl
  simp [hy]
section RR
variable {d : Nat} {G : bo_G} {Q : Option Value → bo_G → Prop}
theorem j_floorDiv {a b : Int64} {A B : Int} (ha : a.toInt = A) (hb : b.toInt = B) (hA : -4611686018427387904 < A ∧ A < 4611686018427387904) (hB : 0 < B) (k : ∀ r : Int64, r.toInt = A / B → Q (some (.long r)) G) : Cx d mJ9_floorDiv_f86c9 [.long a, .long b] G Q := by
  have hb0 : ¬ b = 0 := fun z => by rw [z] at hb; have : (0 : Int64).toInt = 0 := rfl; omega
  have hbn : ¬ b < 0 := fun z => by have := Int64.lt_iff_toInt_lt.mp z; have h0 : (0 : Int64).toInt = 0 := rfl; omega
  have h0 : (0 : Int64).toInt = 0 := rfl
  have hq : -4611686018427387904 < A.tdiv B ∧ A.tdiv B < 4611686018427387904 ∧ -4611686018427387904 < A.tdiv B * B ∧ A.tdiv B * B < 4611686018427387904 := by
    by_cases hn : A < 0
    · have e1 : A.tdiv B = -((-A) / B) := by
        have : A = -(-A) := by omega
        rw [this, Int.neg_tdiv, Int.neg_neg, Int.tdiv_eq_ediv_of_nonneg (by omega)]
      have hm := Int.mul_ediv_add_emod (-A) B
      have hm0 := Int.emod_nonneg (-A) (show B ≠ 0 by omega)
      have h2 : 0 ≤ (-A) / B := Int.ediv_nonneg (by omega) (by omega)
      have h3 : (-A) / B ≤ -A := Int.ediv_le_self B (by omega)
      have h4 : 0 ≤ B * ((-A) / B) := Int.mul_nonneg (by omega) h2
      have hc : -((-A) / B) * B = -(B * ((-A) / B)) := by rw [Int.neg_mul, Int.mul_comm]
      rw [e1, hc]
      omega
    · have e1 : A.tdiv B = A / B := Int.tdiv_eq_ediv_of_nonneg (by omega)
      have hm := Int.mul_ediv_add_emod A B
      have hm0 := Int.emod_nonneg A (show B ≠ 0 by omega)
      have h2 : 0 ≤ A / B := Int.ediv_nonneg (by omega) (by omega)
      have h3 : A / B ≤ A := Int.ediv_le_self B (by omega)
      have h4 : 0 ≤ B * (A / B) := Int.mul_nonneg (by omega) h2
      rw [e1, Int.mul_comm]
      omega
  have hd : (a / b).toInt = A.tdiv B := by
    rw [Int64.toInt_div, ha, hb]
    exact Int.bmod_eq_of_le (by omega) (by omega)
  have hmul : (a / b * b).toInt = A.tdiv B * B := l_mul hd hb (by omega)
  refine Cx.body rfl rfl ?_
  (repeat (first | refine Ex.go rfl rfl ?_ | refine Ex.gf rfl rfl (by assumption) (by rfl) (by first | rfl | assumption) ?_))
  refine Ex.ldv rfl hb0 ?_
  (repeat (first | refine Ex.go rfl rfl ?_ | refine Ex.gf rfl rfl (by assumption) (by rfl) (by first | rfl | assumption) ?_))
  have plain : (¬ A < 0 ∨ A.tdiv B * B = A) → Ex d mJ9_floorDiv_f86c9 (27, [(0, .long a), (2, .long b), (4, .long (a / b))], [], G) Q := by
    intro h
    (repeat (first | refine Ex.go rfl rfl ?_ | refine Ex.gf rfl rfl (by assumption) (by rfl) (by first | rfl | assumption) ?_))
    refine Ex.ret rfl rfl rfl ?_
    refine k _ ?_
    rw [hd]
    by_cases hn : A < 0
    · rw [tdiv_fl hB hn, if_pos (h.resolve_left (fun z => z hn))]
    · exact Int.tdiv_eq_ediv_of_nonneg (by omega)
  (repeat (first | refine Ex.go rfl rfl ?_ | refine Ex.gf rfl rfl (by assumption) (by rfl) (by first | rfl | assumption) ?_))
  refine Ex.br (fun h1 => ?_) (fun h1 => ?_)
  · have h2 : ¬ A < 0 := fun z => by
      have h3 : a < 0 := Int64.lt_iff_toInt_lt.mpr (by rw [ha, h0]; exact z)
      have h4 := (lg_cmp_ge _ _).mp h1
      exact absurd ((lxor_neg hbn).mpr h3) (fun q => absurd h4 (Int64.not_le.mpr q))
    (repeat (first | exact plain (Or.inl h2) | refine Ex.go rfl rfl ?_ | refine Ex.gf rfl rfl (by assumption) (by rfl) (by first | rfl | assumption) ?_))
  · have h2 : A < 0 := by
      have h4 : a ^^^ b < 0 := Int64.not_le.mp fun z => h1 ((lg_cmp_ge _ _).mpr z)
      have h3 := Int64.lt_iff_toInt_lt.mp ((lxor_neg hbn).mp h4)
      rw [ha, h0] at h3
      exact h3
    (repeat (first | refine Ex.go rfl rfl ?_ | refine Ex.gf rfl rfl (by assumption) (by rfl) (by first | rfl | assumption) ?_))
    refine Ex.br (fun h5 => ?_) (fun h5 => ?_)
    · have h6 := (lg_cmp_eq _ _).mp h5
      have h7 : A.tdiv B * B = A := by rw [← hmul, ← ha, h6]
      (repeat (first | exact plain (Or.inr h7) | refine Ex.go rfl rfl ?_ | refine Ex.gf rfl rfl (by assumption) (by rfl) (by first | rfl | assumption) ?_))
    · have h7 : ¬ A.tdiv B * B = A := fun z => h5 ((lg_cmp_eq _ _).mpr (Int64.toInt_inj.mp (by rw [hmul, ha, z])))
      (repeat (first | refine Ex.go rfl rfl ?_ | refine Ex.gf rfl rfl (by assumption) (by rfl) (by first | rfl | assumption) ?_))
      refine Ex.ret rfl rfl rfl ?_
      refine k _ ?_
      rw [tdiv_fl hB h2, if_neg h7]
      exact l_sub hd rfl (by omega)
/-- what a spot is worth on day x: e, et: its last measure; o: the one ahead; w: its wear -/
def thZ (e et : Int) (o : Option (Int × Int)) (w x : Int) : Int :=
  match o with
  | none => max 0 ((et * 365 - w * (x - e)) / 365)
  | some (a, t) => if w * (e - a) < (t - et) * 365 then max 0 ((et * (e - a) - (t - et) * (x - e)) / (e - a)) else max 0 ((et * 365 - w * (x - e)) / 365)
end RR

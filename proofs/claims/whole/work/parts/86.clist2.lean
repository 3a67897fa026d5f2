/-! The class's listing: what stands there. -/
section CU
variable {d q : Nat} {G G1 : bo_G} {Q : Option Value → bo_G → Prop} {ks : List Int32} {on : Int32}
def lnC (on : Int32) (ks : List Int32) (i x : Int32) : Int32 := if ¬ (0 ≤ i.toInt ∧ i.toInt < ks.length) then -1 else if x.toInt = 0 then (bo_at ks i - bo_at ks i / 90 * 90) / 3 else if x.toInt = 1 then bo_at ks i - bo_at ks i / 3 * 3 else if x.toInt = 2 then bo_at ks i / 90 else if x.toInt = 3 then (if bo_at ks i / 90 < on then 1 else 0) else -1
theorem lw_number {i x : Int32} (h : LW G q on ks) (l : ks.length ≤ 90) (k : Q (some (.int (lnC on ks i x))) G) : Cx (d + 1) mX0_number [.ref q, .int i, .int x] G Q := by
  obtain ⟨a0, c, a1⟩ := h
  have e40 : (nI ks.length).toInt = ks.length := nI_toInt (by omega)
  unfold lnC at k
  refine Cx.body rfl rfl ?_
  (repeat (first | refine Ex.go rfl rfl ?_ | refine Ex.gf rfl rfl (by assumption) (by rfl) (by first | rfl | assumption) ?_))
  refine Ex.br (fun b1 => ?_) (fun b1 => ?_)
  · rw [if_pos (fun z => absurd b1 (Int32.not_lt.mpr (Int32.le_iff_toInt_le.mpr z.1)))] at k
    (repeat (first | refine Ex.go rfl rfl ?_ | refine Ex.gf rfl rfl (by assumption) (by rfl) (by first | rfl | assumption) ?_))
    refine Ex.ret rfl rfl rfl ?_
    exact k
  have b2 := Int32.le_iff_toInt_le.mp (Int32.not_lt.mp b1)
  (repeat (first | refine Ex.go rfl rfl ?_ | refine Ex.gf rfl rfl (by assumption) (by rfl) (by first | rfl | assumption) ?_))
  refine Ex.cv0 rfl rfl rfl a1 (by rfl) (by decide) rfl ?_
  refine s_size a1 ?_
  (repeat (first | refine Ex.go rfl rfl ?_ | refine Ex.gf rfl rfl (by assumption) (by rfl) (by first | rfl | assumption) ?_))
  refine Ex.br (fun b3 => ?_) (fun b3 => ?_); rotate_left
  · rw [if_pos (fun z => b3 (Int32.lt_iff_toInt_lt.mpr (show i.toInt < (nI ks.length).toInt by rw [e40]; exact z.2)))] at k
    (repeat (first | refine Ex.go rfl rfl ?_ | refine Ex.gf rfl rfl (by assumption) (by rfl) (by first | rfl | assumption) ?_))
    refine Ex.ret rfl rfl rfl ?_
    exact k
  have b5 : i.toInt < (nI ks.length).toInt := Int32.lt_iff_toInt_lt.mp b3
  rw [e40] at b5
  rw [if_neg (fun z => z ⟨b2, b5⟩)] at k
  (repeat (first | refine Ex.go rfl rfl ?_ | refine Ex.gf rfl rfl (by assumption) (by rfl) (by first | rfl | assumption) ?_))
  refine Ex.cv1 rfl rfl rfl a1 (by rfl) (by decide) rfl ?_
  refine Cx.rat a1 ?_
  generalize bo_at ks i = key at k ⊢
  (repeat (first | refine Ex.go rfl rfl ?_ | refine Ex.gf rfl rfl (by assumption) (by rfl) (by first | rfl | assumption) ?_))
  rcases (show (x.toInt < 0 ∨ 3 < x.toInt) ∨ x.toInt = 0 ∨ x.toInt = 1 ∨ x.toInt = 2 ∨ x.toInt = 3 by omega) with hw | hw | hw | hw | hw
  · rw [if_neg (by omega), if_neg (by omega), if_neg (by omega), if_neg (by omega)] at k
    refine Ex.tsw 89 rfl (bo_tswD hw) (by decide) ?_
    (repeat (first | refine Ex.go rfl rfl ?_ | refine Ex.gf rfl rfl (by assumption) (by rfl) (by first | rfl | assumption) ?_))
    refine Ex.ret rfl rfl rfl ?_
    exact k
  · rw [if_pos hw] at k
    refine Ex.tsw 56 rfl (by rw [hw]; rfl) (by decide) ?_
    (repeat (first | refine Ex.go rfl rfl ?_ | refine Ex.gf rfl rfl (by assumption) (by rfl) (by first | rfl | assumption) ?_))
    refine Ex.ret rfl rfl rfl ?_
    exact k
  · rw [if_neg (by omega), if_pos hw] at k
    refine Ex.tsw 63 rfl (by rw [hw]; rfl) (by decide) ?_
    (repeat (first | refine Ex.go rfl rfl ?_ | refine Ex.gf rfl rfl (by assumption) (by rfl) (by first | rfl | assumption) ?_))
    refine Ex.ret rfl rfl rfl ?_
    exact k
  · rw [if_neg (by omega), if_neg (by omega), if_pos hw] at k
    refine Ex.tsw 67 rfl (by rw [hw]; rfl) (by decide) ?_
    (repeat (first | refine Ex.go rfl rfl ?_ | refine Ex.gf rfl rfl (by assumption) (by rfl) (by first | rfl | assumption) ?_))
    refine Ex.ret rfl rfl rfl ?_
    exact k
  · rw [if_neg (by omega), if_neg (by omega), if_neg (by omega), if_pos hw] at k
    refine Ex.tsw 72 rfl (by rw [hw]; rfl) (by decide) ?_
    (repeat (first | refine Ex.go rfl rfl ?_ | refine Ex.gf rfl rfl (by assumption) (by rfl) (by first | rfl | assumption) ?_))
    refine Ex.br (fun b6 => ?_) (fun b6 => ?_)
    · rw [if_neg (show ¬ key / 90 < on from Int32.not_lt.mpr b6)] at k
      (repeat (first | refine Ex.go rfl rfl ?_ | refine Ex.gf rfl rfl (by assumption) (by rfl) (by first | rfl | assumption) ?_))
      refine Ex.ret rfl rfl rfl ?_
      exact k
    · rw [if_pos (show key / 90 < on from Int32.not_le.mp b6)] at k
      (repeat (first | refine Ex.go rfl rfl ?_ | refine Ex.gf rfl rfl (by assumption) (by rfl) (by first | rfl | assumption) ?_))
      refine Ex.ret rfl rfl rfl ?_
      exact k
end CU

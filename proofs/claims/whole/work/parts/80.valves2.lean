/-! The class's view of the valves: the greatest and the least setting. -/
section CO
variable {d q : Nat} {G G1 : bo_G} {Q : Option Value → bo_G → Prop} {ss ds ps : List Int32}
def grC (ss ds : List Int32) : Nat → Int32
  | 0 => -1
  | n + 1 => if bo_at ds (nI n) = -1 then grC ss ds n else mxI (grC ss ds n) (bo_at ss (nI n))
def lsC (ss ds : List Int32) : Nat → Int32
  | 0 => -1
  | n + 1 => if bo_at ds (nI n) = -1 then lsC ss ds n else if lsC ss ds n = -1 ∨ bo_at ss (nI n) < lsC ss ds n then bo_at ss (nI n) else lsC ss ds n
theorem vw_greatest (h : VW G q ss ds ps) (l2 : ds.length ≤ 6) (k : Q (some (.int (grC ss ds ds.length))) G) : Cx (d + 1) mX7_greatest [.ref q] G Q := by
  have a0 := h.1
  obtain ⟨c1, a1⟩ := h.2.1
  obtain ⟨c2, a2⟩ := h.2.2.1
  have loop : ∀ (e i : Nat) (b c : Int32), b = nI i → i + e = ds.length → c = grC ss ds i → Ex (d + 1) mX7_greatest (4, [(0, .ref q), (1, .int c), (2, .int b)], [], G) Q := by
    intro e
    induction e with
    | zero =>
      intro i b c hb hi hc
      have hi' : i = ds.length := by omega
      rw [← hi', ← hc] at k
      have hb2 : nI ds.length ≤ b := by rw [hb, hi']; exact nI_le (Nat.le_refl _) (by omega)
      clear hb hc
      (repeat (first | refine Ex.go rfl rfl ?_ | refine Ex.gf rfl rfl (by assumption) (by rfl) (by first | rfl | assumption) ?_))
      refine Ex.cv0 rfl rfl rfl a2 (by rfl) (by decide) rfl ?_
      refine s_size a2 ?_
      (repeat (first | refine Ex.go rfl rfl ?_ | refine Ex.gf rfl rfl (by assumption) (by rfl) (by first | rfl | assumption) ?_))
      refine Ex.br (fun c1 => ?_) (fun c1 => ?_); rotate_left
      · exact absurd hb2 c1
      (repeat (first | refine Ex.go rfl rfl ?_ | refine Ex.gf rfl rfl (by assumption) (by rfl) (by first | rfl | assumption) ?_))
      refine Ex.ret rfl rfl rfl ?_
      exact k
    | succ e ih =>
      intro i b c hb hi hc
      have st : grC ss ds (i + 1) = if bo_at ds (nI i) = -1 then grC ss ds i else mxI (grC ss ds i) (bo_at ss (nI i)) := rfl
      rw [← hc, ← hb] at st
      have nx := fun c' hc' => ih (i + 1) (b + 1) c' (by rw [hb]; exact nI_1 i) (by omega) hc'
      rw [st] at nx
      (repeat (first | refine Ex.go rfl rfl ?_ | refine Ex.gf rfl rfl (by assumption) (by rfl) (by first | rfl | assumption) ?_))
      refine Ex.cv0 rfl rfl rfl a2 (by rfl) (by decide) rfl ?_
      refine s_size a2 ?_
      (repeat (first | refine Ex.go rfl rfl ?_ | refine Ex.gf rfl rfl (by assumption) (by rfl) (by first | rfl | assumption) ?_))
      refine Ex.br (fun c1 => ?_) (fun c1 => ?_)
      · have c2 : nI ds.length ≤ b := c1
        rw [hb, nI_leI (by omega) (by omega)] at c2
        omega
      (repeat (first | refine Ex.go rfl rfl ?_ | refine Ex.gf rfl rfl (by assumption) (by rfl) (by first | rfl | assumption) ?_))
      refine Ex.cv1 rfl rfl rfl a2 (by rfl) (by decide) rfl ?_
      refine Cx.rat a2 ?_
      (repeat (first | refine Ex.go rfl rfl ?_ | refine Ex.gf rfl rfl (by assumption) (by rfl) (by first | rfl | assumption) ?_))
      refine Ex.br (fun c3 => ?_) (fun c3 => ?_)
      · have c4 : bo_at ds b = -1 := Decidable.not_not.mp (by simpa using c3)
        have nx := nx c (if_pos c4).symm
        (repeat (first | exact nx | refine Ex.go rfl rfl ?_ | refine Ex.gf rfl rfl (by assumption) (by rfl) (by first | rfl | assumption) ?_))
      · have c4 : ¬ bo_at ds b = -1 := by simpa using c3
        have nx := nx _ (if_neg c4).symm
        (repeat (first | refine Ex.go rfl rfl ?_ | refine Ex.gf rfl rfl (by assumption) (by rfl) (by first | rfl | assumption) ?_))
        refine Ex.cv1 rfl rfl rfl a1 (by rfl) (by decide) rfl ?_
        refine Cx.rat a1 ?_
        (repeat (first | refine Ex.go rfl rfl ?_ | refine Ex.gf rfl rfl (by assumption) (by rfl) (by first | rfl | assumption) ?_))
        refine Ex.cs2 rfl rfl rfl rfl rfl rfl ?_
        refine j_max ?_
        (repeat (first | exact nx | refine Ex.go rfl rfl ?_ | refine Ex.gf rfl rfl (by assumption) (by rfl) (by first | rfl | assumption) ?_))
  refine Cx.body rfl rfl ?_
  have l0 := loop ds.length 0 0 (-1) rfl (by omega) rfl
  (repeat (first | exact l0 | refine Ex.go rfl rfl ?_ | refine Ex.gf rfl rfl (by assumption) (by rfl) (by first | rfl | assumption) ?_))
theorem vw_least (h : VW G q ss ds ps) (l2 : ds.length ≤ 6) (k : Q (some (.int (lsC ss ds ds.length))) G) : Cx (d + 1) mX7_least [.ref q] G Q := by
  have a0 := h.1
  obtain ⟨c1, a1⟩ := h.2.1
  obtain ⟨c2, a2⟩ := h.2.2.1
  have loop : ∀ (e i : Nat) (b c : Int32), b = nI i → i + e = ds.length → c = lsC ss ds i → Ex (d + 1) mX7_least (4, [(0, .ref q), (1, .int c), (2, .int b)], [], G) Q := by
    intro e
    induction e with
    | zero =>
      intro i b c hb hi hc
      have hi' : i = ds.length := by omega
      rw [← hi', ← hc] at k
      have hb2 : nI ds.length ≤ b := by rw [hb, hi']; exact nI_le (Nat.le_refl _) (by omega)
      clear hb hc
      (repeat (first | refine Ex.go rfl rfl ?_ | refine Ex.gf rfl rfl (by assumption) (by rfl) (by first | rfl | assumption) ?_))
      refine Ex.cv0 rfl rfl rfl a2 (by rfl) (by decide) rfl ?_
      refine s_size a2 ?_
      (repeat (first | refine Ex.go rfl rfl ?_ | refine Ex.gf rfl rfl (by assumption) (by rfl) (by first | rfl | assumption) ?_))
      refine Ex.br (fun c1 => ?_) (fun c1 => ?_); rotate_left
      · exact absurd hb2 c1
      (repeat (first | refine Ex.go rfl rfl ?_ | refine Ex.gf rfl rfl (by assumption) (by rfl) (by first | rfl | assumption) ?_))
      refine Ex.ret rfl rfl rfl ?_
      exact k
    | succ e ih =>
      intro i b c hb hi hc
      have st : lsC ss ds (i + 1) = if bo_at ds (nI i) = -1 then lsC ss ds i else if lsC ss ds i = -1 ∨ bo_at ss (nI i) < lsC ss ds i then bo_at ss (nI i) else lsC ss ds i := rfl
      rw [← hc, ← hb] at st
      have nx := fun c' hc' => ih (i + 1) (b + 1) c' (by rw [hb]; exact nI_1 i) (by omega) hc'
      rw [st] at nx
      have take : bo_at ds b ≠ -1 → (c = -1 ∨ bo_at ss b < c) → Ex (d + 1) mX7_least (44, [(0, .ref q), (1, .int c), (2, .int b)], [], G) Q := by
        intro c4 c5
        have nx := nx _ ((if_neg c4).trans (if_pos c5)).symm
        (repeat (first | refine Ex.go rfl rfl ?_ | refine Ex.gf rfl rfl (by assumption) (by rfl) (by first | rfl | assumption) ?_))
        refine Ex.cv1 rfl rfl rfl a1 (by rfl) (by decide) rfl ?_
        refine Cx.rat a1 ?_
        (repeat (first | exact nx | refine Ex.go rfl rfl ?_ | refine Ex.gf rfl rfl (by assumption) (by rfl) (by first | rfl | assumption) ?_))
      (repeat (first | refine Ex.go rfl rfl ?_ | refine Ex.gf rfl rfl (by assumption) (by rfl) (by first | rfl | assumption) ?_))
      refine Ex.cv0 rfl rfl rfl a2 (by rfl) (by decide) rfl ?_
      refine s_size a2 ?_
      (repeat (first | refine Ex.go rfl rfl ?_ | refine Ex.gf rfl rfl (by assumption) (by rfl) (by first | rfl | assumption) ?_))
      refine Ex.br (fun c1 => ?_) (fun c1 => ?_)
      · have c2 : nI ds.length ≤ b := c1
        rw [hb, nI_leI (by omega) (by omega)] at c2
        omega
      (repeat (first | refine Ex.go rfl rfl ?_ | refine Ex.gf rfl rfl (by assumption) (by rfl) (by first | rfl | assumption) ?_))
      refine Ex.cv1 rfl rfl rfl a2 (by rfl) (by decide) rfl ?_
      refine Cx.rat a2 ?_
      (repeat (first | refine Ex.go rfl rfl ?_ | refine Ex.gf rfl rfl (by assumption) (by rfl) (by first | rfl | assumption) ?_))
      refine Ex.br (fun c3 => ?_) (fun c3 => ?_)
      · have c4 : bo_at ds b = -1 := Decidable.not_not.mp (by simpa using c3)
        have nx := nx c (if_pos c4).symm
        (repeat (first | exact nx | refine Ex.go rfl rfl ?_ | refine Ex.gf rfl rfl (by assumption) (by rfl) (by first | rfl | assumption) ?_))
      have c4 : ¬ bo_at ds b = -1 := by simpa using c3
      (repeat (first | refine Ex.go rfl rfl ?_ | refine Ex.gf rfl rfl (by assumption) (by rfl) (by first | rfl | assumption) ?_))
      refine Ex.br (fun c5 => ?_) (fun c5 => ?_)
      · have c6 : c = -1 := Decidable.not_not.mp (by simpa using c5)
        (repeat (first | exact take c4 (Or.inl c6) | refine Ex.go rfl rfl ?_ | refine Ex.gf rfl rfl (by assumption) (by rfl) (by first | rfl | assumption) ?_))
      have c6 : ¬ c = -1 := by simpa using c5
      (repeat (first | refine Ex.go rfl rfl ?_ | refine Ex.gf rfl rfl (by assumption) (by rfl) (by first | rfl | assumption) ?_))
      refine Ex.cv1 rfl rfl rfl a1 (by rfl) (by decide) rfl ?_
      refine Cx.rat a1 ?_
      (repeat (first | refine Ex.go rfl rfl ?_ | refine Ex.gf rfl rfl (by assumption) (by rfl) (by first | rfl | assumption) ?_))
      refine Ex.br (fun c7 => ?_) (fun c7 => ?_)
      · have nx := nx c ((if_neg c4).trans (if_neg (fun z => z.elim c6 fun y => absurd y (Int32.not_lt.mpr c7)))).symm
        (repeat (first | exact nx | refine Ex.go rfl rfl ?_ | refine Ex.gf rfl rfl (by assumption) (by rfl) (by first | rfl | assumption) ?_))
      · (repeat (first | exact take c4 (Or.inr (Int32.not_le.mp c7)) | refine Ex.go rfl rfl ?_ | refine Ex.gf rfl rfl (by assumption) (by rfl) (by first | rfl | assumption) ?_))
  refine Cx.body rfl rfl ?_
  have l0 := loop ds.length 0 0 (-1) rfl (by omega) rfl
  (repeat (first | exact l0 | refine Ex.go rfl rfl ?_ | refine Ex.gf rfl rfl (by assumption) (by rfl) (by first | rfl | assumption) ?_))
end CO

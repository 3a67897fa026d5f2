/-! The class's view: the first part that bears less. -/
section CV3
variable {d : Nat} {G G1 : bo_G} {Q : Option Value → bo_G → Prop} {ro : Option Nat} {pc ve kn th sf mk st : Int32} {B : Nat → Int} {n : Nat}
theorem v_firstBelow {g x : Int32} (h0 : G[12]? = some (vwC pc ro ve kn th sf mk st)) (hq : G[13]? = some (cQ 2 24 vwQ)) (hp : pc = nI n) (hn : n ≤ 24) (hc : ∀ i, i < n → ∃ fs, G[22 + 14 * i]? = some (cO 2 fs)) (hB : ∀ i, i < n → ∀ Q : Option Value → bo_G → Prop, (∀ r : Int32, r.toInt = B i → Q (some (.int r)) G) → Cx (d + 2) mX2_bearsOn [.ref (22 + 14 * i), .int x, .int sf] G Q) (k0 : (∀ i, i < n → ¬ B i < g.toInt) → Q (some (.int (-1))) G) (k1 : ∀ i, i < n → B i < g.toInt → (∀ j, j < i → ¬ B j < g.toInt) → Q (some (.int (nI i))) G) : Cx (d + 3) mX9_firstBelow [.ref 12, .int g, .int x] G Q := by
  have loop : ∀ (e i : Nat) (b : Int32), b = nI i → i + e = n → (∀ j, j < i → ¬ B j < g.toInt) → Ex (d + 3) mX9_firstBelow (2, [(0, .ref 12), (1, .int g), (2, .int x), (3, .int b)], [], G) Q := by
    intro e
    induction e with
    | zero =>
      intro i b hb hi ha
      have hi' : i = n := by omega
      rw [hi'] at ha
      have k := k0 ha
      have hb2 : pc ≤ b := by rw [hb, hp, hi']; exact nI_le (Nat.le_refl _) (by omega)
      clear hb
      (repeat (first | refine Ex.go rfl rfl ?_ | refine Ex.gf rfl rfl (by assumption) (by rfl) (by first | rfl | assumption) ?_))
      refine Ex.br (fun c1 => ?_) (fun c1 => ?_); rotate_left
      · exact absurd hb2 c1
      (repeat (first | refine Ex.go rfl rfl ?_ | refine Ex.gf rfl rfl (by assumption) (by rfl) (by first | rfl | assumption) ?_))
      refine Ex.ret rfl rfl rfl ?_
      exact k
    | succ e ih =>
      intro i b hb hi ha
      obtain ⟨fs, hs1⟩ := hc i (by omega)
      have k1 := k1 i (by omega)
      rw [← hb] at k1
      have nx := ih (i + 1) (b + 1) (by rw [hb]; exact nI_1 i) (by omega)
      (repeat (first | refine Ex.go rfl rfl ?_ | refine Ex.gf rfl rfl (by assumption) (by rfl) (by first | rfl | assumption) ?_))
      refine Ex.br (fun c1 => ?_) (fun c1 => ?_)
      · rw [hb, hp, nI_leI (by omega) (by omega)] at c1
        omega
      (repeat (first | refine Ex.go rfl rfl ?_ | refine Ex.gf rfl rfl (by assumption) (by rfl) (by first | rfl | assumption) ?_))
      refine Ex.alq rfl hq ?_
      (repeat (first | refine Ex.go rfl rfl ?_ | refine Ex.gf rfl rfl (by assumption) (by rfl) (by first | rfl | assumption) ?_))
      refine Ex.br (fun c2 => ?_) (fun c2 => ?_)
      · have c3 : nI 24 ≤ b := c2
        rw [hb, nI_leI (by omega) (by omega)] at c3
        omega
      (repeat (first | refine Ex.go rfl rfl ?_ | refine Ex.gf rfl rfl (by assumption) (by rfl) (by first | rfl | assumption) ?_))
      refine Ex.aavw rfl hb hq (by omega) ?_
      (repeat (first | refine Ex.go rfl rfl ?_ | refine Ex.gf rfl rfl (by assumption) (by rfl) (by first | rfl | assumption) ?_))
      refine Ex.cv2 rfl rfl rfl hs1 (by rfl) (by decide) rfl ?_
      refine hB i (by omega) _ (fun r hr => ?_)
      (repeat (first | refine Ex.go rfl rfl ?_ | refine Ex.gf rfl rfl (by assumption) (by rfl) (by first | rfl | assumption) ?_))
      refine Ex.br (fun c4 => ?_) (fun c4 => ?_)
      · have c5 := Int32.le_iff_toInt_le.mp c4
        have nx := nx fun j hj => by
          by_cases q : j = i
          · rw [q, ← hr]; omega
          · exact ha j (by omega)
        (repeat (first | exact nx | refine Ex.go rfl rfl ?_ | refine Ex.gf rfl rfl (by assumption) (by rfl) (by first | rfl | assumption) ?_))
      · have c5 := Int32.lt_iff_toInt_lt.mp (Int32.not_le.mp c4)
        rw [hr] at c5
        have k := k1 c5 ha
        (repeat (first | refine Ex.go rfl rfl ?_ | refine Ex.gf rfl rfl (by assumption) (by rfl) (by first | rfl | assumption) ?_))
        refine Ex.ret rfl rfl rfl ?_
        exact k
  refine Cx.body rfl rfl ?_
  have l0 := loop n 0 0 rfl (by omega) (fun j hj => absurd hj (Nat.not_lt_zero j))
  (repeat (first | exact l0 | refine Ex.go rfl rfl ?_ | refine Ex.gf rfl rfl (by assumption) (by rfl) (by first | rfl | assumption) ?_))
end CV3

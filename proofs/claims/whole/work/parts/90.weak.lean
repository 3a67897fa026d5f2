/-! The class's view: the weakest part. -/
section CV4
variable {d : Nat} {G G1 : bo_G} {Q : Option Value → bo_G → Prop} {ro : Option Nat} {pc ve kn th sf mk st : Int32} {B : Nat → Int} {n : Nat}
def weC (B : Nat → Int) : Nat → Int32 × Int
  | 0 => (-1, 0)
  | i + 1 => if (weC B i).1 = -1 ∨ B i < (weC B i).2 then (nI i, B i) else weC B i
theorem v_weakest {x : Int32} (h0 : G[12]? = some (vwC pc ro ve kn th sf mk st)) (hq : G[13]? = some (cQ 2 24 vwQ)) (hp : pc = nI n) (hn : n ≤ 24) (hc : ∀ i, i < n → ∃ fs, G[22 + 14 * i]? = some (cO 2 fs)) (hB : ∀ i, i < n → ∀ Q : Option Value → bo_G → Prop, (∀ r : Int32, r.toInt = B i → Q (some (.int r)) G) → Cx (d + 2) mX2_bearsOn [.ref (22 + 14 * i), .int x, .int sf] G Q) (k : Q (some (.int (weC B n).1)) G) : Cx (d + 3) mX9_weakestPart [.ref 12, .int x] G Q := by
  have loop : ∀ (e i : Nat) (b c l : Int32), b = nI i → i + e = n → c = (weC B i).1 → l.toInt = (weC B i).2 → Ex (d + 3) mX9_weakestPart (7, [(0, .ref 12), (1, .int x), (2, .int c), (3, .int l), (4, .int b)], [], G) Q := by
    intro e
    induction e with
    | zero =>
      intro i b c l hb hi hc1 hl
      have hi' : i = n := by omega
      rw [← hi', ← hc1] at k
      have hb2 : pc ≤ b := by rw [hb, hp, hi']; exact nI_le (Nat.le_refl _) (by omega)
      clear hb hc1 hl
      (repeat (first | refine Ex.go rfl rfl ?_ | refine Ex.gf rfl rfl (by assumption) (by rfl) (by first | rfl | assumption) ?_))
      refine Ex.br (fun c1 => ?_) (fun c1 => ?_); rotate_left
      · exact absurd hb2 c1
      (repeat (first | refine Ex.go rfl rfl ?_ | refine Ex.gf rfl rfl (by assumption) (by rfl) (by first | rfl | assumption) ?_))
      refine Ex.ret rfl rfl rfl ?_
      exact k
    | succ e ih =>
      intro i b c l hb hi hc1 hl
      obtain ⟨fs, hs1⟩ := hc i (by omega)
      have st : weC B (i + 1) = if (weC B i).1 = -1 ∨ B i < (weC B i).2 then (nI i, B i) else weC B i := rfl
      rw [← hc1, ← hl, ← hb] at st
      have nx := fun c' l' h1 h2 => ih (i + 1) (b + 1) c' l' (by rw [hb]; exact nI_1 i) (by omega) h1 h2
      rw [st] at nx
      have take : ∀ r : Int32, r.toInt = B i → (c = -1 ∨ B i < l.toInt) → Ex (d + 3) mX9_weakestPart (54, [(0, .ref 12), (1, .int x), (2, .int c), (3, .int l), (4, .int b), (5, .int r)], [], G) Q := by
        intro r hr hcc
        have nx := nx b r
        rw [if_pos hcc] at nx
        have nx := nx rfl hr
        (repeat (first | exact nx | refine Ex.go rfl rfl ?_ | refine Ex.gf rfl rfl (by assumption) (by rfl) (by first | rfl | assumption) ?_))
      (repeat (first | refine Ex.go rfl rfl ?_ | refine Ex.gf rfl rfl (by assumption) (by rfl) (by first | rfl | assumption) ?_))
      refine Ex.br (fun c1 => ?_) (fun c1 => ?_)
      · rw [hb, hp, nI_leI (by omega) (by omega)] at c1
        omega
      (repeat (first | refine Ex.go rfl rfl ?_ | refine Ex.gf rfl rfl (by assumption) (by rfl) (by first | rfl | assumption) ?_))
      refine Ex.alq rfl hq ?_
      (repeat (first | refine Ex.go rfl rfl ?_ | refine Ex.gf rfl rfl (by assumption) (by rfl) (by first | rfl | assumption) ?_))
      refine Ex.br (fun c2 => ?_) (fun c2 => ?_)
      · have c3 : nI 24 ≤ b := c2
        rw [hb, nI_leI (by omega) (by omega)] at c3
        omega
      (repeat (first | refine Ex.go rfl rfl ?_ | refine Ex.gf rfl rfl (by assumption) (by rfl) (by first | rfl | assumption) ?_))
      refine Ex.aavw rfl hb hq (by omega) ?_
      (repeat (first | refine Ex.go rfl rfl ?_ | refine Ex.gf rfl rfl (by assumption) (by rfl) (by first | rfl | assumption) ?_))
      refine Ex.cv2 rfl rfl rfl hs1 (by rfl) (by decide) rfl ?_
      refine hB i (by omega) _ (fun r hr => ?_)
      (repeat (first | refine Ex.go rfl rfl ?_ | refine Ex.gf rfl rfl (by assumption) (by rfl) (by first | rfl | assumption) ?_))
      refine Ex.br (fun c4 => ?_) (fun c4 => ?_)
      · have c5 : c = -1 := c4
        (repeat (first | exact take r hr (Or.inl c5) | refine Ex.go rfl rfl ?_ | refine Ex.gf rfl rfl (by assumption) (by rfl) (by first | rfl | assumption) ?_))
      have c5 : ¬ c = -1 := c4
      (repeat (first | refine Ex.go rfl rfl ?_ | refine Ex.gf rfl rfl (by assumption) (by rfl) (by first | rfl | assumption) ?_))
      refine Ex.br (fun c6 => ?_) (fun c6 => ?_)
      · have c7 := Int32.le_iff_toInt_le.mp c6
        rw [hr] at c7
        have nx := nx c l
        rw [if_neg (fun z => z.elim c5 fun y => by omega)] at nx
        have nx := nx hc1 hl
        (repeat (first | exact nx | refine Ex.go rfl rfl ?_ | refine Ex.gf rfl rfl (by assumption) (by rfl) (by first | rfl | assumption) ?_))
      · have c7 := Int32.lt_iff_toInt_lt.mp (Int32.not_le.mp c6)
        rw [hr] at c7
        (repeat (first | exact take r hr (Or.inr c7) | refine Ex.go rfl rfl ?_ | refine Ex.gf rfl rfl (by assumption) (by rfl) (by first | rfl | assumption) ?_))
  refine Cx.body rfl rfl ?_
  have l0 := loop n 0 0 (-1) 0 rfl (by omega) rfl rfl
  (repeat (first | exact l0 | refine Ex.go rfl rfl ?_ | refine Ex.gf rfl rfl (by assumption) (by rfl) (by first | rfl | assumption) ?_))
end CV4

/-! The class's view: sums and least over its parts. -/
section CV2
variable {d : Nat} {G G1 : bo_G} {Q : Option Value → bo_G → Prop} {ro : Option Nat} {pc ve kn th sf mk st : Int32} {T : Nat → Int32} {n : Nat}
def smC (T : Nat → Int32) : Nat → Int32
  | 0 => 0
  | n + 1 => smC T n + T n
theorem v_tubes (h0 : G[12]? = some (vwC pc ro ve kn th sf mk st)) (hq : G[13]? = some (cQ 2 24 vwQ)) (hp : pc = nI n) (hn : n ≤ 24) (hc : ∀ i, i < n → ∃ fs, G[22 + 14 * i]? = some (cO 2 fs)) (hT : ∀ i, i < n → ∀ Q : Option Value → bo_G → Prop, Q (some (.int (T i))) G → Cx d mX2_tubes [.ref (22 + 14 * i)] G Q) (k : Q (some (.int (smC T n))) G) : Cx (d + 1) mX9_tubes [.ref 12] G Q := by
  have loop : ∀ (e i : Nat) (b c : Int32), b = nI i → i + e = n → c = smC T i → Ex (d + 1) mX9_tubes (4, [(0, .ref 12), (1, .int c), (2, .int b)], [], G) Q := by
    intro e
    induction e with
    | zero =>
      intro i b c hb hi hc1
      have hi' : i = n := by omega
      rw [← hi', ← hc1] at k
      have hb2 : pc ≤ b := by rw [hb, hp, hi']; exact nI_le (Nat.le_refl _) (by omega)
      clear hb hc1
      (repeat (first | refine Ex.go rfl rfl ?_ | refine Ex.gf rfl rfl (by assumption) (by rfl) (by first | rfl | assumption) ?_))
      refine Ex.br (fun c1 => ?_) (fun c1 => ?_); rotate_left
      · exact absurd hb2 c1
      (repeat (first | refine Ex.go rfl rfl ?_ | refine Ex.gf rfl rfl (by assumption) (by rfl) (by first | rfl | assumption) ?_))
      refine Ex.ret rfl rfl rfl ?_
      exact k
    | succ e ih =>
      intro i b c hb hi hc1
      obtain ⟨fs, hs1⟩ := hc i (by omega)
      have nx := ih (i + 1) (b + 1) (c + T i) (by rw [hb]; exact nI_1 i) (by omega) (by rw [hc1]; rfl)
      (repeat (first | refine Ex.go rfl rfl ?_ | refine Ex.gf rfl rfl (by assumption) (by rfl) (by first | rfl | assumption) ?_))
      refine Ex.br (fun c1 => ?_) (fun c1 => ?_)
      · rw [hb, hp, nI_leI (by omega) (by omega)] at c1
        omega
      (repeat (first | refine Ex.go rfl rfl ?_ | refine Ex.gf rfl rfl (by assumption) (by rfl) (by first | rfl | assumption) ?_))
      refine Ex.alq rfl hq ?_
      (repeat (first | refine Ex.go rfl rfl ?_ | refine Ex.gf rfl rfl (by assumption) (by rfl) (by first | rfl | assumption) ?_))
      refine Ex.br (fun c2 => ?_) (fun c2 => ?_)
      · have c3 : nI 24 ≤ b := c2
        rw [hb, nI_leI (by omega) (by omega)] at c3
        omega
      (repeat (first | refine Ex.go rfl rfl ?_ | refine Ex.gf rfl rfl (by assumption) (by rfl) (by first | rfl | assumption) ?_))
      refine Ex.aavw rfl hb hq (by omega) ?_
      (repeat (first | refine Ex.go rfl rfl ?_ | refine Ex.gf rfl rfl (by assumption) (by rfl) (by first | rfl | assumption) ?_))
      refine Ex.cv0 rfl rfl rfl hs1 (by rfl) (by decide) rfl ?_
      refine hT i (by omega) _ ?_
      (repeat (first | exact nx | refine Ex.go rfl rfl ?_ | refine Ex.gf rfl rfl (by assumption) (by rfl) (by first | rfl | assumption) ?_))
  refine Cx.body rfl rfl ?_
  have l0 := loop n 0 0 0 rfl (by omega) rfl
  (repeat (first | exact l0 | refine Ex.go rfl rfl ?_ | refine Ex.gf rfl rfl (by assumption) (by rfl) (by first | rfl | assumption) ?_))
theorem v_plugged (h0 : G[12]? = some (vwC pc ro ve kn th sf mk st)) (hq : G[13]? = some (cQ 2 24 vwQ)) (hp : pc = nI n) (hn : n ≤ 24) (hc : ∀ i, i < n → ∃ fs, G[22 + 14 * i]? = some (cO 2 fs)) (hT : ∀ i, i < n → ∀ Q : Option Value → bo_G → Prop, Q (some (.int (T i))) G → Cx d mX2_pluggedTubes [.ref (22 + 14 * i)] G Q) (k : Q (some (.int (smC T n))) G) : Cx (d + 1) mX9_pluggedTubes [.ref 12] G Q := by
  have loop : ∀ (e i : Nat) (b c : Int32), b = nI i → i + e = n → c = smC T i → Ex (d + 1) mX9_pluggedTubes (4, [(0, .ref 12), (1, .int c), (2, .int b)], [], G) Q := by
    intro e
    induction e with
    | zero =>
      intro i b c hb hi hc1
      have hi' : i = n := by omega
      rw [← hi', ← hc1] at k
      have hb2 : pc ≤ b := by rw [hb, hp, hi']; exact nI_le (Nat.le_refl _) (by omega)
      clear hb hc1
      (repeat (first | refine Ex.go rfl rfl ?_ | refine Ex.gf rfl rfl (by assumption) (by rfl) (by first | rfl | assumption) ?_))
      refine Ex.br (fun c1 => ?_) (fun c1 => ?_); rotate_left
      · exact absurd hb2 c1
      (repeat (first | refine Ex.go rfl rfl ?_ | refine Ex.gf rfl rfl (by assumption) (by rfl) (by first | rfl | assumption) ?_))
      refine Ex.ret rfl rfl rfl ?_
      exact k
    | succ e ih =>
      intro i b c hb hi hc1
      obtain ⟨fs, hs1⟩ := hc i (by omega)
      have nx := ih (i + 1) (b + 1) (c + T i) (by rw [hb]; exact nI_1 i) (by omega) (by rw [hc1]; rfl)
      (repeat (first | refine Ex.go rfl rfl ?_ | refine Ex.gf rfl rfl (by assumption) (by rfl) (by first | rfl | assumption) ?_))
      refine Ex.br (fun c1 => ?_) (fun c1 => ?_)
      · rw [hb, hp, nI_leI (by omega) (by omega)] at c1
        omega
      (repeat (first | refine Ex.go rfl rfl ?_ | refine Ex.gf rfl rfl (by assumption) (by rfl) (by first | rfl | assumption) ?_))
      refine Ex.alq rfl hq ?_
      (repeat (first | refine Ex.go rfl rfl ?_ | refine Ex.gf rfl rfl (by assumption) (by rfl) (by first | rfl | assumption) ?_))
      refine Ex.br (fun c2 => ?_) (fun c2 => ?_)
      · have c3 : nI 24 ≤ b := c2
        rw [hb, nI_leI (by omega) (by omega)] at c3
        omega
      (repeat (first | refine Ex.go rfl rfl ?_ | refine Ex.gf rfl rfl (by assumption) (by rfl) (by first | rfl | assumption) ?_))
      refine Ex.aavw rfl hb hq (by omega) ?_
      (repeat (first | refine Ex.go rfl rfl ?_ | refine Ex.gf rfl rfl (by assumption) (by rfl) (by first | rfl | assumption) ?_))
      refine Ex.cv0 rfl rfl rfl hs1 (by rfl) (by decide) rfl ?_
      refine hT i (by omega) _ ?_
      (repeat (first | exact nx | refine Ex.go rfl rfl ?_ | refine Ex.gf rfl rfl (by assumption) (by rfl) (by first | rfl | assumption) ?_))
  refine Cx.body rfl rfl ?_
  have l0 := loop n 0 0 0 rfl (by omega) rfl
  (repeat (first | exact l0 | refine Ex.go rfl rfl ?_ | refine Ex.gf rfl rfl (by assumption) (by rfl) (by first | rfl | assumption) ?_))
end CV2

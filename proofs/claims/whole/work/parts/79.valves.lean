/-! The class's view of the valves. -/
section CN
variable {d q : Nat} {G G1 : bo_G} {Q : Option Value → bo_G → Prop} {ss ds ps : List Int32}
def FN (q n : Nat) (G G' : bo_G) : Prop := G'.length = G.length ∧ ∀ j, ¬ (q ≤ j ∧ j < q + n) → G'[j]? = G[j]?
def VW (G : bo_G) (q : Nat) (ss ds ps : List Int32) : Prop := G[q]? = some (cO 7 [.ref (q + 1), .ref (q + 2), .ref (q + 3)]) ∧ (∃ c, G[q + 1]? = some (cR 6 c ss)) ∧ (∃ c, G[q + 2]? = some (cR 6 c ds)) ∧ (∃ c, G[q + 3]? = some (cR 6 c ps))
theorem FN.rfl' (q n : Nat) (G : bo_G) : FN q n G G := ⟨rfl, fun _ _ => rfl⟩
theorem FN.trans {n : Nat} {G2 : bo_G} (h : FN q n G G1) (h2 : FN q n G1 G2) : FN q n G G2 := ⟨h2.1.trans h.1, fun j hj => (h2.2 j hj).trans (h.2 j hj)⟩
theorem VW.of (h : VW G q ss ds ps) (e : ∀ j, q ≤ j → j < q + 4 → G1[j]? = G[j]?) : VW G1 q ss ds ps := by
  obtain ⟨h0, h1, h2, h3⟩ := h
  exact ⟨by rw [e q (by omega) (by omega)]; exact h0, by rw [e (q + 1) (by omega) (by omega)]; exact h1, by rw [e (q + 2) (by omega) (by omega)]; exact h2, by rw [e (q + 3) (by omega) (by omega)]; exact h3⟩
theorem VW.set1 (h : VW G q ss ds ps) (c : Nat) (xs : List Int32) : VW (G.set (q + 1) (cR 6 c xs)) q xs ds ps ∧ FN q 4 G (G.set (q + 1) (cR 6 c xs)) := by
  obtain ⟨h0, ⟨c1, h1⟩, h2, h3⟩ := h
  refine ⟨⟨?_, ⟨c, List.getElem?_set_self (List.getElem?_eq_some_iff.mp h1).1⟩, ?_, ?_⟩, List.length_set, fun j hj => List.getElem?_set_ne (by omega)⟩ <;> rw [List.getElem?_set_ne (by omega)] <;> assumption
theorem VW.set2 (h : VW G q ss ds ps) (c : Nat) (xs : List Int32) : VW (G.set (q + 2) (cR 6 c xs)) q ss xs ps ∧ FN q 4 G (G.set (q + 2) (cR 6 c xs)) := by
  obtain ⟨h0, h1, ⟨c2, h2⟩, h3⟩ := h
  refine ⟨⟨?_, ?_, ⟨c, List.getElem?_set_self (List.getElem?_eq_some_iff.mp h2).1⟩, ?_⟩, List.length_set, fun j hj => List.getElem?_set_ne (by omega)⟩ <;> rw [List.getElem?_set_ne (by omega)] <;> assumption
theorem VW.set3 (h : VW G q ss ds ps) (c : Nat) (xs : List Int32) : VW (G.set (q + 3) (cR 6 c xs)) q ss ds xs ∧ FN q 4 G (G.set (q + 3) (cR 6 c xs)) := by
  obtain ⟨h0, h1, h2, ⟨c3, h3⟩⟩ := h
  refine ⟨⟨?_, ?_, ?_, ⟨c, List.getElem?_set_self (List.getElem?_eq_some_iff.mp h3).1⟩⟩, List.length_set, fun j hj => List.getElem?_set_ne (by omega)⟩ <;> rw [List.getElem?_set_ne (by omega)] <;> assumption
theorem vw_clear (h : VW G q ss ds ps) (l1 : ss.length ≤ 6) (l2 : ds.length ≤ 6) (l3 : ps.length ≤ 6) (k : ∀ G', VW G' q [] [] [] → FN q 4 G G' → Q none G') : Cx (d + 1) mX7_clear [.ref q] G Q := by
  have a0 := h.1
  obtain ⟨c1, a1⟩ := h.2.1
  refine Cx.body rfl rfl ?_
  (repeat (first | refine Ex.go rfl rfl ?_ | refine Ex.gf rfl rfl (by assumption) (by rfl) (by first | rfl | assumption) ?_))
  refine Ex.cv1 rfl rfl rfl a1 (by rfl) (by decide) rfl ?_
  refine s_cut a1 (by omega) ?_
  rw [show rcut (Int32.ofInt 0) ss = [] from rcut_0 _]
  obtain ⟨h2, F2⟩ := h.set1 c1 []
  have a0 := h2.1
  obtain ⟨c2, a2⟩ := h2.2.2.1
  generalize G.set (q + 1) (cR 6 c1 []) = G2 at *
  (repeat (first | refine Ex.go rfl rfl ?_ | refine Ex.gf rfl rfl (by assumption) (by rfl) (by first | rfl | assumption) ?_))
  refine Ex.cv1 rfl rfl rfl a2 (by rfl) (by decide) rfl ?_
  refine s_cut a2 (by omega) ?_
  rw [show rcut (Int32.ofInt 0) ds = [] from rcut_0 _]
  obtain ⟨h3, F3⟩ := h2.set2 c2 []
  have a0 := h3.1
  obtain ⟨c3, a3⟩ := h3.2.2.2
  generalize G2.set (q + 2) (cR 6 c2 []) = G3 at *
  (repeat (first | refine Ex.go rfl rfl ?_ | refine Ex.gf rfl rfl (by assumption) (by rfl) (by first | rfl | assumption) ?_))
  refine Ex.cv1 rfl rfl rfl a3 (by rfl) (by decide) rfl ?_
  refine s_cut a3 (by omega) ?_
  rw [show rcut (Int32.ofInt 0) ps = [] from rcut_0 _]
  obtain ⟨h4, F4⟩ := h3.set3 c3 []
  have k := k _ h4 ((F2.trans F3).trans F4)
  (repeat (first | refine Ex.go rfl rfl ?_ | refine Ex.gf rfl rfl (by assumption) (by rfl) (by first | rfl | assumption) ?_))
  refine Ex.ret rfl rfl rfl ?_
  exact k
theorem vw_add3 {v1 v2 v3 : Int32} (h : VW G q ss ds ps) (l1 : ss.length < 6) (l2 : ds.length < 6) (l3 : ps.length < 6) (k : ∀ G', VW G' q (ss ++ [v1]) (ds ++ [v2]) (ps ++ [v3]) → FN q 4 G G' → Q none G') : Cx (d + 3) mX7_add [.ref q, .int v1, .int v3, .int v2] G Q := by
  have a0 := h.1
  obtain ⟨c1, a1⟩ := h.2.1
  refine Cx.body rfl rfl ?_
  (repeat (first | refine Ex.go rfl rfl ?_ | refine Ex.gf rfl rfl (by assumption) (by rfl) (by first | rfl | assumption) ?_))
  refine Ex.cv1 rfl rfl rfl a1 (by rfl) (by decide) rfl ?_
  refine Cx.radd a1 ?_
  rw [show bo_add 6 ss v1 = ss ++ [v1] from if_pos l1]
  generalize bo_cap 6 c1 ss.length = e1
  obtain ⟨h2, F2⟩ := h.set1 e1 (ss ++ [v1])
  have a0 := h2.1
  obtain ⟨c2, a2⟩ := h2.2.2.1
  generalize G.set (q + 1) (cR 6 e1 (ss ++ [v1])) = G2 at *
  (repeat (first | refine Ex.go rfl rfl ?_ | refine Ex.gf rfl rfl (by assumption) (by rfl) (by first | rfl | assumption) ?_))
  refine Ex.cv1 rfl rfl rfl a2 (by rfl) (by decide) rfl ?_
  refine Cx.radd a2 ?_
  rw [show bo_add 6 ds v2 = ds ++ [v2] from if_pos l2]
  generalize bo_cap 6 c2 ds.length = e2
  obtain ⟨h3, F3⟩ := h2.set2 e2 (ds ++ [v2])
  have a0 := h3.1
  obtain ⟨c3, a3⟩ := h3.2.2.2
  generalize G2.set (q + 2) (cR 6 e2 (ds ++ [v2])) = G3 at *
  (repeat (first | refine Ex.go rfl rfl ?_ | refine Ex.gf rfl rfl (by assumption) (by rfl) (by first | rfl | assumption) ?_))
  refine Ex.cv1 rfl rfl rfl a3 (by rfl) (by decide) rfl ?_
  refine Cx.radd a3 ?_
  rw [show bo_add 6 ps v3 = ps ++ [v3] from if_pos l3]
  obtain ⟨h4, F4⟩ := h3.set3 (bo_cap 6 c3 ps.length) (ps ++ [v3])
  have k := k _ h4 ((F2.trans F3).trans F4)
  (repeat (first | refine Ex.go rfl rfl ?_ | refine Ex.gf rfl rfl (by assumption) (by rfl) (by first | rfl | assumption) ?_))
  refine Ex.ret rfl rfl rfl ?_
  exact k
theorem vw_later (h : VW G q ss ds ps) (l1 : ss.length < 6) (l2 : ds.length < 6) (l3 : ps.length < 6) (k : ∀ G', VW G' q (ss ++ [0]) (ds ++ [-1]) (ps ++ [0]) → FN q 4 G G' → Q none G') : Cx (d + 3) mX7_addLater [.ref q] G Q := by
  have a0 := h.1
  obtain ⟨c1, a1⟩ := h.2.1
  refine Cx.body rfl rfl ?_
  (repeat (first | refine Ex.go rfl rfl ?_ | refine Ex.gf rfl rfl (by assumption) (by rfl) (by first | rfl | assumption) ?_))
  refine Ex.cv1 rfl rfl rfl a1 (by rfl) (by decide) rfl ?_
  refine Cx.radd a1 ?_
  rw [show bo_add 6 ss (Int32.ofInt 0) = ss ++ [0] from if_pos l1]
  generalize bo_cap 6 c1 ss.length = e1
  obtain ⟨h2, F2⟩ := h.set1 e1 (ss ++ [0])
  have a0 := h2.1
  obtain ⟨c2, a2⟩ := h2.2.2.1
  generalize G.set (q + 1) (cR 6 e1 (ss ++ [0])) = G2 at *
  (repeat (first | refine Ex.go rfl rfl ?_ | refine Ex.gf rfl rfl (by assumption) (by rfl) (by first | rfl | assumption) ?_))
  refine Ex.cv1 rfl rfl rfl a2 (by rfl) (by decide) rfl ?_
  refine Cx.radd a2 ?_
  rw [show bo_add 6 ds (Int32.ofInt (-1)) = ds ++ [-1] from if_pos l2]
  generalize bo_cap 6 c2 ds.length = e2
  obtain ⟨h3, F3⟩ := h2.set2 e2 (ds ++ [-1])
  have a0 := h3.1
  obtain ⟨c3, a3⟩ := h3.2.2.2
  generalize G2.set (q + 2) (cR 6 e2 (ds ++ [-1])) = G3 at *
  (repeat (first | refine Ex.go rfl rfl ?_ | refine Ex.gf rfl rfl (by assumption) (by rfl) (by first | rfl | assumption) ?_))
  refine Ex.cv1 rfl rfl rfl a3 (by rfl) (by decide) rfl ?_
  refine Cx.radd a3 ?_
  rw [show bo_add 6 ps (Int32.ofInt 0) = ps ++ [0] from if_pos l3]
  obtain ⟨h4, F4⟩ := h3.set3 (bo_cap 6 c3 ps.length) (ps ++ [0])
  have k := k _ h4 ((F2.trans F3).trans F4)
  (repeat (first | refine Ex.go rfl rfl ?_ | refine Ex.gf rfl rfl (by assumption) (by rfl) (by first | rfl | assumption) ?_))
  refine Ex.ret rfl rfl rfl ?_
  exact k
theorem vw_set {v st dd : Int32} (h : VW G q ss ds ps) (k0 : dd < bo_at ds v → Q none G) (k1 : bo_at ds v ≤ dd → ∀ G', VW G' q (bo_put ss v st) (bo_put ds v dd) ps → FN q 4 G G' → Q none G') : Cx (d + 3) mX7_takeSet [.ref q, .int v, .int st, .int dd] G Q := by
  have a0 := h.1
  obtain ⟨c1, a1⟩ := h.2.1
  obtain ⟨c2, a2⟩ := h.2.2.1
  refine Cx.body rfl rfl ?_
  (repeat (first | refine Ex.go rfl rfl ?_ | refine Ex.gf rfl rfl (by assumption) (by rfl) (by first | rfl | assumption) ?_))
  refine Ex.cv1 rfl rfl rfl a2 (by rfl) (by decide) rfl ?_
  refine Cx.rat a2 ?_
  (repeat (first | refine Ex.go rfl rfl ?_ | refine Ex.gf rfl rfl (by assumption) (by rfl) (by first | rfl | assumption) ?_))
  refine Ex.br (fun b1 => ?_) (fun b1 => ?_)
  · have k := k0 b1
    (repeat (first | refine Ex.go rfl rfl ?_ | refine Ex.gf rfl rfl (by assumption) (by rfl) (by first | rfl | assumption) ?_))
    refine Ex.ret rfl rfl rfl ?_
    exact k
  have k := k1 (Int32.not_lt.mp b1)
  (repeat (first | refine Ex.go rfl rfl ?_ | refine Ex.gf rfl rfl (by assumption) (by rfl) (by first | rfl | assumption) ?_))
  refine Ex.cv2 rfl rfl rfl a1 (by rfl) (by decide) rfl ?_
  refine Cx.rput a1 ?_
  obtain ⟨h2, F2⟩ := h.set1 c1 (bo_put ss v st)
  have a0 := h2.1
  obtain ⟨c3, a3⟩ := h2.2.2.1
  generalize G.set (q + 1) (cR 6 c1 (bo_put ss v st)) = G2 at *
  (repeat (first | refine Ex.go rfl rfl ?_ | refine Ex.gf rfl rfl (by assumption) (by rfl) (by first | rfl | assumption) ?_))
  refine Ex.cv2 rfl rfl rfl a3 (by rfl) (by decide) rfl ?_
  refine Cx.rput a3 ?_
  obtain ⟨h4, F4⟩ := h2.set2 c3 (bo_put ds v dd)
  have k := k _ h4 (F2.trans F4)
  (repeat (first | refine Ex.go rfl rfl ?_ | refine Ex.gf rfl rfl (by assumption) (by rfl) (by first | rfl | assumption) ?_))
  refine Ex.ret rfl rfl rfl ?_
  exact k
def pssC (ps : List Int32) : Nat → Int32
  | 0 => 0
  | n + 1 => pssC ps n + bo_at ps (nI n)
theorem vw_pass (h : VW G q ss ds ps) (l3 : ps.length ≤ 6) (k : Q (some (.int (pssC ps ps.length))) G) : Cx (d + 1) mX7_passTogether [.ref q] G Q := by
  have a0 := h.1
  obtain ⟨c3, a3⟩ := h.2.2.2
  have loop : ∀ (e i : Nat) (b c : Int32), b = nI i → i + e = ps.length → c = pssC ps i → Ex (d + 1) mX7_passTogether (4, [(0, .ref q), (1, .int c), (2, .int b)], [], G) Q := by
    intro e
    induction e with
    | zero =>
      intro i b c hb hi hc
      have hi' : i = ps.length := by omega
      rw [← hi', ← hc] at k
      have hb2 : nI ps.length ≤ b := by rw [hb, hi']; exact nI_le (Nat.le_refl _) (by omega)
      clear hb hc
      (repeat (first | refine Ex.go rfl rfl ?_ | refine Ex.gf rfl rfl (by assumption) (by rfl) (by first | rfl | assumption) ?_))
      refine Ex.cv0 rfl rfl rfl a3 (by rfl) (by decide) rfl ?_
      refine s_size a3 ?_
      (repeat (first | refine Ex.go rfl rfl ?_ | refine Ex.gf rfl rfl (by assumption) (by rfl) (by first | rfl | assumption) ?_))
      refine Ex.br (fun c1 => ?_) (fun c1 => ?_); rotate_left
      · exact absurd hb2 c1
      (repeat (first | refine Ex.go rfl rfl ?_ | refine Ex.gf rfl rfl (by assumption) (by rfl) (by first | rfl | assumption) ?_))
      refine Ex.ret rfl rfl rfl ?_
      exact k
    | succ e ih =>
      intro i b c hb hi hc
      have nx := ih (i + 1) (b + 1) (c + bo_at ps (nI i)) (by rw [hb]; exact nI_1 i) (by omega) (by rw [hc]; rfl)
      (repeat (first | refine Ex.go rfl rfl ?_ | refine Ex.gf rfl rfl (by assumption) (by rfl) (by first | rfl | assumption) ?_))
      refine Ex.cv0 rfl rfl rfl a3 (by rfl) (by decide) rfl ?_
      refine s_size a3 ?_
      (repeat (first | refine Ex.go rfl rfl ?_ | refine Ex.gf rfl rfl (by assumption) (by rfl) (by first | rfl | assumption) ?_))
      refine Ex.br (fun c1 => ?_) (fun c1 => ?_)
      · have c2 : nI ps.length ≤ b := c1
        rw [hb, nI_leI (by omega) (by omega)] at c2
        omega
      (repeat (first | refine Ex.go rfl rfl ?_ | refine Ex.gf rfl rfl (by assumption) (by rfl) (by first | rfl | assumption) ?_))
      refine Ex.cv1 rfl rfl rfl a3 (by rfl) (by decide) rfl ?_
      refine Cx.ratE a3 (by rw [hb]) ?_
      (repeat (first | exact nx | refine Ex.go rfl rfl ?_ | refine Ex.gf rfl rfl (by assumption) (by rfl) (by first | rfl | assumption) ?_))
  refine Cx.body rfl rfl ?_
  have l0 := loop ps.length 0 0 0 rfl (by omega) rfl
  (repeat (first | exact l0 | refine Ex.go rfl rfl ?_ | refine Ex.gf rfl rfl (by assumption) (by rfl) (by first | rfl | assumption) ?_))
end CN

/-! The class's sheet. -/
section CR1
variable {d q : Nat} {G G1 : bo_G} {Q : Option Value → bo_G → Prop} {es : List Int32} {sh : Int32}
def HW (G : bo_G) (q : Nat) (sh : Int32) (es : List Int32) : Prop := G[q]? = some (cO 5 [.ref (q + 1), .int sh]) ∧ ∃ c, G[q + 1]? = some (cR 40 c es)
theorem HW.of (h : HW G q sh es) (e : ∀ j, q ≤ j → j < q + 2 → G1[j]? = G[j]?) : HW G1 q sh es := by
  obtain ⟨h0, h1⟩ := h
  exact ⟨by rw [e q (by omega) (by omega)]; exact h0, by rw [e (q + 1) (by omega) (by omega)]; exact h1⟩
theorem HW.setO (h : HW G q sh es) (sh' : Int32) : HW (G.set q (cO 5 [.ref (q + 1), .int sh'])) q sh' es ∧ FN q 2 G (G.set q (cO 5 [.ref (q + 1), .int sh'])) := by
  obtain ⟨h0, h1⟩ := h
  refine ⟨⟨List.getElem?_set_self (List.getElem?_eq_some_iff.mp h0).1, ?_⟩, List.length_set, fun j hj => List.getElem?_set_ne (by omega)⟩
  rw [List.getElem?_set_ne (by omega)]
  exact h1
theorem HW.setR (h : HW G q sh es) (c : Nat) (xs : List Int32) : HW (G.set (q + 1) (cR 40 c xs)) q sh xs ∧ FN q 2 G (G.set (q + 1) (cR 40 c xs)) := by
  obtain ⟨h0, ⟨c1, h1⟩⟩ := h
  refine ⟨⟨?_, ⟨c, List.getElem?_set_self (List.getElem?_eq_some_iff.mp h1).1⟩⟩, List.length_set, fun j hj => List.getElem?_set_ne (by omega)⟩
  rw [List.getElem?_set_ne (by omega)]
  exact h0
theorem hw_there (h : HW G q sh es) (k : Q (some (.int (bo_b (¬ sh = -1)))) G) : Cx d mX5_isThere [.ref q] G Q := by
  have a0 := h.1
  refine Cx.body rfl rfl ?_
  (repeat (first | refine Ex.go rfl rfl ?_ | refine Ex.gf rfl rfl (by assumption) (by rfl) (by first | rfl | assumption) ?_))
  refine Ex.br (fun c1 => ?_) (fun c1 => ?_)
  · have n1 : sh = -1 := Decidable.not_not.mp (by simpa using c1)
    rw [bo_b_f (fun z => z n1)] at k
    (repeat (first | refine Ex.go rfl rfl ?_ | refine Ex.gf rfl rfl (by assumption) (by rfl) (by first | rfl | assumption) ?_))
    exact Ex.retz rfl rfl rfl (Or.inl rfl) k
  have n1 : ¬ sh = -1 := by simpa using c1
  rw [bo_b_t n1] at k
  (repeat (first | refine Ex.go rfl rfl ?_ | refine Ex.gf rfl rfl (by assumption) (by rfl) (by first | rfl | assumption) ?_))
  exact Ex.retz rfl rfl rfl (Or.inr rfl) k
theorem hw_drop (h : HW G q sh es) (l : es.length ≤ 40) (k : ∀ G', HW G' q (-1) [] → FN q 2 G G' → Q none G') : Cx (d + 1) mX5_drop [.ref q] G Q := by
  have a0 := h.1
  have hA := ap1 a0
  refine Cx.body rfl rfl ?_
  refine Ex.lay [(q, cO 5 [.ref (q + 1), .int sh])] (lay1 a0) ?_
  obtain ⟨h2, F2⟩ := h.setO (-1)
  obtain ⟨c, a1⟩ := h2.2
  have a1' : (ov G [(q, cO 5 [.ref (q + 1), .int (-1)])])[q + 1]? = some (cR 40 c es) := a1
  obtain ⟨h3, F3⟩ := h2.setR c []
  have k := k _ h3 (F2.trans F3)
  (repeat (first | refine Ex.go rfl rfl ?_ | refine Ex.gf rfl rfl (ov_get hA 0 rfl) (by rfl) (by rfl) ?_ | refine Ex.gf rfl rfl (ov_get hA 1 rfl) (by rfl) (by rfl) ?_ | refine Ex.gf rfl rfl (ov_get hA 2 rfl) (by rfl) (by rfl) ?_ | refine Ex.gf rfl rfl (ov_get hA 3 rfl) (by rfl) (by rfl) ?_ | refine Ex.gf rfl rfl (ov_get hA 4 rfl) (by rfl) (by rfl) ?_ | refine Ex.gf rfl rfl (ov_get hA 5 rfl) (by rfl) (by rfl) ?_ | refine Ex.gf rfl rfl (ov_get hA 6 rfl) (by rfl) (by rfl) ?_ | (refine Ex.pfo hA 0 rfl rfl rfl (by rfl) (by rfl) (by rfl) ?_; dsimp only [List.set]) | (refine Ex.pfo hA 1 rfl rfl rfl (by rfl) (by rfl) (by rfl) ?_; dsimp only [List.set]) | (refine Ex.pfo hA 2 rfl rfl rfl (by rfl) (by rfl) (by rfl) ?_; dsimp only [List.set]) | (refine Ex.pfo hA 3 rfl rfl rfl (by rfl) (by rfl) (by rfl) ?_; dsimp only [List.set]) | (refine Ex.pfo hA 4 rfl rfl rfl (by rfl) (by rfl) (by rfl) ?_; dsimp only [List.set]) | (refine Ex.pfo hA 5 rfl rfl rfl (by rfl) (by rfl) (by rfl) ?_; dsimp only [List.set]) | (refine Ex.pfo hA 6 rfl rfl rfl (by rfl) (by rfl) (by rfl) ?_; dsimp only [List.set])))
  refine Ex.cv1 rfl rfl rfl a1' (by rfl) (by decide) rfl ?_
  refine s_cut a1' (by omega) ?_
  rw [show rcut (Int32.ofInt 0) es = [] from rcut_0 _]
  (repeat (first | refine Ex.go rfl rfl ?_ | refine Ex.gf rfl rfl (by assumption) (by rfl) (by first | rfl | assumption) ?_))
  refine Ex.ret rfl rfl rfl ?_
  exact k
theorem hw_write {i v : Int32} (h : HW G q sh es) (l : es.length ≤ 40) (k0 : ¬ (0 ≤ i.toInt ∧ i.toInt < es.length) → Q (some (.int 0)) G) (k1 : 0 ≤ i.toInt ∧ i.toInt < es.length → ∀ G', HW G' q sh (bo_put es i v) → FN q 2 G G' → Q (some (.int 1)) G') : Cx (d + 1) mX5_write [.ref q, .int i, .int v] G Q := by
  obtain ⟨a0, c, a1⟩ := id h
  have e40 : (nI es.length).toInt = es.length := nI_toInt (by omega)
  refine Cx.body rfl rfl ?_
  (repeat (first | refine Ex.go rfl rfl ?_ | refine Ex.gf rfl rfl (by assumption) (by rfl) (by first | rfl | assumption) ?_))
  refine Ex.br (fun b1 => ?_) (fun b1 => ?_)
  · have k := k0 fun z => absurd b1 (Int32.not_lt.mpr (Int32.le_iff_toInt_le.mpr z.1))
    (repeat (first | refine Ex.go rfl rfl ?_ | refine Ex.gf rfl rfl (by assumption) (by rfl) (by first | rfl | assumption) ?_))
    exact Ex.retz rfl rfl rfl (Or.inl rfl) k
  have b2 := Int32.le_iff_toInt_le.mp (Int32.not_lt.mp b1)
  (repeat (first | refine Ex.go rfl rfl ?_ | refine Ex.gf rfl rfl (by assumption) (by rfl) (by first | rfl | assumption) ?_))
  refine Ex.cv0 rfl rfl rfl a1 (by rfl) (by decide) rfl ?_
  refine s_size a1 ?_
  (repeat (first | refine Ex.go rfl rfl ?_ | refine Ex.gf rfl rfl (by assumption) (by rfl) (by first | rfl | assumption) ?_))
  refine Ex.br (fun b3 => ?_) (fun b3 => ?_)
  · have b4 := Int32.lt_iff_toInt_lt.mp b3
    have b5 : i.toInt < (nI es.length).toInt := b4
    rw [e40] at b5
    obtain ⟨h2, F2⟩ := h.setR c (bo_put es i v)
    have k := k1 ⟨b2, b5⟩ _ h2 F2
    (repeat (first | refine Ex.go rfl rfl ?_ | refine Ex.gf rfl rfl (by assumption) (by rfl) (by first | rfl | assumption) ?_))
    refine Ex.cv2 rfl rfl rfl a1 (by rfl) (by decide) rfl ?_
    refine Cx.rput a1 ?_
    (repeat (first | refine Ex.go rfl rfl ?_ | refine Ex.gf rfl rfl (by assumption) (by rfl) (by first | rfl | assumption) ?_))
    exact Ex.retz rfl rfl rfl (Or.inr rfl) k
  · have k := k0 fun z => b3 (Int32.lt_iff_toInt_lt.mpr (show i.toInt < (nI es.length).toInt by rw [e40]; exact z.2))
    (repeat (first | refine Ex.go rfl rfl ?_ | refine Ex.gf rfl rfl (by assumption) (by rfl) (by first | rfl | assumption) ?_))
    exact Ex.retz rfl rfl rfl (Or.inl rfl) k
theorem hw_begin {kd n : Int32} (h : HW G q sh es) (k0 : shtI kd n < 0 → Q (some (.int (shtI kd n))) G) (k1 : shtI kd n = 0 → ∀ G' m, m ≤ 40 → m = (if kd = 2 then 0 else n.toNatClampNeg) → HW G' q kd (List.replicate m 0) → FN q 2 G G' → Q (some (.int (nI m))) G') : Cx (d + 4) mX5_begin [.ref q, .int kd, .int n] G Q := by
  have a0 := h.1
  have e2 : (2 : Int32).toInt = 2 := rfl
  have e4 : (40 : Int32).toInt = 40 := rfl
  have st : shtI kd n = if ¬ rng kd 0 2 ∨ 40 < n.toInt then -2 else if kd.toInt < 2 ∧ n.toInt < 0 then -3 else 0 := rfl
  have bad : (¬ rng kd 0 2 ∨ 40 < n.toInt) → Q (some (.int (Int32.ofInt (-2)))) G := fun z => by
    rw [if_pos z] at st
    rw [st] at k0
    exact k0 (by decide)
  have go : ∀ m, m ≤ 40 → shtI kd n = 0 → m = (if kd = 2 then 0 else n.toNatClampNeg) → (kd = 2 ∨ n = nI m) → Ex (d + 4) mX5_begin (30, [(0, .ref q), (1, .int kd), (2, .int n)], [], G) Q := by
    intro m hm hs hmm hn
    have hA := ap1 a0
    obtain ⟨h2, F2⟩ := h.setO kd
    obtain ⟨c, a1⟩ := h2.2
    have a00 := h2.1
    have fin : ∀ e1, Ex (d + 4) mX5_begin (53, [(0, .ref q), (1, .int kd), (2, .int n)], [], (G.set q (cO 5 [.ref (q + 1), .int kd])).set (q + 1) (cR 40 e1 (List.replicate (min m 40) 0))) Q := by
      intro e1
      rw [show min m 40 = m by omega]
      obtain ⟨h3, F3⟩ := h2.setR e1 (List.replicate m 0)
      have k := k1 hs _ m hm hmm h3 (F2.trans F3)
      have b0 := h3.1
      obtain ⟨c4, b1⟩ := h3.2
      (repeat (first | refine Ex.go rfl rfl ?_ | refine Ex.gf rfl rfl (by assumption) (by rfl) (by first | rfl | assumption) ?_))
      refine Ex.cv0 rfl rfl rfl b1 (by rfl) (by decide) rfl ?_
      refine s_size b1 ?_
      rw [List.length_replicate]
      (repeat (first | refine Ex.go rfl rfl ?_ | refine Ex.gf rfl rfl (by assumption) (by rfl) (by first | rfl | assumption) ?_))
      refine Ex.ret rfl rfl rfl ?_
      exact k
    refine Ex.lay [(q, cO 5 [.ref (q + 1), .int sh])] (lay1 a0) ?_
    have a1' : (ov G [(q, cO 5 [.ref (q + 1), .int kd])])[q + 1]? = some (cR 40 c es) := a1
    (repeat (first | refine Ex.go rfl rfl ?_ | refine Ex.gf rfl rfl (ov_get hA 0 rfl) (by rfl) (by rfl) ?_ | refine Ex.gf rfl rfl (ov_get hA 1 rfl) (by rfl) (by rfl) ?_ | refine Ex.gf rfl rfl (ov_get hA 2 rfl) (by rfl) (by rfl) ?_ | refine Ex.gf rfl rfl (ov_get hA 3 rfl) (by rfl) (by rfl) ?_ | refine Ex.gf rfl rfl (ov_get hA 4 rfl) (by rfl) (by rfl) ?_ | refine Ex.gf rfl rfl (ov_get hA 5 rfl) (by rfl) (by rfl) ?_ | refine Ex.gf rfl rfl (ov_get hA 6 rfl) (by rfl) (by rfl) ?_ | (refine Ex.pfo hA 0 rfl rfl rfl (by rfl) (by rfl) (by rfl) ?_; dsimp only [List.set]) | (refine Ex.pfo hA 1 rfl rfl rfl (by rfl) (by rfl) (by rfl) ?_; dsimp only [List.set]) | (refine Ex.pfo hA 2 rfl rfl rfl (by rfl) (by rfl) (by rfl) ?_; dsimp only [List.set]) | (refine Ex.pfo hA 3 rfl rfl rfl (by rfl) (by rfl) (by rfl) ?_; dsimp only [List.set]) | (refine Ex.pfo hA 4 rfl rfl rfl (by rfl) (by rfl) (by rfl) ?_; dsimp only [List.set]) | (refine Ex.pfo hA 5 rfl rfl rfl (by rfl) (by rfl) (by rfl) ?_; dsimp only [List.set]) | (refine Ex.pfo hA 6 rfl rfl rfl (by rfl) (by rfl) (by rfl) ?_; dsimp only [List.set])))
    refine Ex.br (fun c1 => ?_) (fun c1 => ?_)
    · have n1 : ¬ kd = 2 := c1
      have n2 := hn.resolve_left n1
      (repeat (first | refine Ex.go rfl rfl ?_ | refine Ex.gf rfl rfl (ov_get hA 0 rfl) (by rfl) (by rfl) ?_ | refine Ex.gf rfl rfl (ov_get hA 1 rfl) (by rfl) (by rfl) ?_ | refine Ex.gf rfl rfl (ov_get hA 2 rfl) (by rfl) (by rfl) ?_ | refine Ex.gf rfl rfl (ov_get hA 3 rfl) (by rfl) (by rfl) ?_ | refine Ex.gf rfl rfl (ov_get hA 4 rfl) (by rfl) (by rfl) ?_ | refine Ex.gf rfl rfl (ov_get hA 5 rfl) (by rfl) (by rfl) ?_ | refine Ex.gf rfl rfl (ov_get hA 6 rfl) (by rfl) (by rfl) ?_ | (refine Ex.pfo hA 0 rfl rfl rfl (by rfl) (by rfl) (by rfl) ?_; dsimp only [List.set]) | (refine Ex.pfo hA 1 rfl rfl rfl (by rfl) (by rfl) (by rfl) ?_; dsimp only [List.set]) | (refine Ex.pfo hA 2 rfl rfl rfl (by rfl) (by rfl) (by rfl) ?_; dsimp only [List.set]) | (refine Ex.pfo hA 3 rfl rfl rfl (by rfl) (by rfl) (by rfl) ?_; dsimp only [List.set]) | (refine Ex.pfo hA 4 rfl rfl rfl (by rfl) (by rfl) (by rfl) ?_; dsimp only [List.set]) | (refine Ex.pfo hA 5 rfl rfl rfl (by rfl) (by rfl) (by rfl) ?_; dsimp only [List.set]) | (refine Ex.pfo hA 6 rfl rfl rfl (by rfl) (by rfl) (by rfl) ?_; dsimp only [List.set])))
      refine Ex.cv2 rfl rfl rfl a1' (by rfl) (by decide) rfl ?_
      rw [n2]
      refine s_refill a1' (by decide) (by omega) (fun e1 => ?_)
      have fin := fin e1
      rw [n2] at fin
      (repeat (first | exact fin | refine Ex.go rfl rfl ?_ | refine Ex.gf rfl rfl (by assumption) (by rfl) (by first | rfl | assumption) ?_))
    · have n1 : kd = 2 := Decidable.not_not.mp c1
      rw [if_pos n1] at hmm
      subst hmm
      (repeat (first | refine Ex.go rfl rfl ?_ | refine Ex.gf rfl rfl (ov_get hA 0 rfl) (by rfl) (by rfl) ?_ | refine Ex.gf rfl rfl (ov_get hA 1 rfl) (by rfl) (by rfl) ?_ | refine Ex.gf rfl rfl (ov_get hA 2 rfl) (by rfl) (by rfl) ?_ | refine Ex.gf rfl rfl (ov_get hA 3 rfl) (by rfl) (by rfl) ?_ | refine Ex.gf rfl rfl (ov_get hA 4 rfl) (by rfl) (by rfl) ?_ | refine Ex.gf rfl rfl (ov_get hA 5 rfl) (by rfl) (by rfl) ?_ | refine Ex.gf rfl rfl (ov_get hA 6 rfl) (by rfl) (by rfl) ?_ | (refine Ex.pfo hA 0 rfl rfl rfl (by rfl) (by rfl) (by rfl) ?_; dsimp only [List.set]) | (refine Ex.pfo hA 1 rfl rfl rfl (by rfl) (by rfl) (by rfl) ?_; dsimp only [List.set]) | (refine Ex.pfo hA 2 rfl rfl rfl (by rfl) (by rfl) (by rfl) ?_; dsimp only [List.set]) | (refine Ex.pfo hA 3 rfl rfl rfl (by rfl) (by rfl) (by rfl) ?_; dsimp only [List.set]) | (refine Ex.pfo hA 4 rfl rfl rfl (by rfl) (by rfl) (by rfl) ?_; dsimp only [List.set]) | (refine Ex.pfo hA 5 rfl rfl rfl (by rfl) (by rfl) (by rfl) ?_; dsimp only [List.set]) | (refine Ex.pfo hA 6 rfl rfl rfl (by rfl) (by rfl) (by rfl) ?_; dsimp only [List.set])))
      refine Ex.cv2 rfl rfl rfl a1' (by rfl) (by decide) rfl ?_
      refine s_refill (n := 0) a1' (by decide) (by omega) (fun e1 => ?_)
      have fin := fin e1
      (repeat (first | exact fin | refine Ex.go rfl rfl ?_ | refine Ex.gf rfl rfl (by assumption) (by rfl) (by first | rfl | assumption) ?_))
  refine Cx.body rfl rfl ?_
  (repeat (first | refine Ex.go rfl rfl ?_ | refine Ex.gf rfl rfl (by assumption) (by rfl) (by first | rfl | assumption) ?_))
  refine Ex.br (fun b1 => ?_) (fun b1 => ?_)
  · have bad := bad (Or.inl fun z => absurd b1 (Int32.not_lt.mpr (Int32.le_iff_toInt_le.mpr z.1)))
    (repeat (first | refine Ex.go rfl rfl ?_ | refine Ex.gf rfl rfl (by assumption) (by rfl) (by first | rfl | assumption) ?_))
    refine Ex.ret rfl rfl rfl ?_
    exact bad
  have b2 := Int32.le_iff_toInt_le.mp (Int32.not_lt.mp b1)
  have b2' : (0 : Int) ≤ kd.toInt := b2
  (repeat (first | refine Ex.go rfl rfl ?_ | refine Ex.gf rfl rfl (by assumption) (by rfl) (by first | rfl | assumption) ?_))
  refine Ex.br (fun b3 => ?_) (fun b3 => ?_)
  · have b4 : (2 : Int32).toInt < kd.toInt := Int32.lt_iff_toInt_lt.mp b3
    have bad := bad (Or.inl fun z => by have := z.2; omega)
    (repeat (first | refine Ex.go rfl rfl ?_ | refine Ex.gf rfl rfl (by assumption) (by rfl) (by first | rfl | assumption) ?_))
    refine Ex.ret rfl rfl rfl ?_
    exact bad
  have b4 : kd.toInt ≤ (2 : Int32).toInt := Int32.le_iff_toInt_le.mp (Int32.not_lt.mp b3)
  (repeat (first | refine Ex.go rfl rfl ?_ | refine Ex.gf rfl rfl (by assumption) (by rfl) (by first | rfl | assumption) ?_))
  refine Ex.br (fun b5 => ?_) (fun b5 => ?_); rotate_left
  · have b6 : (40 : Int32).toInt < n.toInt := Int32.lt_iff_toInt_lt.mp (Int32.not_le.mp b5)
    have bad := bad (Or.inr (by omega))
    (repeat (first | refine Ex.go rfl rfl ?_ | refine Ex.gf rfl rfl (by assumption) (by rfl) (by first | rfl | assumption) ?_))
    refine Ex.ret rfl rfl rfl ?_
    exact bad
  have b6 : n.toInt ≤ (40 : Int32).toInt := Int32.le_iff_toInt_le.mp b5
  have st2 : ¬ (¬ rng kd 0 2 ∨ 40 < n.toInt) := fun z => z.elim (fun y => y ⟨b2', by omega⟩) (fun y => by omega)
  rw [if_neg st2] at st
  (repeat (first | refine Ex.go rfl rfl ?_ | refine Ex.gf rfl rfl (by assumption) (by rfl) (by first | rfl | assumption) ?_))
  refine Ex.br (fun b7 => ?_) (fun b7 => ?_)
  · have n1 : kd = 2 := b7
    have hs : shtI kd n = 0 := by rw [st, if_neg (fun z => by rw [n1] at z; exact absurd z.1 (by decide))]
    (repeat (first | exact go 0 (by omega) hs (if_pos n1).symm (Or.inl n1) | refine Ex.go rfl rfl ?_ | refine Ex.gf rfl rfl (by assumption) (by rfl) (by first | rfl | assumption) ?_))
  have n1 : ¬ kd = 2 := b7
  have n2 : ¬ kd.toInt = 2 := fun z => n1 (Int32.toInt_inj.mp (z.trans e2.symm))
  (repeat (first | refine Ex.go rfl rfl ?_ | refine Ex.gf rfl rfl (by assumption) (by rfl) (by first | rfl | assumption) ?_))
  refine Ex.br (fun b8 => ?_) (fun b8 => ?_)
  · have b9 : (0 : Int) ≤ n.toInt := Int32.le_iff_toInt_le.mp b8
    obtain ⟨f1, f2, f3⟩ := nI_iof b9
    have hs : shtI kd n = 0 := by rw [st, if_neg (fun z => by have := z.2; omega)]
    (repeat (first | exact go n.toNatClampNeg (by omega) hs (if_neg n1).symm (Or.inr f1) | refine Ex.go rfl rfl ?_ | refine Ex.gf rfl rfl (by assumption) (by rfl) (by first | rfl | assumption) ?_))
  · have b9 : n.toInt < (0 : Int) := Int32.lt_iff_toInt_lt.mp (Int32.not_le.mp b8)
    rw [if_pos ⟨by omega, b9⟩] at st
    rw [st] at k0
    have k := k0 (by decide)
    (repeat (first | refine Ex.go rfl rfl ?_ | refine Ex.gf rfl rfl (by assumption) (by rfl) (by first | rfl | assumption) ?_))
    refine Ex.ret rfl rfl rfl ?_
    exact k
end CR1

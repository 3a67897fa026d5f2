/-! The class's view of a part: its spots. -/
section CK
variable {d p r lim cap : Nat} {G G1 : bo_G} {Q : Option Value → bo_G → Prop} {im : List Int32} {kd sg ra sh sp we mn pa pd pt md gd pl : Int32} {pw : Int64} {S : Nat → spT} {c c' : bo_C}
def pvQ (p : Nat) : Nat → Option Nat := fun i => if i < 12 then some (p + 2 + i) else none
def PV (G : bo_G) (p : Nat) (c : bo_C) (S : Nat → spT) : Prop := G[p]? = some c ∧ G[p + 1]? = some (cQ 6 12 (pvQ p)) ∧ ∀ i, i < 12 → G[p + 2 + i]? = some (spC (S i))
def FP (p : Nat) (G G' : bo_G) : Prop := G'.length = G.length ∧ ∀ j, ¬ (p ≤ j ∧ j < p + 14) → G'[j]? = G[j]?
theorem FP.rfl' (p : Nat) (G : bo_G) : FP p G G := ⟨rfl, fun _ _ => rfl⟩
theorem FP.trans {G2 : bo_G} (h : FP p G G1) (h2 : FP p G1 G2) : FP p G G2 := ⟨h2.1.trans h.1, fun j hj => (h2.2 j hj).trans (h.2 j hj)⟩
theorem PV.of {S' : Nat → spT} (h : PV G p c S) (e : ∀ j, p ≤ j → j < p + 14 → G1[j]? = G[j]?) (eS : ∀ i, i < 12 → S' i = S i) : PV G1 p c S' := ⟨by rw [e p (by omega) (by omega)]; exact h.1, by rw [e (p + 1) (by omega) (by omega)]; exact h.2.1, fun i hi => by rw [e (p + 2 + i) (by omega) (by omega), eS i hi]; exact h.2.2 i hi⟩
theorem PV.eS {S' : Nat → spT} (h : PV G p c S) (eS : ∀ i, i < 12 → S' i = S i) : PV G p c S' := h.of (fun _ _ _ => rfl) eS
theorem PV.setO (h : PV G p c S) (c' : bo_C) : PV (G.set p c') p c' S ∧ FP p G (G.set p c') := by
  have hl := (List.getElem?_eq_some_iff.mp h.1).1
  refine ⟨⟨List.getElem?_set_self hl, ?_, fun i hi => ?_⟩, List.length_set, fun j hj => List.getElem?_set_ne (by omega)⟩
  · rw [List.getElem?_set_ne (by omega)]; exact h.2.1
  · rw [List.getElem?_set_ne (by omega)]; exact h.2.2 i hi
theorem PV.setS {i : Nat} (h : PV G p c S) (hi : i < 12) (s : spT) : PV (G.set (p + 2 + i) (spC s)) p c (fun j => if j = i then s else S j) ∧ FP p G (G.set (p + 2 + i) (spC s)) := by
  have hl := (List.getElem?_eq_some_iff.mp (h.2.2 i hi)).1
  refine ⟨⟨?_, ?_, fun j hj => ?_⟩, List.length_set, fun j hj => List.getElem?_set_ne (by omega)⟩
  · rw [List.getElem?_set_ne (by omega)]; exact h.1
  · rw [List.getElem?_set_ne (by omega)]; exact h.2.1
  · show _ = some (spC (if j = i then s else S j))
    by_cases e : j = i
    · rw [e, if_pos rfl]; exact List.getElem?_set_self hl
    · rw [List.getElem?_set_ne (by omega), if_neg e]; exact h.2.2 j hj
theorem Ex.aapv {m : bo_M} {pc nx tg kp i : Nat} {lv : bo_LV} {j : Int32} {rr : List Value} (he : bo_cd m pc = some (.aaload, nx, tg, kp)) (hj : j = nI i) (hG : G[p + 1]? = some (cQ 6 12 (pvQ p))) (hi : i < 12) (k1 : Ex d m (nx, lv, .ref (p + 2 + i) :: rr, G) Q) : Ex d m (pc, lv, .int j :: .ref (p + 1) :: rr, G) Q := by
  subst hj
  have e : (nI i).toNatClampNeg = i := nI_clamp (by omega)
  refine Ex.aal he hG ⟨show nI 0 ≤ nI i from nI_le (by omega) (by omega), by omega⟩ ?_
  rw [e, show pvQ p i = some (p + 2 + i) from if_pos hi]
  exact k1
theorem pv_rows (h : PV G p (pvC p kd sg ra sh sp we mn pa pd pt md pw gd pl) S) (k : ∀ G', PV G' p (pvC p kd sg ra sh sp we mn pa pd pt md pw gd pl) (fun _ => (pd, pt, -1, 0)) → FP p G G' → Q none G') : Cx (d + 1) mX2_beginRows [.ref p] G Q := by
  have loop : ∀ (e i : Nat) (b : Int32) (G1 : bo_G), b = nI i → i + e = 12 → PV G1 p (pvC p kd sg ra sh sp we mn pa pd pt md pw gd pl) (fun j => if j < i then (pd, pt, -1, 0) else S j) → FP p G G1 → Ex (d + 1) mX2_beginRows (2, [(0, .ref p), (1, .int b)], [], G1) Q := by
    intro e
    induction e with
    | zero =>
      intro i b G1 hb hi P F
      have k := k G1 (P.eS fun j hj => (if_pos (by omega)).symm) F
      have h0 := P.1
      have hq := P.2.1
      have hb2 : nI 12 ≤ b := by rw [hb, show i = 12 by omega]; decide
      clear hb
      (repeat (first | refine Ex.go rfl rfl ?_ | refine Ex.gf rfl rfl (by assumption) (by rfl) (by first | rfl | assumption) ?_))
      refine Ex.alq rfl hq ?_
      (repeat (first | refine Ex.go rfl rfl ?_ | refine Ex.gf rfl rfl (by assumption) (by rfl) (by first | rfl | assumption) ?_))
      refine Ex.br (fun c1 => ?_) (fun c1 => ?_); rotate_left
      · exact absurd hb2 c1
      (repeat (first | refine Ex.go rfl rfl ?_ | refine Ex.gf rfl rfl (by assumption) (by rfl) (by first | rfl | assumption) ?_))
      refine Ex.ret rfl rfl rfl ?_
      exact k
    | succ e ih =>
      intro i b G1 hb hi P F
      have h0 := P.1
      have hq := P.2.1
      have hs := P.2.2 i (by omega)
      obtain ⟨P2, F2⟩ := P.setS (i := i) (by omega) (pd, pt, -1, 0)
      have nx := ih (i + 1) (b + 1) _ (by rw [hb]; exact nI_1 i) (by omega) (P2.eS fun j hj => by
        by_cases e1 : j = i
        · rw [e1]; simp
        · by_cases e2 : j < i
          · rw [if_pos (by omega), if_neg e1, if_pos e2]
          · rw [if_neg (by omega), if_neg e1, if_neg e2]) (F.trans F2)
      (repeat (first | refine Ex.go rfl rfl ?_ | refine Ex.gf rfl rfl (by assumption) (by rfl) (by first | rfl | assumption) ?_))
      refine Ex.alq rfl hq ?_
      (repeat (first | refine Ex.go rfl rfl ?_ | refine Ex.gf rfl rfl (by assumption) (by rfl) (by first | rfl | assumption) ?_))
      refine Ex.br (fun c1 => ?_) (fun c1 => ?_)
      · have c2 : nI 12 ≤ b := c1
        rw [hb, nI_leI (by omega) (by omega)] at c2
        omega
      (repeat (first | refine Ex.go rfl rfl ?_ | refine Ex.gf rfl rfl (by assumption) (by rfl) (by first | rfl | assumption) ?_))
      refine Ex.aapv rfl hb hq (by omega) ?_
      (repeat (first | refine Ex.go rfl rfl ?_ | refine Ex.gf rfl rfl (by assumption) (by rfl) (by first | rfl | assumption) ?_))
      refine Ex.cv2 rfl rfl rfl hs (by rfl) (by decide) rfl ?_
      refine s_spBegin hs ?_
      (repeat (first | exact nx | refine Ex.go rfl rfl ?_ | refine Ex.gf rfl rfl (by assumption) (by rfl) (by first | rfl | assumption) ?_))
  refine Cx.body rfl rfl ?_
  have l0 := loop 12 0 0 G rfl (by omega) (h.eS fun j hj => if_neg (Nat.not_lt_zero j)) (FP.rfl' p G)
  (repeat (first | exact l0 | refine Ex.go rfl rfl ?_ | refine Ex.gf rfl rfl (by assumption) (by rfl) (by first | rfl | assumption) ?_))
theorem pv_measure {P act dd : Int32} {T : Nat → Int32} (h : PV G p (pvC p kd sg ra sh sp we mn pa pd pt md pw gd pl) S) (hr : G[r]? = some (cR lim cap im)) (hrp : ¬ (p ≤ r ∧ r < p + 14)) (hT : ∀ i, i < 12 → bo_at im (P + 4 + nI i) = T i) (k0 : dd < pd ∨ dd = pd ∧ act < pa → Q none G) (k1 : ¬ (dd < pd ∨ dd = pd ∧ act < pa) → ∀ G', PV G' p (pvC p kd sg ra sh sp we mn pa pd pt md pw gd pl) (fun i => if T i = -1 then S i else spTake (S i) dd (T i)) → FP p G G' → Q none G') : Cx (d + 1) mX2_takeMeasure [.ref p, .ref r, .int P, .int act, .int dd] G Q := by
  have h00 := h.1
  have body : ¬ (dd < pd ∨ dd = pd ∧ act < pa) → Ex (d + 1) mX2_takeMeasure (27, [(0, .ref p), (1, .ref r), (2, .int P), (3, .int act), (4, .int dd)], [], G) Q := by
    intro hno
    have k := k1 hno
    have loop : ∀ (e i : Nat) (b : Int32) (G1 : bo_G), b = nI i → i + e = 12 → PV G1 p (pvC p kd sg ra sh sp we mn pa pd pt md pw gd pl) (fun j => if j < i then if T j = -1 then S j else spTake (S j) dd (T j) else S j) → FP p G G1 → Ex (d + 1) mX2_takeMeasure (30, [(0, .ref p), (1, .ref r), (2, .int P), (3, .int act), (4, .int dd), (5, .int b)], [], G1) Q := by
      intro e
      induction e with
      | zero =>
        intro i b G1 hb hi P F
        have k := k G1 (P.eS fun j hj => (if_pos (by omega)).symm) F
        have h0 := P.1
        have hq := P.2.1
        have hb2 : nI 12 ≤ b := by rw [hb, show i = 12 by omega]; decide
        clear hb
        (repeat (first | refine Ex.go rfl rfl ?_ | refine Ex.gf rfl rfl (by assumption) (by rfl) (by first | rfl | assumption) ?_))
        refine Ex.alq rfl hq ?_
        (repeat (first | refine Ex.go rfl rfl ?_ | refine Ex.gf rfl rfl (by assumption) (by rfl) (by first | rfl | assumption) ?_))
        refine Ex.br (fun c1 => ?_) (fun c1 => ?_); rotate_left
        · exact absurd hb2 c1
        (repeat (first | refine Ex.go rfl rfl ?_ | refine Ex.gf rfl rfl (by assumption) (by rfl) (by first | rfl | assumption) ?_))
        refine Ex.ret rfl rfl rfl ?_
        exact k
      | succ e ih =>
        intro i b G1 hb hi PP F
        have h0 := PP.1
        have hq := PP.2.1
        have hs : G1[p + 2 + i]? = some (spC (S i)) := (PP.2.2 i (by omega)).trans (by simp)
        have hr1 : G1[r]? = some (cR lim cap im) := by rw [F.2 r hrp]; exact hr
        have hTi := hT i (by omega)
        rw [← hb] at hTi
        have go : Ex (d + 1) mX2_takeMeasure (52, [(0, .ref p), (1, .ref r), (2, .int P), (3, .int act), (4, .int dd), (5, .int b), (6, .int (T i))], [], G1) Q := by
          (repeat (first | refine Ex.go rfl rfl ?_ | refine Ex.gf rfl rfl (by assumption) (by rfl) (by first | rfl | assumption) ?_))
          refine Ex.br (fun c1 => ?_) (fun c1 => ?_)
          · have c2 : T i = -1 := Decidable.not_not.mp (by simpa using c1)
            have nx := ih (i + 1) (b + 1) G1 (by rw [hb]; exact nI_1 i) (by omega) (PP.eS fun j hj => by
              by_cases e1 : j = i
              · rw [e1, if_pos (by omega), if_pos c2, if_neg (by omega)]
              · by_cases e2 : j < i
                · rw [if_pos (by omega), if_pos e2]
                · rw [if_neg (by omega), if_neg e2]) F
            (repeat (first | exact nx | refine Ex.go rfl rfl ?_ | refine Ex.gf rfl rfl (by assumption) (by rfl) (by first | rfl | assumption) ?_))
          · have c2 : ¬ T i = -1 := by simpa using c1
            obtain ⟨P2, F2⟩ := PP.setS (i := i) (by omega) (spTake (S i) dd (T i))
            have nx := ih (i + 1) (b + 1) _ (by rw [hb]; exact nI_1 i) (by omega) (P2.eS fun j hj => by
              by_cases e1 : j = i
              · rw [e1, if_pos (by omega), if_neg c2, if_pos rfl]
              · by_cases e2 : j < i
                · rw [if_pos (by omega), if_neg e1, if_pos e2]
                · rw [if_neg (by omega), if_neg e1, if_neg e2]) (F.trans F2)
            (repeat (first | refine Ex.go rfl rfl ?_ | refine Ex.gf rfl rfl (by assumption) (by rfl) (by first | rfl | assumption) ?_))
            refine Ex.aapv rfl hb hq (by omega) ?_
            (repeat (first | refine Ex.go rfl rfl ?_ | refine Ex.gf rfl rfl (by assumption) (by rfl) (by first | rfl | assumption) ?_))
            refine Ex.cv2 rfl rfl rfl hs (by rfl) (by decide) rfl ?_
            refine s_spTake hs ?_
            (repeat (first | exact nx | refine Ex.go rfl rfl ?_ | refine Ex.gf rfl rfl (by assumption) (by rfl) (by first | rfl | assumption) ?_))
        (repeat (first | refine Ex.go rfl rfl ?_ | refine Ex.gf rfl rfl (by assumption) (by rfl) (by first | rfl | assumption) ?_))
        refine Ex.alq rfl hq ?_
        (repeat (first | refine Ex.go rfl rfl ?_ | refine Ex.gf rfl rfl (by assumption) (by rfl) (by first | rfl | assumption) ?_))
        refine Ex.br (fun c1 => ?_) (fun c1 => ?_)
        · have c2 : nI 12 ≤ b := c1
          rw [hb, nI_leI (by omega) (by omega)] at c2
          omega
        (repeat (first | refine Ex.go rfl rfl ?_ | refine Ex.gf rfl rfl (by assumption) (by rfl) (by first | rfl | assumption) ?_))
        refine Ex.cv1 rfl rfl rfl hr1 (by rfl) (by decide) rfl ?_
        refine Cx.ratE hr1 hTi ?_
        (repeat (first | exact go | refine Ex.go rfl rfl ?_ | refine Ex.gf rfl rfl (by assumption) (by rfl) (by first | rfl | assumption) ?_))
    have l0 := loop 12 0 0 G rfl (by omega) (h.eS fun j hj => if_neg (Nat.not_lt_zero j)) (FP.rfl' p G)
    (repeat (first | exact l0 | refine Ex.go rfl rfl ?_ | refine Ex.gf rfl rfl (by assumption) (by rfl) (by first | rfl | assumption) ?_))
  refine Cx.body rfl rfl ?_
  (repeat (first | refine Ex.go rfl rfl ?_ | refine Ex.gf rfl rfl (by assumption) (by rfl) (by first | rfl | assumption) ?_))
  refine Ex.br (fun c1 => ?_) (fun c1 => ?_)
  · have k := k0 (Or.inl c1)
    (repeat (first | refine Ex.go rfl rfl ?_ | refine Ex.gf rfl rfl (by assumption) (by rfl) (by first | rfl | assumption) ?_))
    refine Ex.ret rfl rfl rfl ?_
    exact k
  (repeat (first | refine Ex.go rfl rfl ?_ | refine Ex.gf rfl rfl (by assumption) (by rfl) (by first | rfl | assumption) ?_))
  refine Ex.br (fun c2 => ?_) (fun c2 => ?_)
  · (repeat (first | exact body (fun z => z.elim c1 fun y => c2 y.1) | refine Ex.go rfl rfl ?_ | refine Ex.gf rfl rfl (by assumption) (by rfl) (by first | rfl | assumption) ?_))
  (repeat (first | refine Ex.go rfl rfl ?_ | refine Ex.gf rfl rfl (by assumption) (by rfl) (by first | rfl | assumption) ?_))
  refine Ex.br (fun c3 => ?_) (fun c3 => ?_)
  · (repeat (first | exact body (fun z => z.elim c1 fun y => absurd y.2 (Int32.not_lt.mpr c3)) | refine Ex.go rfl rfl ?_ | refine Ex.gf rfl rfl (by assumption) (by rfl) (by first | rfl | assumption) ?_))
  · have k := k0 (Or.inr ⟨Decidable.not_not.mp c2, Int32.not_le.mp c3⟩)
    (repeat (first | refine Ex.go rfl rfl ?_ | refine Ex.gf rfl rfl (by assumption) (by rfl) (by first | rfl | assumption) ?_))
    refine Ex.ret rfl rfl rfl ?_
    exact k
end CK

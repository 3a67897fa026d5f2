/-! The reference's row of a spot: its last measure, what is ahead of it. -/
theorem lat_some {dy : Nat → Int32} {P : Nat → Prop} [DecidablePred P] {a f : Nat} : ∀ n, ∃ j, lat dy P (some a) f n = some j := by
  intro n
  induction n with
  | zero => exact ⟨a, rfl⟩
  | succ n ih =>
    unfold lat
    split
    · exact ⟨_, rfl⟩
    · exact ih
def plt (lg : Nat → Int32) (E v p : Nat) (x y : Int32) : Nat := (lof lg 6 (nI v) (nI p) x y (some (pat lg E v p)) (pat lg E v p + 1) (E - (pat lg E v p + 1))).getD 0
theorem plt_eq {lg : Nat → Int32} {E v p : Nat} {x y : Int32} : lof lg 6 (nI v) (nI p) x y (some (pat lg E v p)) (pat lg E v p + 1) (E - (pat lg E v p + 1)) = some (plt lg E v p x y) := by
  obtain ⟨j, hj⟩ := lat_some (dy := dyy lg) (P := fun i => isP lg 6 (nI v) (nI p) i ∧ stP lg x y i) (a := pat lg E v p) (f := pat lg E v p + 1) (E - (pat lg E v p + 1))
  have hj' : lof lg 6 (nI v) (nI p) x y (some (pat lg E v p)) (pat lg E v p + 1) (E - (pat lg E v p + 1)) = some j := hj
  unfold plt
  rw [hj']; rfl
theorem plt_lt {lg : Nat → Int32} {E v p : Nat} {x y : Int32} (h : pat lg E v p < E) : plt lg E v p x y < E := lof_lt (B := E) (fun k hk => by cases hk; exact h) (by omega) plt_eq
def rwL (lg : Nat → Int32) (E v p s : Nat) (x y : Int32) : Option Nat := mea lg E (nI v) (nI p) s x y (plt lg E v p x y) 40001
def rwW (lg : Nat → Int32) (E v p s : Nat) (x y : Int32) (l : Nat) : Option Nat := mea lg E (nI v) (nI p) s x y (plt lg E v p x y) (dyy lg l)
def rwE (lg : Nat → Int32) (E v p s : Nat) (x y : Int32) : Int32 := match rwL lg E v p s x y with
  | none => dyy lg (plt lg E v p x y)
  | some l => dyy lg l
def rwT (lg : Nat → Int32) (E v p s : Nat) (x y : Int32) : Int32 := match rwL lg E v p s x y with
  | none => pthk lg (plt lg E v p x y)
  | some l => num lg l (3 + s)
def rwA (lg : Nat → Int32) (E v p s : Nat) (x y : Int32) : Option (Int32 × Int32) := match rwL lg E v p s x y with
  | none => none
  | some l => match rwW lg E v p s x y l with
    | some w => some (dyy lg w, num lg w (3 + s))
    | none => if dyy lg (plt lg E v p x y) < dyy lg l then some (dyy lg (plt lg E v p x y), pthk lg (plt lg E v p x y)) else none
/-- fields alike but for what a row is worked out in -/
def SC (fs f : List Value) : Prop := f.length = fs.length ∧ ∀ i, i < 20 ∨ 25 ≤ i → f[i]? = fs[i]?
theorem SC.rfl' (fs : List Value) : SC fs fs := ⟨rfl, fun _ _ => rfl⟩
theorem SC.trans {a b c : List Value} (h : SC a b) (h2 : SC b c) : SC a c := ⟨h2.1.trans h.1, fun i hi => (h2.2 i hi).trans (h.2 i hi)⟩
theorem SC.set {a b : List Value} {i : Nat} {v : Value} (h : SC a b) (hi : 20 ≤ i ∧ i < 25) : SC a (b.set i v) := ⟨by rw [List.length_set]; exact h.1, fun j hj => by rw [List.getElem?_set_ne (by omega)]; exact h.2 j hj⟩
def SG (G : bo_G) (fs : List Value) (G' : bo_G) (f : List Value) : Prop := G' = G.set 364 (cO 11 f) ∧ fs.length = 32 ∧ SC fs f
theorem SG.trans {G G1 G2 : bo_G} {a b c : List Value} (h : SG G a G1 b) (h2 : SG G1 b G2 c) : SG G a G2 c := by
  refine ⟨?_, h.2.1, h.2.2.trans h2.2.2⟩
  rw [h2.1, h.1, List.set_set]
section RR
variable {d : Nat} {G : bo_G} {Q : Option Value → bo_G → Prop} {fs : List Value} {lg : Nat → Int32} {E : Nat} {td : Int32} {VS : Nat} {pt vl pp va pa wa nn : Nat → Int32}
theorem SG.rfl' (h : RD G fs lg E td VS pt vl pp va pa wa nn) (hL : fs.length = 32) : SG G fs G fs := ⟨(set_self h.1.1).symm, hL, SC.rfl' fs⟩
theorem RD_sg {G1 : bo_G} {f : List Value} (h : RD G fs lg E td VS pt vl pp va pa wa nn) (hS : SG G fs G1 f) : RD G1 f lg E td VS pt vl pp va pa wa nn := by
  obtain ⟨e, hL, hl, hs⟩ := hS
  subst e
  obtain ⟨⟨g0, a0, a2, a4, a7, a9, a10, a11, a12, a13, a14, a16⟩, ⟨b0, b1, b2, b3, b4, b5, b6, b7⟩, hE, hV⟩ := h
  have q : ∀ {j : Nat} {c : bo_C}, j ≠ 364 → G[j]? = some c → (G.set 364 (cO 11 f))[j]? = some c := fun hj hc => by rw [List.getElem?_set_ne (fun z => hj z.symm)]; exact hc
  have r : ∀ {j : Nat} {c : Value}, j < 20 → fs[j]? = some c → f[j]? = some c := fun hj hc => by rw [hs _ (Or.inl hj)]; exact hc
  exact ⟨⟨get_set g0, r (by omega) a0, r (by omega) a2, r (by omega) a4, r (by omega) a7, r (by omega) a9, r (by omega) a10, r (by omega) a11, r (by omega) a12, r (by omega) a13, r (by omega) a14, r (by omega) a16⟩, ⟨q (by omega) b0, q (by omega) b1, q (by omega) b2, q (by omega) b3, q (by omega) b4, q (by omega) b5, q (by omega) b6, q (by omega) b7⟩, hE, hV⟩
theorem Ex.pfm {m : bo_M} {pc : Nat} {lv : bo_LV} {k nx tg kp i : Nat} {v : Value} {r : List Value} {G1 : bo_G} {f : List Value} (hR : RD G fs lg E td VS pt vl pp va pa wa nn) (hS : SG G fs G1 f) (he : bo_cd m pc = some (.putfield k, nx, tg, kp)) (hf : bo_fk (bo_o m) k = some (11, i)) (hi : 20 ≤ i ∧ i < 25) (hw : bo_wr m (11, i) v = true) (k1 : ∀ G2 f2, RD G2 f2 lg E td VS pt vl pp va pa wa nn → SG G fs G2 f2 → G2[364]? = some (cO 11 f2) → f2[i]? = some v → (∀ j, ¬ j = i → f2[j]? = f[j]?) → Ex d m (nx, lv, r, G2) Q) : Ex d m (pc, lv, v :: .ref 364 :: r, G1) Q := by
  have R1 := RD_sg hR hS
  have hl : f.length = 32 := hS.2.2.1.trans hS.2.1
  refine Ex.pf he hf R1.1.1 rfl ?_ hw ?_
  · show Nat.blt i f.length = true
    rw [hl]
    exact Nat.ble_eq_true_of_le (by omega)
  · have S2 : SG G fs (G1.set 364 (cO 11 (f.set i v))) (f.set i v) := ⟨by rw [hS.1, List.set_set], hS.2.1, hS.2.2.set hi⟩
    exact k1 _ _ (RD_sg hR S2) S2 (RD_sg hR S2).1.1 (List.getElem?_set_self (by omega)) (fun j hj => List.getElem?_set_ne (fun z => hj z.symm))
theorem r_row {v p s : Nat} {x y : Int32} (h : RD G fs lg E td VS pt vl pp va pa wa nn) (hI : RI lg E VS pt vl pp va pa wa) (hL : fs.length = 32) (hv : v < VS) (hp : p < (psl lg E v).length) (hs : s < 12) (k : ∀ G' f, RD G' f lg E td VS pt vl pp va pa wa nn → SG G fs G' f → G'[364]? = some (cO 11 f) → f[20]? = some (.int (rwE lg E v p s x y)) → f[21]? = some (.int (rwT lg E v p s x y)) → f[24]? = some (.int (if (rwA lg E v p s x y).isSome then 1 else 0)) → (∀ a t, rwA lg E v p s x y = some (a, t) → f[22]? = some (.int a) ∧ f[23]? = some (.int t)) → Q none G') : Cx (d + 3) mX11_row [.ref 364, .int (nI v), .int (nI p), .int (nI s), .int x, .int y] G Q := by
  have g0 := h.1.1
  have hE := h.2.2.1
  have hV := h.2.2.2
  have hp2 := pat_lt hp
  have hp3 := (hI.hp v hv).2
  have hpl := plt_lt (x := x) (y := y) hp2
  have S0 := SG.rfl' h hL
  have en : nI 3 + nI s = nI (3 + s) := by rw [nI_add]
  unfold rwE rwT rwA at k
  refine Cx.body rfl rfl ?_
  (repeat (first | refine Ex.go rfl rfl ?_ | refine Ex.gf rfl rfl (by assumption) (by rfl) (by first | rfl | assumption) ?_))
  refine Ex.cv4 rfl rfl rfl (by assumption) (by rfl) (by decide) rfl ?_
  refine r_plateAt h (by omega) (hI.hpa v p hv hp) hp2 ?_
  rw [plt_eq]
  (repeat (first | refine Ex.go rfl rfl ?_ | refine Ex.gf rfl rfl (by assumption) (by rfl) (by first | rfl | assumption) ?_))
  refine Ex.cv (As := [.int (nI v), .int (nI p), .int (nI s), .int x, .int y, .int (nI (plt lg E v p x y)), .int 40001]) rfl rfl rfl g0 rfl (by decide) rfl ?_ rfl
  refine r_measureAt h hs hpl ?_
  show Ex _ _ (_, _, .int (oI (rwL lg E v p s x y)) :: _, _) _
  (repeat (first | refine Ex.go rfl rfl ?_ | refine Ex.gf rfl rfl (by assumption) (by rfl) (by first | rfl | assumption) ?_))
  refine Ex.pfm h S0 rfl rfl (by decide) rfl (fun G2 f2 R2 S2 g2 e2 k2 => ?_)
  cases hl : rwL lg E v p s x y with
  | none =>
    rw [hl] at k
    (repeat (first | refine Ex.go rfl rfl ?_ | refine Ex.gf rfl rfl (by assumption) (by rfl) (by first | rfl | assumption) ?_))
    refine Ex.cv1 rfl rfl rfl (by assumption) (by rfl) (by decide) rfl ?_
    refine r_day R2 (by omega) ?_
    (repeat (first | refine Ex.go rfl rfl ?_ | refine Ex.gf rfl rfl (by assumption) (by rfl) (by first | rfl | assumption) ?_))
    refine Ex.pfm h S2 rfl rfl (by decide) rfl (fun G3 f3 R3 S3 g3 e3 k3 => ?_)
    (repeat (first | refine Ex.go rfl rfl ?_ | refine Ex.gf rfl rfl (by assumption) (by rfl) (by first | rfl | assumption) ?_))
    refine Ex.cv1 rfl rfl rfl (by assumption) (by rfl) (by decide) rfl ?_
    refine r_plateOf R3 (by omega) ?_
    (repeat (first | refine Ex.go rfl rfl ?_ | refine Ex.gf rfl rfl (by assumption) (by rfl) (by first | rfl | assumption) ?_))
    refine Ex.pfm h S3 rfl rfl (by decide) rfl (fun G4 f4 R4 S4 g4 e4 k4 => ?_)
    refine Ex.ret rfl rfl rfl ?_
    exact k G4 f4 R4 S4 g4 (by rw [k4 20 (by omega)]; exact e3) e4 (by rw [k4 24 (by omega), k3 24 (by omega)]; exact e2) (fun a t z => by cases z)
  | some l =>
    have hll : l < E := mea_lt hpl hl
    rw [hl] at k
    replace k : ∀ G' f, RD G' f lg E td VS pt vl pp va pa wa nn → SG G fs G' f → G'[364]? = some (cO 11 f) → f[20]? = some (.int (dyy lg l)) → f[21]? = some (.int (num lg l (3 + s))) → f[24]? = some (.int (if (match rwW lg E v p s x y l with | some w => some (dyy lg w, num lg w (3 + s)) | none => if dyy lg (plt lg E v p x y) < dyy lg l then some (dyy lg (plt lg E v p x y), pthk lg (plt lg E v p x y)) else none).isSome then 1 else 0)) → (∀ a t, (match rwW lg E v p s x y l with | some w => some (dyy lg w, num lg w (3 + s)) | none => if dyy lg (plt lg E v p x y) < dyy lg l then some (dyy lg (plt lg E v p x y), pthk lg (plt lg E v p x y)) else none) = some (a, t) → f[22]? = some (.int a) ∧ f[23]? = some (.int t)) → Q none G' := k
    (repeat (first | refine Ex.go rfl rfl ?_ | refine Ex.gf rfl rfl (by assumption) (by rfl) (by first | rfl | assumption) ?_))
    refine Ex.br (fun hc => ?_) (fun hc => ?_); rotate_left
    · exact absurd (nI_pos' (n := l) (by omega)) hc
    (repeat (first | refine Ex.go rfl rfl ?_ | refine Ex.gf rfl rfl (by assumption) (by rfl) (by first | rfl | assumption) ?_))
    refine Ex.cv1 rfl rfl rfl (by assumption) (by rfl) (by decide) rfl ?_
    refine r_day R2 (by omega) ?_
    (repeat (first | refine Ex.go rfl rfl ?_ | refine Ex.gf rfl rfl (by assumption) (by rfl) (by first | rfl | assumption) ?_))
    refine Ex.pfm h S2 rfl rfl (by decide) rfl (fun G3 f3 R3 S3 g3 e3 k3 => ?_)
    (repeat (first | refine Ex.go rfl rfl ?_ | refine Ex.gf rfl rfl (by assumption) (by rfl) (by first | rfl | assumption) ?_))
    refine Ex.cv2 rfl rfl rfl (by assumption) (by rfl) (by decide) rfl ?_
    refine r_numberE (j := 3 + s) R3 (by omega) (by omega) en ?_
    (repeat (first | refine Ex.go rfl rfl ?_ | refine Ex.gf rfl rfl (by assumption) (by rfl) (by first | rfl | assumption) ?_))
    refine Ex.pfm h S3 rfl rfl (by decide) rfl (fun G4 f4 R4 S4 g4 e4 k4 => ?_)
    have e20 : f4[20]? = some (.int (dyy lg l)) := by rw [k4 20 (by omega)]; exact e3
    (repeat (first | refine Ex.go rfl rfl ?_ | refine Ex.gf rfl rfl (by assumption) (by rfl) (by first | rfl | assumption) ?_))
    refine Ex.cv (As := [.int (nI v), .int (nI p), .int (nI s), .int x, .int y, .int (nI (plt lg E v p x y)), .int (dyy lg l)]) rfl rfl rfl g4 rfl (by decide) rfl ?_ rfl
    refine r_measureAt R4 hs hpl ?_
    show Ex _ _ (_, _, .int (oI (rwW lg E v p s x y l)) :: _, _) _
    cases hw : rwW lg E v p s x y l with
    | some w =>
      have hww : w < E := mea_lt hpl hw
      rw [hw] at k
      (repeat (first | refine Ex.go rfl rfl ?_ | refine Ex.gf rfl rfl (by assumption) (by rfl) (by first | rfl | assumption) ?_))
      refine Ex.br (fun hc2 => ?_) (fun hc2 => ?_); rotate_left
      · exact absurd (nI_pos' (n := w) (by omega)) hc2
      (repeat (first | refine Ex.go rfl rfl ?_ | refine Ex.gf rfl rfl (by assumption) (by rfl) (by first | rfl | assumption) ?_))
      refine Ex.pfm h S4 rfl rfl (by decide) rfl (fun G5 f5 R5 S5 g5 e5 k5 => ?_)
      (repeat (first | refine Ex.go rfl rfl ?_ | refine Ex.gf rfl rfl (by assumption) (by rfl) (by first | rfl | assumption) ?_))
      refine Ex.br (fun hc3 => ?_) (fun hc3 => ?_)
      · exact absurd hc3 (nI_pos (n := w) (by omega))
      (repeat (first | refine Ex.go rfl rfl ?_ | refine Ex.gf rfl rfl (by assumption) (by rfl) (by first | rfl | assumption) ?_))
      refine Ex.cv1 rfl rfl rfl (by assumption) (by rfl) (by decide) rfl ?_
      refine r_day R5 (by omega) ?_
      (repeat (first | refine Ex.go rfl rfl ?_ | refine Ex.gf rfl rfl (by assumption) (by rfl) (by first | rfl | assumption) ?_))
      refine Ex.pfm h S5 rfl rfl (by decide) rfl (fun G6 f6 R6 S6 g6 e6 k6 => ?_)
      (repeat (first | refine Ex.go rfl rfl ?_ | refine Ex.gf rfl rfl (by assumption) (by rfl) (by first | rfl | assumption) ?_))
      refine Ex.br (fun hc4 => ?_) (fun hc4 => ?_)
      · exact absurd hc4 (nI_pos (n := w) (by omega))
      (repeat (first | refine Ex.go rfl rfl ?_ | refine Ex.gf rfl rfl (by assumption) (by rfl) (by first | rfl | assumption) ?_))
      refine Ex.cv2 rfl rfl rfl (by assumption) (by rfl) (by decide) rfl ?_
      refine r_numberE (j := 3 + s) R6 (by omega) (by omega) en ?_
      (repeat (first | refine Ex.go rfl rfl ?_ | refine Ex.gf rfl rfl (by assumption) (by rfl) (by first | rfl | assumption) ?_))
      refine Ex.pfm h S6 rfl rfl (by decide) rfl (fun G7 f7 R7 S7 g7 e7 k7 => ?_)
      refine Ex.ret rfl rfl rfl ?_
      exact k G7 f7 R7 S7 g7 (by rw [k7 20 (by omega), k6 20 (by omega), k5 20 (by omega)]; exact e20) (by rw [k7 21 (by omega), k6 21 (by omega), k5 21 (by omega)]; exact e4) (by rw [k7 24 (by omega), k6 24 (by omega)]; exact e5) (fun a t z => by cases z; exact ⟨by rw [k7 22 (by omega)]; exact e6, e7⟩)
    | none =>
      rw [hw] at k
      (repeat (first | refine Ex.go rfl rfl ?_ | refine Ex.gf rfl rfl (by assumption) (by rfl) (by first | rfl | assumption) ?_))
      refine Ex.cv1 rfl rfl rfl (by assumption) (by rfl) (by decide) rfl ?_
      refine r_day R4 (by omega) ?_
      (repeat (first | refine Ex.go rfl rfl ?_ | refine Ex.gf rfl rfl (by assumption) (by rfl) (by first | rfl | assumption) ?_))
      refine Ex.br (fun hc2 => ?_) (fun hc2 => ?_)
      · have hn : ¬ dyy lg (plt lg E v p x y) < dyy lg l := Int32.not_lt.mpr hc2
        replace k : ∀ G' f, RD G' f lg E td VS pt vl pp va pa wa nn → SG G fs G' f → G'[364]? = some (cO 11 f) → f[20]? = some (.int (dyy lg l)) → f[21]? = some (.int (num lg l (3 + s))) → f[24]? = some (.int (if (if dyy lg (plt lg E v p x y) < dyy lg l then some (dyy lg (plt lg E v p x y), pthk lg (plt lg E v p x y)) else none).isSome then 1 else 0)) → (∀ a t, (if dyy lg (plt lg E v p x y) < dyy lg l then some (dyy lg (plt lg E v p x y), pthk lg (plt lg E v p x y)) else none) = some (a, t) → f[22]? = some (.int a) ∧ f[23]? = some (.int t)) → Q none G' := k
        rw [if_neg hn] at k
        (repeat (first | refine Ex.go rfl rfl ?_ | refine Ex.gf rfl rfl (by assumption) (by rfl) (by first | rfl | assumption) ?_))
        refine Ex.pfm h S4 rfl rfl (by decide) rfl (fun G5 f5 R5 S5 g5 e5 k5 => ?_)
        (repeat (first | refine Ex.go rfl rfl ?_ | refine Ex.gf rfl rfl (by assumption) (by rfl) (by first | rfl | assumption) ?_))
        refine Ex.ret rfl rfl rfl ?_
        exact k G5 f5 R5 S5 g5 (by rw [k5 20 (by omega)]; exact e20) (by rw [k5 21 (by omega)]; exact e4) e5 (fun a t z => by cases z)
      · have hn : dyy lg (plt lg E v p x y) < dyy lg l := Int32.not_le.mp hc2
        replace k : ∀ G' f, RD G' f lg E td VS pt vl pp va pa wa nn → SG G fs G' f → G'[364]? = some (cO 11 f) → f[20]? = some (.int (dyy lg l)) → f[21]? = some (.int (num lg l (3 + s))) → f[24]? = some (.int (if (if dyy lg (plt lg E v p x y) < dyy lg l then some (dyy lg (plt lg E v p x y), pthk lg (plt lg E v p x y)) else none).isSome then 1 else 0)) → (∀ a t, (if dyy lg (plt lg E v p x y) < dyy lg l then some (dyy lg (plt lg E v p x y), pthk lg (plt lg E v p x y)) else none) = some (a, t) → f[22]? = some (.int a) ∧ f[23]? = some (.int t)) → Q none G' := k
        rw [if_pos hn] at k
        (repeat (first | refine Ex.go rfl rfl ?_ | refine Ex.gf rfl rfl (by assumption) (by rfl) (by first | rfl | assumption) ?_))
        refine Ex.pfm h S4 rfl rfl (by decide) rfl (fun G5 f5 R5 S5 g5 e5 k5 => ?_)
        (repeat (first | refine Ex.go rfl rfl ?_ | refine Ex.gf rfl rfl (by assumption) (by rfl) (by first | rfl | assumption) ?_))
        refine Ex.cv1 rfl rfl rfl (by assumption) (by rfl) (by decide) rfl ?_
        refine r_day R5 (by omega) ?_
        (repeat (first | refine Ex.go rfl rfl ?_ | refine Ex.gf rfl rfl (by assumption) (by rfl) (by first | rfl | assumption) ?_))
        refine Ex.pfm h S5 rfl rfl (by decide) rfl (fun G6 f6 R6 S6 g6 e6 k6 => ?_)
        (repeat (first | refine Ex.go rfl rfl ?_ | refine Ex.gf rfl rfl (by assumption) (by rfl) (by first | rfl | assumption) ?_))
        refine Ex.cv1 rfl rfl rfl (by assumption) (by rfl) (by decide) rfl ?_
        refine r_plateOf R6 (by omega) ?_
        (repeat (first | refine Ex.go rfl rfl ?_ | refine Ex.gf rfl rfl (by assumption) (by rfl) (by first | rfl | assumption) ?_))
        refine Ex.pfm h S6 rfl rfl (by decide) rfl (fun G7 f7 R7 S7 g7 e7 k7 => ?_)
        refine Ex.ret rfl rfl rfl ?_
        exact k G7 f7 R7 S7 g7 (by rw [k7 20 (by omega), k6 20 (by omega), k5 20 (by omega)]; exact e20) (by rw [k7 21 (by omega), k6 21 (by omega), k5 21 (by omega)]; exact e4) (by rw [k7 24 (by omega), k6 24 (by omega)]; exact e5) (fun a t z => by cases z; exact ⟨by rw [k7 22 (by omega)]; exact e6, e7⟩)
end RR

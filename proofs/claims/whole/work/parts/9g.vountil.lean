/-! The opened view goes on to later days. -/
/-- the last day of those on which nothing bars -/
def clsN (lg : Nat → Int32) (E v : Nat) (y : Int32) : Nat → Int32 → Int32 → Int32
  | 0, l, _ => l
  | e + 1, l, x => if rsnI lg E (nI v) x y = 0 then clsN lg E v y e x (x + 1) else l
section OU
variable {d a v p E : Nat} {G G1 : bo_G} {Q : Option Value → bo_G → Prop} {us : List Nat} {lg : Nat → Int32} {ke x y st : Int32}
theorem cls_unt : ∀ (e : Nat) (t : Int32), clsN lg E v y e t (t + 1) = untN lg E (nI v) y e t := by
  intro e
  induction e with
  | zero => intro t; rfl
  | succ e ih =>
    intro t
    show (if rsnI lg E (nI v) (t + 1) y = 0 then clsN lg E v y e (t + 1) (t + 1 + 1) else t) = (if rsnI lg E (nI v) (t + 1) y = 0 then untN lg E (nI v) y e (t + 1) else t)
    rw [ih]
/-- a later day of the same vessel -/
theorem vfP_later {x' : Int32} (V : vfP lg E v x y) (h1 : x ≤ x') (h2 : x'.toInt ≤ 40000) : vfP lg E v x' y := by
  obtain ⟨a1, a2, a3, a4, a5, a6, a7, a8⟩ := V
  have e1 := Int32.le_iff_toInt_le.mp h1
  obtain ⟨b1, b2, b3, b4, b5⟩ := a8
  exact ⟨a1, a2, a3, a4, a5, Int32.le_trans a6 h1, h2, ⟨by omega, h2⟩, b2, b3, b4, Int32.le_trans b5 h1⟩
theorem rsnI_vf (V : vfP lg E v x y) : rsnI lg E (nI v) x y = rsn1 lg E v x y := by
  unfold rsnI
  rw [if_pos V.2.2.2.2.2.2.2, nI_clamp V.2.2.1]
theorem vo_until (ha : a = 2 ∨ a = 7) (C : CR G a us lg E ke) (hW : WF lg E) (hO : VO G lg E v a x y st) (V : vfP lg E v x y) {xn : Nat} (hxn : x = nI xn) (h4 : xn ≤ 40000) (k : ∀ G', VI G' → FW G G' → Q (some (.int (clsN lg E v y (min 400 (40000 - xn) + 1) (-1) x))) G') : Cx (d + 7) mX9_lastAllowedDay [.ref 12, .int x] G Q := by
  have hb : mnI 40000 (x + 400) = nI (xn + min 400 (40000 - xn)) := by
    have e1 : x + 400 = nI (xn + 400) := by rw [hxn]; exact nI_add xn 400
    rw [e1]
    unfold mnI
    have e2 : (40000 : Int32) = nI 40000 := rfl
    rw [e2]
    by_cases q : 40000 ≤ xn + 400
    · rw [if_pos ((nI_leI (by omega) (by omega)).mpr q)]
      congr 1
      omega
    · rw [if_neg fun z => q ((nI_leI (by omega) (by omega)).mp z)]
      congr 1
      omega
  have loop : ∀ (e i : Nat) (b l xo so : Int32) (G1 : bo_G), i + e = min 400 (40000 - xn) + 1 → b = nI (xn + i) → VO G1 lg E v a xo y so → xo ≤ b → x ≤ b → FW G G1 → (∀ G', VI G' → FW G G' → Q (some (.int (clsN lg E v y e l b))) G') → Ex (d + 7) mX9_lastAllowedDay (16, [(0, .ref 12), (1, .int x), (2, .int l), (3, .int (nI (xn + min 400 (40000 - xn)))), (4, .int b)], [], G1) Q := by
    intro e
    induction e with
    | zero =>
      intro i b l xo so G1 hi hb1 h1 _ _ F k
      have k := k G1 (h1.vi V.1 V.2.1 V.2.2.1) F
      have g0 := h1.1.1.1
      have k : Q (some (.int l)) G1 := k
      have hlt : nI (xn + min 400 (40000 - xn)) < b := by rw [hb1]; exact nI_lt (by omega) (by omega)
      clear hb1
      (repeat (first | refine Ex.go rfl rfl ?_ | refine Ex.gf rfl rfl (by assumption) (by rfl) (by first | rfl | assumption) ?_))
      refine Ex.br (fun c1 => ?_) (fun c1 => ?_); rotate_left
      · exact absurd hlt c1
      (repeat (first | refine Ex.go rfl rfl ?_ | refine Ex.gf rfl rfl (by assumption) (by rfl) (by first | rfl | assumption) ?_))
      refine Ex.ret rfl rfl rfl ?_
      exact k
    | succ e ih =>
      intro i b l xo so G1 hi hb1 h1 hxo hxb F k
      have hble : b.toInt ≤ 40000 := by rw [hb1, nI_toInt (by omega)]; omega
      have V1 := vfP_later V hxb hble
      have g0 := h1.1.1.1
      have er : clsN lg E v y (e + 1) l b = if rsnI lg E (nI v) b y = 0 then clsN lg E v y e b (b + 1) else l := rfl
      rw [er, rsnI_vf V1] at k
      have hb2 : b + 1 = nI (xn + (i + 1)) := by rw [hb1]; exact nI_1 _
      have hle2 : b ≤ b + 1 := by rw [hb2, hb1]; exact nI_le (by omega) (by omega)
      -- the reason on that day
      have go : ∀ G2 st2, VO G2 lg E v a b y st2 → FW G1 G2 → Ex (d + 7) mX9_lastAllowedDay (57, [(0, .ref 12), (1, .int x), (2, .int l), (3, .int (nI (xn + min 400 (40000 - xn)))), (4, .int b)], [], G2) Q := by
        intro G2 st2 h2 F2
        have g0 := h2.1.1.1
        have nx := ih (i + 1) (b + 1) b b st2 G2 (by omega) hb2 h2 hle2 (Int32.le_trans hxb hle2) (F.trans F2)
        (repeat (first | refine Ex.go rfl rfl ?_ | refine Ex.gf rfl rfl (by assumption) (by rfl) (by first | rfl | assumption) ?_))
        refine Ex.cv1 rfl rfl rfl g0 (by rfl) (by decide) rfl ?_
        refine vo_reason h2 V1 ?_
        generalize rsn1 lg E v b y = rr at *
        (repeat (first | refine Ex.go rfl rfl ?_ | refine Ex.gf rfl rfl (by assumption) (by rfl) (by first | rfl | assumption) ?_))
        refine Ex.br (fun c => ?_) (fun c => ?_)
        · have c' : rr = 0 := c
          rw [if_pos c'] at k
          have nx := nx k
          (repeat (first | exact nx | refine Ex.go rfl rfl ?_ | refine Ex.gf rfl rfl (by assumption) (by rfl) (by first | rfl | assumption) ?_))
        · have c' : ¬ rr = 0 := c
          rw [if_neg c'] at k
          have k := k G2 (h2.vi V.1 V.2.1 V.2.2.1) (F.trans F2)
          (repeat (first | refine Ex.go rfl rfl ?_ | refine Ex.gf rfl rfl (by assumption) (by rfl) (by first | rfl | assumption) ?_))
          refine Ex.ret rfl rfl rfl ?_
          exact k
      have hnlt : ¬ nI (xn + min 400 (40000 - xn)) < b := by
        rw [hb1, nI_ltI (by omega) (by omega)]
        omega
      (repeat (first | refine Ex.go rfl rfl ?_ | refine Ex.gf rfl rfl (by assumption) (by rfl) (by first | rfl | assumption) ?_))
      refine Ex.br (fun c1 => ?_) (fun c1 => ?_)
      · exact absurd c1 hnlt
      (repeat (first | refine Ex.go rfl rfl ?_ | refine Ex.gf rfl rfl (by assumption) (by rfl) (by first | rfl | assumption) ?_))
      refine Ex.br (fun c2 => ?_) (fun c2 => ?_)
      · have h2 := VO_steady h1 hxo c2
        (repeat (first | exact go G1 so h2 (FW.rfl' G1) | refine Ex.go rfl rfl ?_ | refine Ex.gf rfl rfl (by assumption) (by rfl) (by first | rfl | assumption) ?_))
      (repeat (first | refine Ex.go rfl rfl ?_ | refine Ex.gf rfl rfl (by assumption) (by rfl) (by first | rfl | assumption) ?_))
      refine Ex.cv4 rfl rfl rfl g0 (by rfl) (by decide) rfl ?_
      refine v_open ha (C.fw ha F) hW V.2.2.2.1 (h1.vi V.1 V.2.1 V.2.2.1) (fun hno => absurd ⟨V1.2.2.2.2.1, V1.2.2.2.2.2.1⟩ hno) (fun _ G' st' h2 F2 => ?_)
      (repeat (first | exact go G' st' h2 F2 | refine Ex.go rfl rfl ?_ | refine Ex.gf rfl rfl (by assumption) (by rfl) (by first | rfl | assumption) ?_))
  have g0 := hO.1.1.1
  refine Cx.body rfl rfl ?_
  (repeat (first | refine Ex.go rfl rfl ?_ | refine Ex.gf rfl rfl (by assumption) (by rfl) (by first | rfl | assumption) ?_))
  refine Ex.cs2 rfl rfl rfl rfl rfl rfl ?_
  refine j_min ?_
  rw [show mnI 40000 (x + Int32.ofInt 400) = nI (xn + min 400 (40000 - xn)) from hb]
  have l0 := loop (min 400 (40000 - xn) + 1) 0 x (-1) x st G (by omega) (by rw [hxn]; rfl) hO (Int32.le_refl _) (Int32.le_refl _) (FW.rfl' G) k
  (repeat (first | exact l0 | refine Ex.go rfl rfl ?_ | refine Ex.gf rfl rfl (by assumption) (by rfl) (by first | rfl | assumption) ?_))
/-- where the vessel isn't there -/
theorem vn_until {z : Int32} (h : VN0 G v a y) (hz : z.toInt ≤ 40000) (h0 : 0 ≤ z.toInt) (k : Q (some (.int (-1))) G) : Cx (d + 2) mX9_lastAllowedDay [.ref 12, .int z] G Q := by
  have hh := h
  obtain ⟨⟨sf, mk, g0⟩, -⟩ := h
  have hz4 : z ≤ 40000 := Int32.le_iff_toInt_le.mpr (by rw [k40]; exact hz)
  have hb : ¬ mnI 40000 (z + 400) < z := by
    refine Int32.not_lt.mpr (Int32.le_iff_toInt_le.mpr ?_)
    rw [mnI_toInt]
    have e1 : (z + 400).toInt = z.toInt + 400 := z_add rfl rfl (by omega)
    rw [e1, k40]
    omega
  refine Cx.body rfl rfl ?_
  (repeat (first | refine Ex.go rfl rfl ?_ | refine Ex.gf rfl rfl (by assumption) (by rfl) (by first | rfl | assumption) ?_))
  refine Ex.cs2 rfl rfl rfl rfl rfl rfl ?_
  refine j_min ?_
  generalize hq : mnI 40000 (z + Int32.ofInt 400) = q
  have hb : ¬ q < z := by rw [← hq]; exact hb
  clear hq
  (repeat (first | refine Ex.go rfl rfl ?_ | refine Ex.gf rfl rfl (by assumption) (by rfl) (by first | rfl | assumption) ?_))
  refine Ex.br (fun c1 => ?_) (fun c1 => ?_)
  · exact absurd c1 hb
  (repeat (first | refine Ex.go rfl rfl ?_ | refine Ex.gf rfl rfl (by assumption) (by rfl) (by first | rfl | assumption) ?_))
  refine Ex.br (fun c2 => ?_) (fun c2 => ?_); rotate_left
  · exact absurd hz4 c2
  (repeat (first | refine Ex.go rfl rfl ?_ | refine Ex.gf rfl rfl (by assumption) (by rfl) (by first | rfl | assumption) ?_))
  refine Ex.cv1 rfl rfl rfl g0 (by rfl) (by decide) rfl ?_
  refine vn_reason hh ?_
  (repeat (first | refine Ex.go rfl rfl ?_ | refine Ex.gf rfl rfl (by assumption) (by rfl) (by first | rfl | assumption) ?_))
  try (first | refine Ex.le0 ?_ | refine Ex.ln0 ?_)
  (repeat (first | refine Ex.go rfl rfl ?_ | refine Ex.gf rfl rfl (by assumption) (by rfl) (by first | rfl | assumption) ?_))
  refine Ex.ret rfl rfl rfl ?_
  exact k
theorem vo_when (ha : a = 2 ∨ a = 7) (C : CR G a us lg E ke) (hW : WF lg E) (hO : VO G lg E v a x y st) (V : vfP lg E v x y) (hp : p < (psl lg (knC lg y E) v).length) {xn : Nat} (hxn : x = nI xn) (h4 : xn ≤ 40000) (k : ∀ G', VI G' → FW G G' → Q (some (.int (whnN lg E v p y (min 400 (40000 - xn) + 1) x))) G') : Cx (d + 7) mX9_firstWeakDay [.ref 12, .int (nI p), .int x] G Q := by
  have h24 := vf_24 V
  have hb : mnI 40000 (x + 400) = nI (xn + min 400 (40000 - xn)) := by
    have e1 : x + 400 = nI (xn + 400) := by rw [hxn]; exact nI_add xn 400
    rw [e1]
    unfold mnI
    have e2 : (40000 : Int32) = nI 40000 := rfl
    rw [e2]
    by_cases q : 40000 ≤ xn + 400
    · rw [if_pos ((nI_leI (by omega) (by omega)).mpr q)]
      congr 1
      omega
    · rw [if_neg fun z => q ((nI_leI (by omega) (by omega)).mp z)]
      congr 1
      omega
  have loop : ∀ (e i : Nat) (b xo so : Int32) (G1 : bo_G), i + e = min 400 (40000 - xn) + 1 → b = nI (xn + i) → VO G1 lg E v a xo y so → xo ≤ b → x ≤ b → FW G G1 → (∀ G', VI G' → FW G G' → Q (some (.int (whnN lg E v p y e b))) G') → Ex (d + 7) mX9_firstWeakDay (14, [(0, .ref 12), (1, .int (nI p)), (2, .int x), (3, .int (nI (xn + min 400 (40000 - xn)))), (4, .int b)], [], G1) Q := by
    intro e
    induction e with
    | zero =>
      intro i b xo so G1 hi hb1 h1 _ _ F k
      have k := k G1 (h1.vi V.1 V.2.1 V.2.2.1) F
      have g0 := h1.1.1.1
      have k : Q (some (.int (-1))) G1 := k
      have hlt : nI (xn + min 400 (40000 - xn)) < b := by rw [hb1]; exact nI_lt (by omega) (by omega)
      clear hb1
      (repeat (first | refine Ex.go rfl rfl ?_ | refine Ex.gf rfl rfl (by assumption) (by rfl) (by first | rfl | assumption) ?_))
      refine Ex.br (fun c1 => ?_) (fun c1 => ?_); rotate_left
      · exact absurd hlt c1
      (repeat (first | refine Ex.go rfl rfl ?_ | refine Ex.gf rfl rfl (by assumption) (by rfl) (by first | rfl | assumption) ?_))
      refine Ex.ret rfl rfl rfl ?_
      exact k
    | succ e ih =>
      intro i b xo so G1 hi hb1 h1 hxo hxb F k
      have hble : b.toInt ≤ 40000 := by rw [hb1, nI_toInt (by omega)]; omega
      have V1 := vfP_later V hxb hble
      have g0 := h1.1.1.1
      have er : whnN lg E v p y (e + 1) b = if brZ lg E v p b y < (setgs lg E v 0 b y (wsl lg E v).length).toInt then b else whnN lg E v p y e (b + 1) := rfl
      rw [er] at k
      have hb2 : b + 1 = nI (xn + (i + 1)) := by rw [hb1]; exact nI_1 _
      have hle2 : b ≤ b + 1 := by rw [hb2, hb1]; exact nI_le (by omega) (by omega)
      have go : ∀ G2 st2, VO G2 lg E v a b y st2 → FW G1 G2 → Ex (d + 7) mX9_firstWeakDay (55, [(0, .ref 12), (1, .int (nI p)), (2, .int x), (3, .int (nI (xn + min 400 (40000 - xn)))), (4, .int b)], [], G2) Q := by
        intro G2 st2 h2 F2
        have g0 := h2.1.1.1
        have g14 := h2.1.1.2.2.2.1.1
        obtain ⟨fs, gp⟩ := vo_cell h2 p hp
        have nx := ih (i + 1) (b + 1) b st2 G2 (by omega) hb2 h2 hle2 (Int32.le_trans hxb hle2) (F.trans F2)
        (repeat (first | refine Ex.go rfl rfl ?_ | refine Ex.gf rfl rfl (by assumption) (by rfl) (by first | rfl | assumption) ?_))
        refine Ex.cv1 rfl rfl rfl g0 (by rfl) (by decide) rfl ?_
        refine v_partAt g0 h2.1.1.2.1 rfl h24 (fun z => absurd ⟨by rw [nI_toInt (by omega)]; omega, by rw [nI_toInt (by omega)]; omega⟩ z) (fun p' ee _ hp' => ?_)
        have e3 : p = p' := (nI_eq (by omega) (by omega)).mp ee
        subst e3
        (repeat (first | refine Ex.go rfl rfl ?_ | refine Ex.gf rfl rfl (by assumption) (by rfl) (by first | rfl | assumption) ?_))
        refine Ex.cv2 rfl rfl rfl gp (by rfl) (by decide) rfl ?_
        refine vo_bears h2 V1.1 V1.2.1 V1.2.2.1 V1.2.2.2.1 V1.2.2.2.2.1 V1.2.2.2.2.2.1 V1.2.2.2.2.2.2.1 hp _ (fun r hr => ?_)
        (repeat (first | refine Ex.go rfl rfl ?_ | refine Ex.gf rfl rfl (by assumption) (by rfl) (by first | rfl | assumption) ?_))
        refine Ex.cv0 rfl rfl rfl g14 (by rfl) (by decide) rfl ?_
        refine vo_greatest h2 V1 ?_
        rw [← hr] at k
        generalize setgs lg E v 0 b y (wsl lg E v).length = g at *
        (repeat (first | refine Ex.go rfl rfl ?_ | refine Ex.gf rfl rfl (by assumption) (by rfl) (by first | rfl | assumption) ?_))
        refine Ex.br (fun c => ?_) (fun c => ?_)
        · have c' := Int32.le_iff_toInt_le.mp c
          rw [if_neg (by omega)] at k
          have nx := nx k
          (repeat (first | exact nx | refine Ex.go rfl rfl ?_ | refine Ex.gf rfl rfl (by assumption) (by rfl) (by first | rfl | assumption) ?_))
        · have c' := Int32.lt_iff_toInt_lt.mp (Int32.not_le.mp c)
          rw [if_pos c'] at k
          have k := k G2 (h2.vi V.1 V.2.1 V.2.2.1) (F.trans F2)
          (repeat (first | refine Ex.go rfl rfl ?_ | refine Ex.gf rfl rfl (by assumption) (by rfl) (by first | rfl | assumption) ?_))
          refine Ex.ret rfl rfl rfl ?_
          exact k
      have hnlt : ¬ nI (xn + min 400 (40000 - xn)) < b := by
        rw [hb1, nI_ltI (by omega) (by omega)]
        omega
      (repeat (first | refine Ex.go rfl rfl ?_ | refine Ex.gf rfl rfl (by assumption) (by rfl) (by first | rfl | assumption) ?_))
      refine Ex.br (fun c1 => ?_) (fun c1 => ?_)
      · exact absurd c1 hnlt
      (repeat (first | refine Ex.go rfl rfl ?_ | refine Ex.gf rfl rfl (by assumption) (by rfl) (by first | rfl | assumption) ?_))
      refine Ex.br (fun c2 => ?_) (fun c2 => ?_)
      · have h2 := VO_steady h1 hxo c2
        (repeat (first | exact go G1 so h2 (FW.rfl' G1) | refine Ex.go rfl rfl ?_ | refine Ex.gf rfl rfl (by assumption) (by rfl) (by first | rfl | assumption) ?_))
      (repeat (first | refine Ex.go rfl rfl ?_ | refine Ex.gf rfl rfl (by assumption) (by rfl) (by first | rfl | assumption) ?_))
      refine Ex.cv4 rfl rfl rfl g0 (by rfl) (by decide) rfl ?_
      refine v_open ha (C.fw ha F) hW V.2.2.2.1 (h1.vi V.1 V.2.1 V.2.2.1) (fun hno => absurd ⟨V1.2.2.2.2.1, V1.2.2.2.2.2.1⟩ hno) (fun _ G' st' h2 F2 => ?_)
      (repeat (first | exact go G' st' h2 F2 | refine Ex.go rfl rfl ?_ | refine Ex.gf rfl rfl (by assumption) (by rfl) (by first | rfl | assumption) ?_))
  refine Cx.body rfl rfl ?_
  (repeat (first | refine Ex.go rfl rfl ?_ | refine Ex.gf rfl rfl (by assumption) (by rfl) (by first | rfl | assumption) ?_))
  refine Ex.cs2 rfl rfl rfl rfl rfl rfl ?_
  refine j_min ?_
  rw [show mnI 40000 (x + Int32.ofInt 400) = nI (xn + min 400 (40000 - xn)) from hb]
  have l0 := loop (min 400 (40000 - xn) + 1) 0 x x st G (by omega) (by rw [hxn]; rfl) hO (Int32.le_refl _) (Int32.le_refl _) (FW.rfl' G) k
  (repeat (first | exact l0 | refine Ex.go rfl rfl ?_ | refine Ex.gf rfl rfl (by assumption) (by rfl) (by first | rfl | assumption) ?_))
end OU

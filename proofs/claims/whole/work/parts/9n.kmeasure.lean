/-! The class's measure, over its whole state. -/
def SHr (sh shs : Int32) (gv : Nat → Int32) (es : List Int32) : Prop := ((sh = -1 ∧ es = [] ∧ -1 ≤ shs.toInt ∧ shs.toInt ≤ 40) ∨ ((sh = 0 ∨ sh = 1 ∨ sh = 2) ∧ shs = nI es.length ∧ agr gv es)) ∧ es.length ≤ 40
def ttF (sh : Int32) (es : List Int32) (s k : Nat) : Int32 := if k < s then tnC sh es (nI k) else -1
def ttL (sh : Int32) (es : List Int32) (s : Nat) : List Int32 := (List.range 12).map (ttF sh es s)
section KM
variable {d b : Nat} {G G1 : bo_G} {Q : Option Value → bo_G → Prop} {us ws : List Nat} {lg : Nat → Int32} {E fx : Nat} {st sh shs on : Int32} {es ks ts : List Int32} {rs : Nat} {v p dy : Int32} {gv : Nat → Int32}
theorem SHr.neg (h : SHr sh shs gv es) : sh < 0 ↔ sh = -1 := by
  rcases h.1 with q | q
  · rw [q.1]; exact ⟨fun _ => rfl, fun _ => by decide⟩
  · rcases q.1 with q | q | q <;> (rw [q]; decide)
theorem tn_eq (h : SHr sh shs gv es) (hs : ¬ sh < 0) {k : Nat} (hk : k < 12) : tnC sh es (nI k) = if gvP sh shs gv k then (if rng (tnI sh gv k) 0 10000 then tnI sh gv k else -2) else -1 := by
  have hl := h.2
  rcases h.1 with q | q
  · exact absurd (h.neg.mpr q.1) hs
  · obtain ⟨-, q2, q3⟩ := q
    have e0 : (nI k).toInt = k := nI_toInt (by omega)
    have e1 : nI k < shs ↔ k < es.length := by rw [q2]; exact nI_ltI (by omega) (by omega)
    unfold tnC
    rw [e0]
    by_cases c : k < es.length
    · have e2 : bo_at es (nI k) = gv k := agr_at q3 c (by omega)
      have e3 : tnV sh (gv k) = tnI sh gv k := rfl
      rw [e2, e3]
      by_cases c2 : sh = 0 ∨ gv k &&& 2147483647 ≤ 2139095040
      · rw [if_neg (fun z => z ⟨⟨by omega, by omega⟩, c2⟩), if_pos (show gvP sh shs gv k from ⟨e1.mpr c, c2⟩)]
      · rw [if_pos (fun z => c2 z.2), if_neg (fun z => c2 z.2)]
    · rw [if_pos (fun z => c (by have := z.1.2; omega)), if_neg (fun z => c (e1.mp z.1))]
theorem ttL_at {s k : Nat} (hk : k < 12) : bo_at (ttL sh es s) (nI (0 + k)) = ttF sh es s k := by
  rw [Nat.zero_add]
  exact rng_at hk (by omega)
/-- what the class enters is what the reference enters, or both refuse -/
theorem me_eq {s : Nat} (h : SHr sh shs gv es) (hs : ¬ sh < 0) (hp : isPt lg E v p) (es2 : (s : Int) = spoN lg E v p) (hdk : dok lg E v.toNatClampNeg dy) : (exi (mbP sh shs gv (spoN lg E v p)) 12 = true → rfs lg E 4 (mNn v p dy (ttL sh es s) 0) = -2) ∧ (¬ exi (mbP sh shs gv (spoN lg E v p)) 12 = true → ∀ k, k < numc 4 → mNn v p dy (ttL sh es s) 0 k = nMs v p dy sh shs gv (spoN lg E v p) k) := by
  constructor
  · intro hx
    obtain ⟨k, hk, ⟨h1, h2⟩, h3⟩ := exi_iff.mp hx
    obtain ⟨e1, e2, e3⟩ := nI_iof hp.1.1
    obtain ⟨f1, f2, f3⟩ := nI_iof hp.2.1
    have m0 : mNn v p dy (ttL sh es s) 0 0 = v := rfl
    have m1 : mNn v p dy (ttL sh es s) 0 1 = p := rfl
    have m2 : mNn v p dy (ttL sh es s) 0 2 = dy := rfl
    have hr : rfs lg E 4 (mNn v p dy (ttL sh es s) 0) = rf4 lg E v.toNatClampNeg p.toNatClampNeg (mNn v p dy (ttL sh es s) 0) := by
      show (if ¬ (0 ≤ (mNn v p dy (ttL sh es s) 0 0).toInt ∧ (mNn v p dy (ttL sh es s) 0 0).toInt < (vsl lg E).length) then -1 else (if ¬ (0 ≤ (mNn v p dy (ttL sh es s) 0 1).toInt ∧ (mNn v p dy (ttL sh es s) 0 1).toInt < (psl lg E (mNn v p dy (ttL sh es s) 0 0).toNatClampNeg).length) then -1 else rf4 lg E (mNn v p dy (ttL sh es s) 0 0).toNatClampNeg (mNn v p dy (ttL sh es s) 0 1).toNatClampNeg (mNn v p dy (ttL sh es s) 0))) = _
      rw [m0, m1, if_neg (fun z => z hp.1), if_neg (fun z => z hp.2)]
    rw [hr]
    unfold rf4
    rw [m2, if_neg (fun z => z hdk), if_pos]
    intro hall
    have h5 := hall k hk
    have m3 : mNn v p dy (ttL sh es s) 0 (3 + k) = ttF sh es s k := by
      rw [mNn_3]
      exact ttL_at hk
    have hks : k < s := by omega
    have h6 : ttF sh es s k = -2 := by
      unfold ttF
      rw [if_pos hks, tn_eq h hs hk, if_pos h2, if_neg h3]
    rw [m3, h6] at h5
    exact absurd h5.1 (by decide)
  · intro hno k hk
    have hk15 : k < 15 := hk
    by_cases q0 : k = 0
    · rw [q0]; rfl
    · by_cases q1 : k = 1
      · rw [q1]; rfl
      · by_cases q2 : k = 2
        · rw [q2]; rfl
        · obtain ⟨j, rfl⟩ : ∃ j, k = 3 + j := ⟨k - 3, by omega⟩
          rw [mNn_3]
          have hj : j < 12 := by omega
          rw [ttL_at hj]
          unfold nMs
          rw [if_neg q0, if_neg q1, if_neg q2, show 3 + j - 3 = j by omega]
          unfold ttF mN
          by_cases c : j < s
          · rw [if_pos c, tn_eq h hs hj]
            by_cases c2 : gvP sh shs gv j
            · have hr : rng (tnI sh gv j) 0 10000 := Decidable.byContradiction fun z => hno (exi_iff.mpr ⟨j, hj, ⟨by omega, c2⟩, z⟩)
              rw [if_pos c2, if_pos hr, if_pos ⟨by omega, c2⟩]
            · rw [if_neg c2, if_neg fun z => c2 z.2]
          · rw [if_neg c, if_neg fun z => c (by have := z.1; omega)]
/-- the row of tenths alone changed -/
theorem KS.ten {tt : List Int32} {c : Nat} (K : KS G b us ws lg E fx st sh es on ks ts rs) : KS (G.set 360 (cR 12 c tt)) b us ws lg E fx st sh es on ks ts rs ∧ FK G (G.set 360 (cR 12 c tt)) := by
  have ne : ∀ j, ¬ j = 360 → (G.set 360 (cR 12 c tt))[j]? = G[j]? := fun j hj => List.getElem?_set_ne fun z => hj z.symm
  obtain ⟨⟨hb, g1, h8⟩, -, ⟨hI, hH, l1, ⟨c0, tt0, h360⟩, hL, l2, ⟨c3, h363⟩, l3⟩, -⟩ := id K
  exact ⟨K.mid List.length_set (fun j hj => ne j (by omega)) ⟨by rw [ne 1 (by omega)]; exact g1, h8⟩ ⟨hI.of fun j _ _ => ne j (by omega), hH.of fun j _ _ => ne j (by omega), l1, ⟨c, tt, get_set h360⟩, hL.of fun j _ _ => ne j (by omega), l2, ⟨c3, by rw [ne _ (by omega)]; exact h363⟩, l3⟩, fun j hj => ne j (by omega)⟩
theorem me_A (h : ¬ isPt lg E v p) : meR lg E v p dy sh shs gv = -1 := by
  have e : me0 lg E v p dy sh = -1 := if_pos h
  unfold meR
  rw [e]
  rfl
theorem me_B (h : isPt lg E v p) (h2 : sh < 0) : meR lg E v p dy sh shs gv = -3 := by
  have e : me0 lg E v p dy sh = -3 := (if_neg (fun z => z h)).trans (if_pos h2)
  unfold meR
  rw [e]
  rfl
theorem me_C (h : isPt lg E v p) (h2 : ¬ sh < 0) (h3 : ¬ dok lg E v.toNatClampNeg dy) : meR lg E v p dy sh shs gv = -2 := by
  have e : me0 lg E v p dy sh = -2 := (if_neg (fun z => z h)).trans ((if_neg h2).trans (if_pos h3))
  unfold meR
  rw [e]
  rfl
theorem me_0 (h : isPt lg E v p) (h2 : ¬ sh < 0) (h3 : dok lg E v.toNatClampNeg dy) : meR lg E v p dy sh shs gv = if exi (mbP sh shs gv (spoN lg E v p)) 12 = true then -2 else rfs lg E 4 (nMs v p dy sh shs gv (spoN lg E v p)) := by
  have e : me0 lg E v p dy sh = 0 := (if_neg (fun z => z h)).trans ((if_neg h2).trans (if_neg (fun z => z h3)))
  unfold meR
  rw [e]
  rfl
theorem k_fileSheet (K : KS G b us ws lg E fx st sh es on ks ts rs) (hS : SHr sh shs gv es) (k0 : meR lg E v p dy sh shs gv < 0 → ∀ G', KS G' b us ws lg E fx st sh es on ks ts rs → FK G G' → Q (some (.int (meR lg E v p dy sh shs gv))) G') (k1 : meR lg E v p dy sh shs gv = 0 → ∀ G' us', KS G' b us' ws (lgN lg E 4 (nMs v p dy sh shs gv (spoN lg E v p))) (E + 1) fx st (-1) [] on ks ts rs → FK G G' → Q (some (.int (ansI lg E 4 (nMs v p dy sh shs gv (spoN lg E v p))))) G') : Cx (d + 7) mX10_fileSheet [.ref 1, .int v, .int p, .int dy] G Q := by
  have g1 := K.1.2.1
  obtain ⟨C, hW, hf, hcc⟩ := K.2.1
  have r0 := C.1.1
  have hH := K.2.2.1.2.1
  have h358 := hH.1
  obtain ⟨c0, tt0, h360⟩ := K.2.2.1.2.2.2.1
  refine Cx.body rfl rfl ?_
  (repeat (first | refine Ex.go rfl rfl ?_ | refine Ex.gf rfl rfl (by assumption) (by rfl) (by first | rfl | assumption) ?_))
  refine Ex.cv2 rfl rfl rfl r0 (by rfl) (by decide) rfl ?_
  refine c_spotsOf C hW ?_
  unfold spoI
  by_cases hp : isPt lg E v p
  rotate_left
  · rw [if_neg hp]
    rw [me_A hp] at k0
    have k := k0 (by decide) G K (FK.rfl' G)
    (repeat (first | refine Ex.go rfl rfl ?_ | refine Ex.gf rfl rfl (by assumption) (by rfl) (by first | rfl | assumption) ?_))
    refine Ex.ret rfl rfl rfl ?_
    exact k
  rw [if_pos hp]
  have hsp := spots_rng (lg := lg) (E := E) (y := 40000) hW.1 (v := v) (p := p)
  obtain ⟨e1, e2, e3⟩ := nI_iof (show 0 ≤ (sho lg E v p 40000 2 1).toInt by have := hsp.1; omega)
  have hsN : ((sho lg E v p 40000 2 1).toNatClampNeg : Int) = spoN lg E v p := e2
  have hs12 : (sho lg E v p 40000 2 1).toNatClampNeg ≤ 12 := by have := hsp.2; omega
  generalize hgs : (sho lg E v p 40000 2 1).toNatClampNeg = s at *
  generalize hgq : sho lg E v p 40000 2 1 = sq at *
  have n0 : ¬ sq < 0 := by rw [e1]; exact nI_pos (n := s) (by omega)
  (repeat (first | refine Ex.go rfl rfl ?_ | refine Ex.gf rfl rfl (by assumption) (by rfl) (by first | rfl | assumption) ?_))
  refine Ex.br (fun c1 => ?_) (fun c1 => ?_); rotate_left
  · exact absurd (Int32.not_le.mp c1) n0
  (repeat (first | refine Ex.go rfl rfl ?_ | refine Ex.gf rfl rfl (by assumption) (by rfl) (by first | rfl | assumption) ?_))
  refine Ex.cv0 rfl rfl rfl h358 (by rfl) (by decide) rfl ?_
  refine hw_there hH ?_
  (repeat (first | refine Ex.go rfl rfl ?_ | refine Ex.gf rfl rfl (by assumption) (by rfl) (by first | rfl | assumption) ?_))
  first | (refine Ex.brz (fun c2 => ?_) (fun c2 => ?_); rotate_left) | (refine Ex.brn (fun c2 => ?_) (fun c2 => ?_); rotate_left)
  · have c3 : sh < 0 := hS.neg.mpr (Decidable.not_not.mp c2)
    rw [me_B hp c3] at k0
    have k := k0 (by decide) G K (FK.rfl' G)
    (repeat (first | refine Ex.go rfl rfl ?_ | refine Ex.gf rfl rfl (by assumption) (by rfl) (by first | rfl | assumption) ?_))
    refine Ex.ret rfl rfl rfl ?_
    exact k
  have c3 : ¬ sh < 0 := fun z => c2 (hS.neg.mp z)
  (repeat (first | refine Ex.go rfl rfl ?_ | refine Ex.gf rfl rfl (by assumption) (by rfl) (by first | rfl | assumption) ?_))
  refine Ex.cv2 rfl rfl rfl h360 (by rfl) (by decide) rfl ?_
  refine s_refill (n := 12) h360 (by decide) (by decide) (fun c' => ?_)
  have erep : List.replicate (min 12 12) (Int32.ofInt (-1)) = (List.range 12).map (fun j => if j < 0 then tnC sh es (nI j) else -1) := rfl
  rw [erep]
  have loop : ∀ (e i : Nat) (bb : Int32) (G1 : bo_G), i + e = s → bb = nI i → (∃ c, G1 = G.set 360 (cR 12 c ((List.range 12).map (fun j => if j < i then tnC sh es (nI j) else -1)))) → Ex (d + 7) mX10_fileSheet (44, [(0, .ref 1), (1, .int v), (2, .int p), (3, .int dy), (4, .int sq), (5, .int bb)], [], G1) Q := by
    intro e
    induction e with
    | zero =>
      rintro i bb G1 hi hbb ⟨c, rfl⟩
      have his : i = s := by omega
      have hb2 : sq ≤ bb := by rw [hbb, his, e1]; exact Int32.le_refl _
      clear hbb
      rw [his]
      obtain ⟨K1, F1⟩ := K.ten (c := c) (tt := ttL sh es s)
      have h360' : (G.set 360 (cR 12 c (ttL sh es s)))[360]? = some (cR 12 c (ttL sh es s)) := get_set h360
      show Ex (d + 7) mX10_fileSheet (44, [(0, .ref 1), (1, .int v), (2, .int p), (3, .int dy), (4, .int sq), (5, .int bb)], [], G.set 360 (cR 12 c (ttL sh es s))) Q
      generalize G.set 360 (cR 12 c (ttL sh es s)) = G2 at *
      have g1 := K1.1.2.1
      have C1 := K1.2.1.1
      have r1 := C1.1.1
      (repeat (first | refine Ex.go rfl rfl ?_ | refine Ex.gf rfl rfl (by assumption) (by rfl) (by first | rfl | assumption) ?_))
      refine Ex.br (fun c4 => ?_) (fun c4 => ?_); rotate_left
      · exact absurd hb2 c4
      (repeat (first | refine Ex.go rfl rfl ?_ | refine Ex.gf rfl rfl (by assumption) (by rfl) (by first | rfl | assumption) ?_))
      refine Ex.cv5 rfl rfl rfl r1 (by rfl) (by decide) rfl ?_
      -- by what the day and the numbers are
      by_cases hdk : dok lg E v.toNatClampNeg dy
      · rw [me_0 hp c3 hdk] at k0 k1
        obtain ⟨m1, m2⟩ := me_eq (lg := lg) (E := E) (dy := dy) (s := s) hS c3 hp hsN hdk
        by_cases hx : exi (mbP sh shs gv (spoN lg E v p)) 12 = true
        · rw [if_pos hx] at k0
          have hr := m1 hx
          refine c_enterMeasure (fi := 0) K1.1.1 C1 hW (m := us.length + ws.length) K1.2.2.2.1 h360' (by omega) (fun h0 => ?_) (fun h1 => absurd (hr.symm.trans h1) (by decide))
          rw [hr]
          have k := k0 (by decide) G2 K1 F1
          (repeat (first | refine Ex.go rfl rfl ?_ | refine Ex.gf rfl rfl (by assumption) (by rfl) (by first | rfl | assumption) ?_))
          refine Ex.ret rfl rfl rfl ?_
          exact k
        · rw [if_neg hx] at k0 k1
          have hcon := m2 hx
          have er := rfs_congr (lg := lg) (E := E) (c := 4) (by omega) hcon
          have ea := ansI_congr (lg := lg) (E := E) (c := 4) (by omega) hcon
          have el := lgN_congr (lg := lg) (E := E) (c := 4) (by omega) hcon
          refine c_enterMeasure (fi := 0) K1.1.1 C1 hW (m := us.length + ws.length) K1.2.2.2.1 h360' (by omega) (fun h0 => ?_) (fun h1 G3 us' C3 F3 => ?_)
          · rw [er] at h0 ⊢
            have k := k0 h0 G2 K1 F1
            generalize rfs lg E 4 (nMs v p dy sh shs gv (spoN lg E v p)) = rr at *
            (repeat (first | refine Ex.go rfl rfl ?_ | refine Ex.gf rfl rfl (by assumption) (by rfl) (by first | rfl | assumption) ?_))
            refine Ex.br (fun c5 => ?_) (fun c5 => ?_); rotate_left
            · exact absurd h0 c5
            (repeat (first | refine Ex.go rfl rfl ?_ | refine Ex.gf rfl rfl (by assumption) (by rfl) (by first | rfl | assumption) ?_))
            refine Ex.ret rfl rfl rfl ?_
            exact k
          · rw [er] at h1
            rw [el] at C3
            rw [ea]
            have hnn := ans_nn hW (show 4 < 12 by omega) h1
            have K3 := K1.act (by omega) (by omega) h1 C3 F3
            have F4 := F1.trans (K1.fkd F3.fd)
            have k1 := k1 h1
            generalize ansI lg E 4 (nMs v p dy sh shs gv (spoN lg E v p)) = an at *
            generalize lgN lg E 4 (nMs v p dy sh shs gv (spoN lg E v p)) = lg3 at *
            have g1 := K3.1.2.1
            have hH3 := K3.2.2.1.2.1
            have h358 := hH3.1
            (repeat (first | refine Ex.go rfl rfl ?_ | refine Ex.gf rfl rfl (by assumption) (by rfl) (by first | rfl | assumption) ?_))
            refine Ex.br (fun c5 => ?_) (fun c5 => ?_)
            · exact absurd c5 hnn
            (repeat (first | refine Ex.go rfl rfl ?_ | refine Ex.gf rfl rfl (by assumption) (by rfl) (by first | rfl | assumption) ?_))
            refine Ex.cv0 rfl rfl rfl h358 (by rfl) (by decide) rfl ?_
            refine hw_drop hH3 K3.2.2.1.2.2.1 (fun G4 hH4 F5 => ?_)
            obtain ⟨K4, F6⟩ := K3.shf F5 hH4 (Nat.zero_le _)
            have k := k1 G4 us' K4 (F4.trans F6)
            (repeat (first | refine Ex.go rfl rfl ?_ | refine Ex.gf rfl rfl (by assumption) (by rfl) (by first | rfl | assumption) ?_))
            refine Ex.ret rfl rfl rfl ?_
            exact k
      · rw [me_C hp c3 hdk] at k0
        have hr : rfs lg E 4 (mNn v p dy (ttL sh es s) 0) = -2 := by
          have m0 : mNn v p dy (ttL sh es s) 0 0 = v := rfl
          have m1 : mNn v p dy (ttL sh es s) 0 1 = p := rfl
          have m2 : mNn v p dy (ttL sh es s) 0 2 = dy := rfl
          show (if ¬ (0 ≤ (mNn v p dy (ttL sh es s) 0 0).toInt ∧ (mNn v p dy (ttL sh es s) 0 0).toInt < (vsl lg E).length) then -1 else (if ¬ (0 ≤ (mNn v p dy (ttL sh es s) 0 1).toInt ∧ (mNn v p dy (ttL sh es s) 0 1).toInt < (psl lg E (mNn v p dy (ttL sh es s) 0 0).toNatClampNeg).length) then -1 else rf4 lg E (mNn v p dy (ttL sh es s) 0 0).toNatClampNeg (mNn v p dy (ttL sh es s) 0 1).toNatClampNeg (mNn v p dy (ttL sh es s) 0))) = _
          rw [m0, m1, if_neg (fun z => z hp.1), if_neg (fun z => z hp.2)]
          unfold rf4
          rw [m2, if_pos hdk]
        refine c_enterMeasure (fi := 0) K1.1.1 C1 hW (m := us.length + ws.length) K1.2.2.2.1 h360' (by omega) (fun h0 => ?_) (fun h1 => absurd (hr.symm.trans h1) (by decide))
        rw [hr]
        have k := k0 (by decide) G2 K1 F1
        (repeat (first | refine Ex.go rfl rfl ?_ | refine Ex.gf rfl rfl (by assumption) (by rfl) (by first | rfl | assumption) ?_))
        refine Ex.ret rfl rfl rfl ?_
        exact k
    | succ e ih =>
      rintro i bb G1 hi hbb ⟨c, rfl⟩
      obtain ⟨K1, F1⟩ := K.ten (c := c) (tt := (List.range 12).map (fun j => if j < i then tnC sh es (nI j) else -1))
      have h360' : (G.set 360 (cR 12 c ((List.range 12).map (fun j => if j < i then tnC sh es (nI j) else -1))))[360]? = some (cR 12 c ((List.range 12).map (fun j => if j < i then tnC sh es (nI j) else -1))) := get_set h360
      have g1 := K1.1.2.1
      have hH1 := K1.2.2.1.2.1
      have h358 := hH1.1
      have nx := fun G2 hG2 => ih (i + 1) (bb + 1) G2 (by omega) (by rw [hbb]; exact nI_1 i) hG2
      have epm := put_map (f := fun j => if j < i then tnC sh es (nI j) else -1) (g := fun j => if j < i + 1 then tnC sh es (nI j) else -1) (n := 12) (p := i) (v := tnC sh es (nI i)) (by omega) (by omega) (fun q hq => by
        by_cases c1 : q = i
        · rw [if_pos c1, if_pos (by omega), c1]
        · rw [if_neg c1]
          by_cases c2 : q < i
          · rw [if_pos c2, if_pos (by omega)]
          · rw [if_neg c2, if_neg (by omega)])
      have hset : ∀ c2 : bo_C, (G.set 360 (cR 12 c ((List.range 12).map (fun j => if j < i then tnC sh es (nI j) else -1)))).set 360 c2 = G.set 360 c2 := fun c2 => List.set_set ..
      generalize hG1 : G.set 360 (cR 12 c ((List.range 12).map (fun j => if j < i then tnC sh es (nI j) else -1))) = G1 at *
      have n4 : ¬ sq ≤ bb := by rw [hbb, e1, nI_leI (by omega) (by omega)]; omega
      (repeat (first | refine Ex.go rfl rfl ?_ | refine Ex.gf rfl rfl (by assumption) (by rfl) (by first | rfl | assumption) ?_))
      refine Ex.br (fun c4 => ?_) (fun c4 => ?_)
      · exact absurd c4 n4
      (repeat (first | refine Ex.go rfl rfl ?_ | refine Ex.gf rfl rfl (by assumption) (by rfl) (by first | rfl | assumption) ?_))
      refine Ex.cv1 rfl rfl rfl h358 (by rfl) (by decide) rfl ?_
      refine hw_tenths hH1 K1.2.2.1.2.2.1 ?_
      (repeat (first | refine Ex.go rfl rfl ?_ | refine Ex.gf rfl rfl (by assumption) (by rfl) (by first | rfl | assumption) ?_))
      refine Ex.cv2 rfl rfl rfl h360' (by rfl) (by decide) rfl ?_
      refine Cx.rput h360' ?_
      have nx := nx (G1.set 360 (cR 12 c (bo_put ((List.range 12).map (fun j => if j < i then tnC sh es (nI j) else -1)) bb (tnC sh es bb)))) ⟨c, by rw [hset, hbb, epm]⟩
      (repeat (first | exact nx | refine Ex.go rfl rfl ?_ | refine Ex.gf rfl rfl (by assumption) (by rfl) (by first | rfl | assumption) ?_))
  have l0 := loop s 0 0 _ (by omega) rfl ⟨c', rfl⟩
  (repeat (first | exact l0 | refine Ex.go rfl rfl ?_ | refine Ex.gf rfl rfl (by assumption) (by rfl) (by first | rfl | assumption) ?_))
theorem k_measure (K : KS G b us ws lg E fx st sh es on ks ts rs) (hS : SHr sh shs gv es) (k0 : meR lg E v p dy sh shs gv < 0 → ∀ G', KS G' b us ws lg E fx (meR lg E v p dy sh shs gv) sh es on ks ts rs → FK G G' → Q (some (.int (meR lg E v p dy sh shs gv))) G') (k1 : meR lg E v p dy sh shs gv = 0 → ∀ G' us', KS G' b us' ws (lgN lg E 4 (nMs v p dy sh shs gv (spoN lg E v p))) (E + 1) fx 0 (-1) [] on ks ts rs → FK G G' → Q (some (.int (ansI lg E 4 (nMs v p dy sh shs gv (spoN lg E v p))))) G') : Cx (d + 8) mX10_measure [.ref 1, .int v, .int p, .int dy] G Q := by
  have g1 := K.1.2.1
  refine Cx.body rfl rfl ?_
  (repeat (first | refine Ex.go rfl rfl ?_ | refine Ex.gf rfl rfl (by assumption) (by rfl) (by first | rfl | assumption) ?_))
  refine Ex.cv3 rfl rfl rfl g1 (by rfl) (by decide) rfl ?_
  refine k_fileSheet K hS (fun h0 G' K1 F1 => ?_) (fun h1 G' us' K1 F1 => ?_)
  · have g1 := K1.1.2.1
    have k0 := k0 h0
    generalize meR lg E v p dy sh shs gv = rr at *
    (repeat (first | refine Ex.go rfl rfl ?_ | refine Ex.gf rfl rfl (by assumption) (by rfl) (by first | rfl | assumption) ?_))
    refine Ex.cv1 rfl rfl rfl g1 (by rfl) (by decide) rfl ?_
    refine t_told K1 (fun G2 K2 F2 => ?_)
    rw [if_pos h0] at K2
    have k := k0 G2 K2 (F1.trans F2)
    (repeat (first | refine Ex.go rfl rfl ?_ | refine Ex.gf rfl rfl (by assumption) (by rfl) (by first | rfl | assumption) ?_))
    refine Ex.ret rfl rfl rfl ?_
    exact k
  · have g1 := K1.1.2.1
    have hme : rfs lg E 4 (nMs v p dy sh shs gv (spoN lg E v p)) = 0 := by
      unfold meR at h1
      by_cases c1 : me0 lg E v p dy sh < 0
      · rw [if_pos c1] at h1
        rw [h1] at c1
        exact absurd c1 (by decide)
      · rw [if_neg c1] at h1
        by_cases c2 : exi (mbP sh shs gv (spoN lg E v p)) 12 = true
        · rw [if_pos c2] at h1
          exact absurd h1 (by decide)
        · rw [if_neg c2] at h1
          exact h1
    have hnn := ans_nn K.2.1.2.1 (show 4 < 12 by omega) hme
    have k1 := k1 h1
    generalize ansI lg E 4 (nMs v p dy sh shs gv (spoN lg E v p)) = an at *
    (repeat (first | refine Ex.go rfl rfl ?_ | refine Ex.gf rfl rfl (by assumption) (by rfl) (by first | rfl | assumption) ?_))
    refine Ex.cv1 rfl rfl rfl g1 (by rfl) (by decide) rfl ?_
    refine t_told K1 (fun G2 K2 F2 => ?_)
    rw [if_neg hnn] at K2
    have k := k1 G2 us' K2 (F1.trans F2)
    (repeat (first | refine Ex.go rfl rfl ?_ | refine Ex.gf rfl rfl (by assumption) (by rfl) (by first | rfl | assumption) ?_))
    refine Ex.ret rfl rfl rfl ?_
    exact k
end KM

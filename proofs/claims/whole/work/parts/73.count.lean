/-! The class: counts, and what is known on a day. -/
section CH
variable {d a m r lim cap : Nat} {G G' : bo_G} {Q : Option Value → bo_G → Prop} {us : List Nat} {lg lg' : Nat → Int32} {E c i : Nat} {ke : Int32} {nn : Nat → Int32} {ts : List Int32}
theorem c_today (C : CR G a us lg E ke) (k : Q (some (.int (tdy lg E))) G) : Cx d mX3_today [.ref a] G Q := by
  have h0 := C.1.1
  refine Cx.body rfl rfl ?_
  (repeat (first | refine Ex.go rfl rfl ?_ | refine Ex.gf rfl rfl (by assumption) (by rfl) (by first | rfl | assumption) ?_))
  refine Ex.ret rfl rfl rfl ?_
  exact k
theorem c_vesselCount (C : CR G a us lg E ke) (k : Q (some (.int (nI (vsl lg E).length))) G) : Cx d mX3_vesselCount [.ref a] G Q := by
  have h0 := C.1.1
  refine Cx.body rfl rfl ?_
  (repeat (first | refine Ex.go rfl rfl ?_ | refine Ex.gf rfl rfl (by assumption) (by rfl) (by first | rfl | assumption) ?_))
  refine Ex.ret rfl rfl rfl ?_
  exact k
theorem c_imageRow (C : CR G a us lg E ke) (k : Q (some (.ref (a + 1))) G) : Cx d mX3_imageRow [.ref a] G Q := by
  have h0 := C.1.1
  refine Cx.body rfl rfl ?_
  (repeat (first | refine Ex.go rfl rfl ?_ | refine Ex.gf rfl rfl (by assumption) (by rfl) (by first | rfl | assumption) ?_))
  refine Ex.ret rfl rfl rfl ?_
  exact k
theorem c_placeOf {n : Nat} (C : CR G a us lg E ke) (hE : E ≤ 6000) (hn : (acl lg E)[n]? = some i) (k : Q (some (.int (nI (posn lg i)))) G) : Cx (d + 1) mX3_placeOf [.ref a, .int (nI n)] G Q := by
  have h0 := C.1.1
  obtain ⟨c2, h2⟩ := C.1.2.2.1
  have hl : n < (acl lg E).length := (List.getElem?_eq_some_iff.mp hn).1
  have := acl_osl (lg := lg) (E := E)
  have e := map_at (f := fun q => nI (posn lg q)) hn (by omega)
  refine Cx.body rfl rfl ?_
  (repeat (first | refine Ex.go rfl rfl ?_ | refine Ex.gf rfl rfl (by assumption) (by rfl) (by first | rfl | assumption) ?_))
  refine Ex.cv1 rfl rfl rfl h2 (by rfl) (by decide) rfl ?_
  refine Cx.ratE h2 e ?_
  (repeat (first | refine Ex.go rfl rfl ?_ | refine Ex.gf rfl rfl (by assumption) (by rfl) (by first | rfl | assumption) ?_))
  refine Ex.ret rfl rfl rfl ?_
  exact k
theorem c_actsKnown {y : Int32} (C : CR G a us lg E ke) (hE : E ≤ 6000) (k : ∀ n, n ≤ (acl lg E).length → (∀ j i, n ≤ j → (acl lg E)[j]? = some i → y < ent lg i) → (∀ i, 0 < n → (acl lg E)[n - 1]? = some i → ent lg i ≤ y) → Q (some (.int (nI n))) G) : Cx (d + 1) mX3_actsKnown [.ref a, .int y] G Q := by
  have h0 := C.1.1
  obtain ⟨c2, h2⟩ := C.1.2.2.1
  obtain ⟨c3, h3⟩ := C.1.2.2.2.1
  have hac := acl_osl (lg := lg) (E := E)
  have loop : ∀ n b, b = nI n → n ≤ (acl lg E).length → (∀ j i, n ≤ j → (acl lg E)[j]? = some i → y < ent lg i) → Ex (d + 1) mX3_actsKnown (8, [(0, .ref a), (1, .int y), (2, .int b)], [], G) Q := by
    intro n
    induction n with
    | zero =>
      intro b hb hn ha
      have k := k 0 hn ha fun i z => absurd z (by decide)
      rw [← hb] at k
      have hb0 : b ≤ 0 := by rw [hb]; decide
      clear hb
      (repeat (first | refine Ex.go rfl rfl ?_ | refine Ex.gf rfl rfl (by assumption) (by rfl) (by first | rfl | assumption) ?_))
      refine Ex.br (fun b1 => ?_) (fun b1 => ?_); rotate_left
      · exact absurd hb0 b1
      (repeat (first | refine Ex.go rfl rfl ?_ | refine Ex.gf rfl rfl (by assumption) (by rfl) (by first | rfl | assumption) ?_))
      refine Ex.ret rfl rfl rfl ?_
      exact k
    | succ n ih =>
      intro b hb hn ha
      subst hb
      obtain ⟨i, hi⟩ : ∃ i, (acl lg E)[n]? = some i := ⟨_, List.getElem?_eq_getElem (by omega)⟩
      have e := map_at (f := ent lg) hi (by omega)
      have e1 : nI (n + 1) - 1 = nI n := show nI (n + 1) - nI 1 = _ from pk_sub (by omega)
      (repeat (first | refine Ex.go rfl rfl ?_ | refine Ex.gf rfl rfl (by assumption) (by rfl) (by first | rfl | assumption) ?_))
      refine Ex.br (fun b1 => ?_) (fun b1 => ?_)
      · have b2 : nI (n + 1) ≤ nI 0 := b1
        rw [nI_leI (by omega) (by omega)] at b2
        omega
      (repeat (first | refine Ex.go rfl rfl ?_ | refine Ex.gf rfl rfl (by assumption) (by rfl) (by first | rfl | assumption) ?_))
      refine Ex.cv1 rfl rfl rfl h3 (by rfl) (by decide) rfl ?_
      refine Cx.ratE (v := ent lg i) h3 (by show bo_at _ (nI (n + 1) - 1) = _; rw [e1]; exact e) ?_
      (repeat (first | refine Ex.go rfl rfl ?_ | refine Ex.gf rfl rfl (by assumption) (by rfl) (by first | rfl | assumption) ?_))
      refine Ex.br (fun b3 => ?_) (fun b3 => ?_)
      · have k := k (n + 1) hn ha fun i' _ z => by
          rw [show n + 1 - 1 = n from rfl, hi] at z
          rw [← Option.some.inj z]
          exact b3
        (repeat (first | refine Ex.go rfl rfl ?_ | refine Ex.gf rfl rfl (by assumption) (by rfl) (by first | rfl | assumption) ?_))
        refine Ex.ret rfl rfl rfl ?_
        exact k
      · have nx := ih (nI (n + 1) + Int32.ofInt (-1)) (by rw [← e1]; exact (Int32.sub_eq_add_neg (nI (n + 1)) 1).symm) (by omega) fun j i' hj z => by
          by_cases q : j = n
          · rw [q, hi] at z
            rw [← Option.some.inj z]
            exact Int32.not_le.mp b3
          · exact ha j i' (by omega) z
        (repeat (first | exact nx | refine Ex.go rfl rfl ?_ | refine Ex.gf rfl rfl (by assumption) (by rfl) (by first | rfl | assumption) ?_))
  refine Cx.body rfl rfl ?_
  (repeat (first | refine Ex.go rfl rfl ?_ | refine Ex.gf rfl rfl (by assumption) (by rfl) (by first | rfl | assumption) ?_))
  refine Ex.cv0 rfl rfl rfl h2 (by rfl) (by decide) rfl ?_
  refine s_size h2 ?_
  rw [List.length_map]
  have l0 := loop (acl lg E).length _ rfl (by omega) fun j i hj z => by
    have := (List.getElem?_eq_some_iff.mp z).1
    omega
  (repeat (first | exact l0 | refine Ex.go rfl rfl ?_ | refine Ex.gf rfl rfl (by assumption) (by rfl) (by first | rfl | assumption) ?_))
theorem c_countOfVessel0 {x : Int32} (k : Q (some (.int (-1))) G) : Cx d mX3_countOfVessel [.int x, .null] G Q := by
  refine Cx.body rfl rfl ?_
  (repeat (first | refine Ex.go rfl rfl ?_ | refine Ex.gf rfl rfl (by assumption) (by rfl) (by first | rfl | assumption) ?_))
  refine Ex.ret rfl rfl rfl ?_
  exact k
theorem c_countOf {x v : Int32} (C : CR G a us lg E ke) (hW : WF lg E) (k : Q (some (.int (cntI lg E x v))) G) : Cx (d + 2) mX3_countOf [.ref a, .int x, .int v] G Q := by
  have h0 := C.1.1
  obtain ⟨c2, h2⟩ := C.1.2.2.1
  unfold cntI at k
  refine Cx.body rfl rfl ?_
  (repeat (first | refine Ex.go rfl rfl ?_ | refine Ex.gf rfl rfl (by assumption) (by rfl) (by first | rfl | assumption) ?_))
  rcases (show (x.toInt < 0 ∨ 4 < x.toInt) ∨ x.toInt = 0 ∨ x.toInt = 1 ∨ x.toInt = 2 ∨ x.toInt = 3 ∨ x.toInt = 4 by omega) with hw | hw | hw | hw | hw | hw
  · rw [if_neg (by omega), if_neg (by omega), if_neg (by omega), if_neg (by omega), if_neg (by omega)] at k
    refine Ex.tsw 64 rfl (bo_tswD hw) (by decide) ?_
    (repeat (first | refine Ex.go rfl rfl ?_ | refine Ex.gf rfl rfl (by assumption) (by rfl) (by first | rfl | assumption) ?_))
    refine Ex.cv1 rfl rfl rfl h0 (by rfl) (by decide) rfl ?_
    refine c_vesselAt C hW.2.1 (fun hno => ?_) (fun v' u ev evn hv hu => ?_)
    · rw [if_pos hno] at k
      (repeat (first | refine Ex.go rfl rfl ?_ | refine Ex.gf rfl rfl (by assumption) (by rfl) (by first | rfl | assumption) ?_))
      refine Ex.cs2 rfl rfl rfl rfl rfl rfl ?_
      refine c_countOfVessel0 ?_
      (repeat (first | refine Ex.go rfl rfl ?_ | refine Ex.gf rfl rfl (by assumption) (by rfl) (by first | rfl | assumption) ?_))
      refine Ex.ret rfl rfl rfl ?_
      exact k
    have hE6 : E ≤ 6000 := by have := acl_osl (lg := lg) (E := E); have := hW.2.2.1; have := hW.2.2.2; omega
    have hvl := sel_len E fun i => cod lg i == 1
    have hv31 : v' < 2 ^ 31 := by unfold vsl at hv; omega
    have hvi : 0 ≤ v.toInt ∧ v.toInt < (vsl lg E).length := by rw [ev, nI_toInt hv31]; omega
    obtain ⟨xx, K, V, L, nv⟩ := C.2.2.2.2.2 v' u hu
    obtain ⟨rfl, n1, n2, n3, n4, n5⟩ := nv hv
    obtain ⟨g0, ⟨d1, g1⟩, -, -, -, ⟨d5, g5⟩⟩ := V
    rw [if_neg (fun z => z hvi), evn] at k
    have e1 : K.1.length = (psl lg E v').length := by rw [n1, List.length_map]
    have e5 : K.2.2.2.2.length = (wsl lg E v').length := by rw [n5, List.length_map]
    rw [← e1, ← e5] at k
    (repeat (first | refine Ex.go rfl rfl ?_ | refine Ex.gf rfl rfl (by assumption) (by rfl) (by first | rfl | assumption) ?_))
    refine Ex.cs2 rfl rfl rfl rfl rfl rfl ?_
    refine Cx.body rfl rfl ?_
    (repeat (first | refine Ex.go rfl rfl ?_ | refine Ex.gf rfl rfl (by assumption) (by rfl) (by first | rfl | assumption) ?_))
    rcases (show (x.toInt < 5 ∨ 7 < x.toInt) ∨ x.toInt = 5 ∨ x.toInt = 6 ∨ x.toInt = 7 by omega) with hx | hx | hx | hx
    · rw [if_neg (by omega), if_neg (by omega), if_neg (by omega)] at k
      refine Ex.tsw 53 rfl (bo_tswD hx) (by decide) ?_
      (repeat (first | refine Ex.go rfl rfl ?_ | refine Ex.gf rfl rfl (by assumption) (by rfl) (by first | rfl | assumption) ?_))
      refine Ex.ret rfl rfl rfl ?_
      (repeat (first | refine Ex.go rfl rfl ?_ | refine Ex.gf rfl rfl (by assumption) (by rfl) (by first | rfl | assumption) ?_))
      refine Ex.ret rfl rfl rfl ?_
      exact k
    · rw [if_pos hx] at k
      refine Ex.tsw 32 rfl (by rw [hx]; rfl) (by decide) ?_
      (repeat (first | refine Ex.go rfl rfl ?_ | refine Ex.gf rfl rfl (by assumption) (by rfl) (by first | rfl | assumption) ?_))
      refine Ex.cv0 rfl rfl rfl g1 (by rfl) (by decide) rfl ?_
      refine s_size g1 ?_
      (repeat (first | refine Ex.go rfl rfl ?_ | refine Ex.gf rfl rfl (by assumption) (by rfl) (by first | rfl | assumption) ?_))
      refine Ex.ret rfl rfl rfl ?_
      (repeat (first | refine Ex.go rfl rfl ?_ | refine Ex.gf rfl rfl (by assumption) (by rfl) (by first | rfl | assumption) ?_))
      refine Ex.ret rfl rfl rfl ?_
      exact k
    · rw [if_neg (by omega), if_pos hx] at k
      refine Ex.tsw 40 rfl (by rw [hx]; rfl) (by decide) ?_
      (repeat (first | refine Ex.go rfl rfl ?_ | refine Ex.gf rfl rfl (by assumption) (by rfl) (by first | rfl | assumption) ?_))
      refine Ex.cv0 rfl rfl rfl g5 (by rfl) (by decide) rfl ?_
      refine s_size g5 ?_
      (repeat (first | refine Ex.go rfl rfl ?_ | refine Ex.gf rfl rfl (by assumption) (by rfl) (by first | rfl | assumption) ?_))
      refine Ex.ret rfl rfl rfl ?_
      (repeat (first | refine Ex.go rfl rfl ?_ | refine Ex.gf rfl rfl (by assumption) (by rfl) (by first | rfl | assumption) ?_))
      refine Ex.ret rfl rfl rfl ?_
      exact k
    · rw [if_neg (by omega), if_neg (by omega), if_pos hx] at k
      refine Ex.tsw 48 rfl (by rw [hx]; rfl) (by decide) ?_
      (repeat (first | refine Ex.go rfl rfl ?_ | refine Ex.gf rfl rfl (by assumption) (by rfl) (by first | rfl | assumption) ?_))
      refine Ex.ret rfl rfl rfl ?_
      (repeat (first | refine Ex.go rfl rfl ?_ | refine Ex.gf rfl rfl (by assumption) (by rfl) (by first | rfl | assumption) ?_))
      refine Ex.ret rfl rfl rfl ?_
      exact k
  · rw [if_pos hw] at k
    refine Ex.tsw 36 rfl (by rw [hw]; rfl) (by decide) ?_
    (repeat (first | refine Ex.go rfl rfl ?_ | refine Ex.gf rfl rfl (by assumption) (by rfl) (by first | rfl | assumption) ?_))
    refine Ex.ret rfl rfl rfl ?_
    exact k
  · rw [if_neg (by omega), if_pos hw] at k
    refine Ex.tsw 41 rfl (by rw [hw]; rfl) (by decide) ?_
    (repeat (first | refine Ex.go rfl rfl ?_ | refine Ex.gf rfl rfl (by assumption) (by rfl) (by first | rfl | assumption) ?_))
    refine Ex.ret rfl rfl rfl ?_
    exact k
  · rw [if_neg (by omega), if_neg (by omega), if_pos hw] at k
    refine Ex.tsw 46 rfl (by rw [hw]; rfl) (by decide) ?_
    (repeat (first | refine Ex.go rfl rfl ?_ | refine Ex.gf rfl rfl (by assumption) (by rfl) (by first | rfl | assumption) ?_))
    refine Ex.cv0 rfl rfl rfl h2 (by rfl) (by decide) rfl ?_
    refine s_size h2 ?_
    rw [List.length_map]
    (repeat (first | refine Ex.go rfl rfl ?_ | refine Ex.gf rfl rfl (by assumption) (by rfl) (by first | rfl | assumption) ?_))
    refine Ex.ret rfl rfl rfl ?_
    exact k
  · rw [if_neg (by omega), if_neg (by omega), if_neg (by omega), if_pos hw] at k
    refine Ex.tsw 54 rfl (by rw [hw]; rfl) (by decide) ?_
    (repeat (first | refine Ex.go rfl rfl ?_ | refine Ex.gf rfl rfl (by assumption) (by rfl) (by first | rfl | assumption) ?_))
    refine Ex.ret rfl rfl rfl ?_
    exact k
  · rw [if_neg (by omega), if_neg (by omega), if_neg (by omega), if_neg (by omega), if_pos hw] at k
    refine Ex.tsw 59 rfl (by rw [hw]; rfl) (by decide) ?_
    (repeat (first | refine Ex.go rfl rfl ?_ | refine Ex.gf rfl rfl (by assumption) (by rfl) (by first | rfl | assumption) ?_))
    refine Ex.ret rfl rfl rfl ?_
    exact k
end CH

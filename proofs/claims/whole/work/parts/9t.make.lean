/-! The constructors: what stands when both are made. -/
section FRE
variable {G : bo_G} {u : Nat} {o o' q q' : bo_C} {l X : List bo_C}
theorem fr_get (hu : G.length = u) : ((G ++ (o :: l)) ++ X)[u]? = some o := by
  rw [List.append_assoc, List.getElem?_append_right (by omega), hu, Nat.sub_self]
  rfl
theorem fr_get0 (hu : G.length = u) : (G ++ (o :: l))[u]? = some o := by
  rw [List.getElem?_append_right (by omega), hu, Nat.sub_self]
  rfl
theorem fr_get1 (hu : G.length = u) : (G ++ (o :: q :: l))[u + 1]? = some q := by
  rw [List.getElem?_append_right (by omega), hu, show u + 1 - u = 1 by omega]
  rfl
theorem fr_set (hu : G.length = u) : ((G ++ (o :: l)) ++ X).set u o' = G ++ (o' :: (l ++ X)) := by
  rw [List.append_assoc, List.set_append_right _ _ (by omega), hu, Nat.sub_self]
  rfl
theorem fr_set0 (hu : G.length = u) : (G ++ (o :: l)).set u o' = G ++ (o' :: l) := by
  rw [List.set_append_right _ _ (by omega), hu, Nat.sub_self]
  rfl
theorem fr_set1 (hu : G.length = u) : ((G ++ (o :: q :: l)) ++ X).set (u + 1) q' = G ++ (o :: q' :: (l ++ X)) := by
  rw [List.append_assoc, List.set_append_right _ _ (by omega), hu, show u + 1 - u = 1 by omega]
  rfl
theorem fr_get1a (hu : G.length = u) : ((G ++ (o :: q :: l)) ++ X)[u + 1]? = some q := by
  rw [List.append_assoc, List.getElem?_append_right (by omega), hu, show u + 1 - u = 1 by omega]
  rfl
theorem fr_len (hu : G.length = u) : (G ++ (o :: l)).length = u + (l.length + 1) := by
  rw [List.length_append, hu]
  rfl
end FRE
section MK
variable {d u : Nat} {H : bo_G} {Q : Option Value → bo_G → Prop}
def valL (u : Nat) : List bo_C := [cO 7 [.ref (u + 1), .ref (u + 2), .ref (u + 3)], cR 6 6 [], cR 6 6 [], cR 6 6 []]
def papL (u : Nat) : List bo_C := [cO 1 [.int 0, .int 0, .int 0, .int 0, .int 0, .int 0, .int 0, .ref (u + 1), .ref (u + 2), .ref (u + 3)], cR 3 3 [], cR 3 3 [], cR 3 3 []]
def shtL (u : Nat) : List bo_C := [cO 5 [.ref (u + 1), .int (-1)], cR 40 16 []]
def lisL (u : Nat) : List bo_C := [cO 0 [.ref (u + 1), .int 0], cR 90 16 []]
def rolL (u : Nat) : List bo_C := [cO 3 [.ref (u + 1), .ref (u + 2), .ref (u + 3), .ref (u + 4), .int 0, .int 0, .int 0, .int 0, .int 0], cR 40000 16 [], cR 2000 16 [], cR 2000 16 [], cQ 8 30 (fun _ => none)]
theorem k_valL (hu : H.length = u) (k : Q none (H ++ valL u)) : Cx (d + 2) mX7_init [.ref u] (H ++ [cO 7 (bo_df 7)]) Q := by
  refine Cx.body rfl rfl ?_
  (repeat (first | refine Ex.go rfl rfl ?_ | refine Ex.gf rfl rfl (by assumption) (by rfl) (by first | rfl | assumption) ?_))
  refine Ex.co rfl rfl rfl ?_
  (repeat (first | refine Ex.go rfl rfl ?_ | refine Ex.gf rfl rfl (by assumption) (by rfl) (by first | rfl | assumption) ?_))
  (refine Ex.ci1 rfl rfl (by first | exact Or.inl rfl | exact Or.inr rfl) rfl app_get rfl (by decide) rfl ?_; refine Cx.rinit app_get (by decide) (by decide) ?_; rw [app_set]; refine Ex.pf rfl rfl (fr_get hu) (by rfl) (by rfl) (by rfl) ?_; rw [fr_set hu, fr_len hu])
  (repeat (first | refine Ex.go rfl rfl ?_ | refine Ex.gf rfl rfl (by assumption) (by rfl) (by first | rfl | assumption) ?_))
  (refine Ex.ci1 rfl rfl (by first | exact Or.inl rfl | exact Or.inr rfl) rfl app_get rfl (by decide) rfl ?_; refine Cx.rinit app_get (by decide) (by decide) ?_; rw [app_set]; refine Ex.pf rfl rfl (fr_get hu) (by rfl) (by rfl) (by rfl) ?_; rw [fr_set hu, fr_len hu])
  (repeat (first | refine Ex.go rfl rfl ?_ | refine Ex.gf rfl rfl (by assumption) (by rfl) (by first | rfl | assumption) ?_))
  (refine Ex.ci1 rfl rfl (by first | exact Or.inl rfl | exact Or.inr rfl) rfl app_get rfl (by decide) rfl ?_; refine Cx.rinit app_get (by decide) (by decide) ?_; rw [app_set]; refine Ex.pf rfl rfl (fr_get hu) (by rfl) (by rfl) (by rfl) ?_; rw [fr_set hu, fr_len hu])
  (repeat (first | refine Ex.go rfl rfl ?_ | refine Ex.gf rfl rfl (by assumption) (by rfl) (by first | rfl | assumption) ?_))
  refine Ex.ret rfl rfl rfl ?_
  exact k
theorem k_papL (hu : H.length = u) (k : Q none (H ++ papL u)) : Cx (d + 2) mX1_init [.ref u] (H ++ [cO 1 (bo_df 1)]) Q := by
  refine Cx.body rfl rfl ?_
  (repeat (first | refine Ex.go rfl rfl ?_ | refine Ex.gf rfl rfl (by assumption) (by rfl) (by first | rfl | assumption) ?_))
  refine Ex.co rfl rfl rfl ?_
  (repeat (first | refine Ex.go rfl rfl ?_ | refine Ex.gf rfl rfl (by assumption) (by rfl) (by first | rfl | assumption) ?_))
  (refine Ex.ci1 rfl rfl (by first | exact Or.inl rfl | exact Or.inr rfl) rfl app_get rfl (by decide) rfl ?_; refine Cx.rinit app_get (by decide) (by decide) ?_; rw [app_set]; refine Ex.pf rfl rfl (fr_get hu) (by rfl) (by rfl) (by rfl) ?_; rw [fr_set hu, fr_len hu])
  (repeat (first | refine Ex.go rfl rfl ?_ | refine Ex.gf rfl rfl (by assumption) (by rfl) (by first | rfl | assumption) ?_))
  (refine Ex.ci1 rfl rfl (by first | exact Or.inl rfl | exact Or.inr rfl) rfl app_get rfl (by decide) rfl ?_; refine Cx.rinit app_get (by decide) (by decide) ?_; rw [app_set]; refine Ex.pf rfl rfl (fr_get hu) (by rfl) (by rfl) (by rfl) ?_; rw [fr_set hu, fr_len hu])
  (repeat (first | refine Ex.go rfl rfl ?_ | refine Ex.gf rfl rfl (by assumption) (by rfl) (by first | rfl | assumption) ?_))
  (refine Ex.ci1 rfl rfl (by first | exact Or.inl rfl | exact Or.inr rfl) rfl app_get rfl (by decide) rfl ?_; refine Cx.rinit app_get (by decide) (by decide) ?_; rw [app_set]; refine Ex.pf rfl rfl (fr_get hu) (by rfl) (by rfl) (by rfl) ?_; rw [fr_set hu, fr_len hu])
  (repeat (first | refine Ex.go rfl rfl ?_ | refine Ex.gf rfl rfl (by assumption) (by rfl) (by first | rfl | assumption) ?_))
  refine Ex.ret rfl rfl rfl ?_
  exact k
theorem k_shtL (hu : H.length = u) (k : Q none (H ++ shtL u)) : Cx (d + 2) mX5_init [.ref u] (H ++ [cO 5 (bo_df 5)]) Q := by
  refine Cx.body rfl rfl ?_
  (repeat (first | refine Ex.go rfl rfl ?_ | refine Ex.gf rfl rfl (by assumption) (by rfl) (by first | rfl | assumption) ?_))
  refine Ex.co rfl rfl rfl ?_
  (repeat (first | refine Ex.go rfl rfl ?_ | refine Ex.gf rfl rfl (by assumption) (by rfl) (by first | rfl | assumption) ?_))
  (refine Ex.ci1 rfl rfl (by first | exact Or.inl rfl | exact Or.inr rfl) rfl app_get rfl (by decide) rfl ?_; refine Cx.rinit app_get (by decide) (by decide) ?_; rw [app_set]; refine Ex.pf rfl rfl (fr_get hu) (by rfl) (by rfl) (by rfl) ?_; rw [fr_set hu, fr_len hu])
  (repeat (first | refine Ex.go rfl rfl ?_ | refine Ex.gf rfl rfl (by assumption) (by rfl) (by first | rfl | assumption) ?_))
  (refine Ex.pf rfl rfl (fr_get0 hu) (by rfl) (by rfl) (by rfl) ?_; rw [fr_set0 hu])
  (repeat (first | refine Ex.go rfl rfl ?_ | refine Ex.gf rfl rfl (by assumption) (by rfl) (by first | rfl | assumption) ?_))
  refine Ex.ret rfl rfl rfl ?_
  exact k
theorem k_lisL (hu : H.length = u) (k : Q none (H ++ lisL u)) : Cx (d + 2) mX0_init [.ref u] (H ++ [cO 0 (bo_df 0)]) Q := by
  refine Cx.body rfl rfl ?_
  (repeat (first | refine Ex.go rfl rfl ?_ | refine Ex.gf rfl rfl (by assumption) (by rfl) (by first | rfl | assumption) ?_))
  refine Ex.co rfl rfl rfl ?_
  (repeat (first | refine Ex.go rfl rfl ?_ | refine Ex.gf rfl rfl (by assumption) (by rfl) (by first | rfl | assumption) ?_))
  (refine Ex.ci1 rfl rfl (by first | exact Or.inl rfl | exact Or.inr rfl) rfl app_get rfl (by decide) rfl ?_; refine Cx.rinit app_get (by decide) (by decide) ?_; rw [app_set]; refine Ex.pf rfl rfl (fr_get hu) (by rfl) (by rfl) (by rfl) ?_; rw [fr_set hu, fr_len hu])
  (repeat (first | refine Ex.go rfl rfl ?_ | refine Ex.gf rfl rfl (by assumption) (by rfl) (by first | rfl | assumption) ?_))
  (refine Ex.pf rfl rfl (fr_get0 hu) (by rfl) (by rfl) (by rfl) ?_; rw [fr_set0 hu])
  (repeat (first | refine Ex.go rfl rfl ?_ | refine Ex.gf rfl rfl (by assumption) (by rfl) (by first | rfl | assumption) ?_))
  refine Ex.ret rfl rfl rfl ?_
  exact k
theorem k_rolL (hu : H.length = u) (k : Q none (H ++ rolL u)) : Cx (d + 2) mX3_init [.ref u] (H ++ [cO 3 (bo_df 3)]) Q := by
  refine Cx.body rfl rfl ?_
  (repeat (first | refine Ex.go rfl rfl ?_ | refine Ex.gf rfl rfl (by assumption) (by rfl) (by first | rfl | assumption) ?_))
  refine Ex.co rfl rfl rfl ?_
  (repeat (first | refine Ex.go rfl rfl ?_ | refine Ex.gf rfl rfl (by assumption) (by rfl) (by first | rfl | assumption) ?_))
  (refine Ex.ci1 rfl rfl (by first | exact Or.inl rfl | exact Or.inr rfl) rfl app_get rfl (by decide) rfl ?_; refine Cx.rinit app_get (by decide) (by decide) ?_; rw [app_set]; refine Ex.pf rfl rfl (fr_get hu) (by rfl) (by rfl) (by rfl) ?_; rw [fr_set hu, fr_len hu])
  (repeat (first | refine Ex.go rfl rfl ?_ | refine Ex.gf rfl rfl (by assumption) (by rfl) (by first | rfl | assumption) ?_))
  (refine Ex.ci1 rfl rfl (by first | exact Or.inl rfl | exact Or.inr rfl) rfl app_get rfl (by decide) rfl ?_; refine Cx.rinit app_get (by decide) (by decide) ?_; rw [app_set]; refine Ex.pf rfl rfl (fr_get hu) (by rfl) (by rfl) (by rfl) ?_; rw [fr_set hu, fr_len hu])
  (repeat (first | refine Ex.go rfl rfl ?_ | refine Ex.gf rfl rfl (by assumption) (by rfl) (by first | rfl | assumption) ?_))
  (refine Ex.ci1 rfl rfl (by first | exact Or.inl rfl | exact Or.inr rfl) rfl app_get rfl (by decide) rfl ?_; refine Cx.rinit app_get (by decide) (by decide) ?_; rw [app_set]; refine Ex.pf rfl rfl (fr_get hu) (by rfl) (by rfl) (by rfl) ?_; rw [fr_set hu, fr_len hu])
  (repeat (first | refine Ex.go rfl rfl ?_ | refine Ex.gf rfl rfl (by assumption) (by rfl) (by first | rfl | assumption) ?_))
  (refine Ex.pf rfl rfl (fr_get hu) (by rfl) (by rfl) (by rfl) ?_; rw [fr_set hu, fr_len hu])
  (repeat (first | refine Ex.go rfl rfl ?_ | refine Ex.gf rfl rfl (by assumption) (by rfl) (by first | rfl | assumption) ?_))
  (refine Ex.pf rfl rfl (fr_get0 hu) (by rfl) (by rfl) (by rfl) ?_; rw [fr_set0 hu])
  (repeat (first | refine Ex.go rfl rfl ?_ | refine Ex.gf rfl rfl (by assumption) (by rfl) (by first | rfl | assumption) ?_))
  (refine Ex.pf rfl rfl (fr_get0 hu) (by rfl) (by rfl) (by rfl) ?_; rw [fr_set0 hu])
  (repeat (first | refine Ex.go rfl rfl ?_ | refine Ex.gf rfl rfl (by assumption) (by rfl) (by first | rfl | assumption) ?_))
  (refine Ex.pf rfl rfl (fr_get0 hu) (by rfl) (by rfl) (by rfl) ?_; rw [fr_set0 hu])
  (repeat (first | refine Ex.go rfl rfl ?_ | refine Ex.gf rfl rfl (by assumption) (by rfl) (by first | rfl | assumption) ?_))
  (refine Ex.pf rfl rfl (fr_get0 hu) (by rfl) (by rfl) (by rfl) ?_; rw [fr_set0 hu])
  (repeat (first | refine Ex.go rfl rfl ?_ | refine Ex.gf rfl rfl (by assumption) (by rfl) (by first | rfl | assumption) ?_))
  (refine Ex.pf rfl rfl (fr_get0 hu) (by rfl) (by rfl) (by rfl) ?_; rw [fr_set0 hu])
  (repeat (first | refine Ex.go rfl rfl ?_ | refine Ex.gf rfl rfl (by assumption) (by rfl) (by first | rfl | assumption) ?_))
  refine Ex.ret rfl rfl rfl ?_
  exact k
abbrev sptZ : bo_C := cO 6 [.int 0, .int 0, .int 0, .int 0]
theorem k_sptZ (k : Q none (H ++ [sptZ])) : Cx (d + 1) mX6_init [.ref H.length] (H ++ [cO 6 (bo_df 6)]) Q := by
  refine Cx.body rfl rfl ?_
  (repeat (first | refine Ex.go rfl rfl ?_ | refine Ex.gf rfl rfl (by assumption) (by rfl) (by first | rfl | assumption) ?_))
  refine Ex.co rfl rfl rfl ?_
  (repeat (first | refine Ex.go rfl rfl ?_ | refine Ex.gf rfl rfl (by assumption) (by rfl) (by first | rfl | assumption) ?_))
  refine Ex.ret rfl rfl rfl ?_
  exact k
abbrev pvZ (u : Nat) : bo_C := pvC u 0 0 0 0 0 0 0 0 0 0 0 0 0 0
def pvL (u : Nat) : List bo_C := pvZ u :: cQ 6 12 (fun j => if j < 12 then some (u + 2 + j) else none) :: List.replicate 12 sptZ
theorem va_up_if {a b i : Nat} : va_up (fun j => if j < i then some (a + b * j) else none) i (some (a + b * i)) = fun j => if j < i + 1 then some (a + b * j) else none := by
  funext j
  unfold va_up
  by_cases c : j = i
  · subst c
    rw [if_pos rfl, if_pos (by omega)]
  · rw [if_neg c]
    show (if j < i then some (a + b * j) else none) = _
    by_cases c2 : j < i
    · rw [if_pos c2, if_pos (by omega)]
    · rw [if_neg c2, if_neg (by omega)]
theorem k_pvl (hu : H.length = u) (k : Q none (H ++ pvL u)) : ∀ n i, n + i = 12 → Ex (d + 2) mX2_init (15, [(0, .ref u), (1, .int (nI i))], [], H ++ (pvZ u :: cQ 6 12 (fun j => if j < i then some (u + 2 + 1 * j) else none) :: List.replicate i sptZ)) Q
  | 0, i, hi => by
    have hi : i = 12 := by omega
    subst hi
    have g0 := fr_get0 (o := pvZ u) (l := cQ 6 12 (fun j => if j < 12 then some (u + 2 + 1 * j) else none) :: List.replicate 12 sptZ) hu
    (repeat (first | refine Ex.go rfl rfl ?_ | refine Ex.gf rfl rfl (by assumption) (by rfl) (by first | rfl | assumption) ?_))
    refine Ex.alq rfl (fr_get1 hu) ?_
    (repeat (first | refine Ex.go rfl rfl ?_ | refine Ex.gf rfl rfl (by assumption) (by rfl) (by first | rfl | assumption) ?_))
    refine Ex.ret rfl rfl rfl ?_
    have e : (fun j => if j < 12 then some (u + 2 + j) else none) = fun j => if j < 12 then some (u + 2 + 1 * j) else none := by
      funext j
      rw [Nat.one_mul]
    unfold pvL at k
    rw [e] at k
    exact k
  | n + 1, i, hi => by
    have g0 := fr_get0 (o := pvZ u) (l := cQ 6 12 (fun j => if j < i then some (u + 2 + 1 * j) else none) :: List.replicate i sptZ) hu
    (repeat (first | refine Ex.go rfl rfl ?_ | refine Ex.gf rfl rfl (by assumption) (by rfl) (by first | rfl | assumption) ?_))
    refine Ex.alq rfl (fr_get1 hu) ?_
    (repeat (first | refine Ex.go rfl rfl ?_ | refine Ex.gf rfl rfl (by assumption) (by rfl) (by first | rfl | assumption) ?_))
    refine Ex.br (fun c1 => ?_) (fun c1 => ?_)
    · exact absurd c1 (nI_ge (a := i) (b := 12) (by omega) (by omega))
    · (repeat (first | refine Ex.go rfl rfl ?_ | refine Ex.gf rfl rfl (by assumption) (by rfl) (by first | rfl | assumption) ?_))
      refine Ex.ci0 rfl rfl (by first | exact Or.inl rfl | exact Or.inr rfl) rfl app_get rfl (by decide) rfl ?_
      refine k_sptZ ?_
      refine Ex.aas rfl (fr_get1a hu) app_get ⟨nI_pos' (by omega), by rw [nI_clamp (by omega)]; omega⟩ ?_
      rw [nI_clamp (show i < 2 ^ 31 by omega), fr_set1 hu, fr_len hu, show u + ((cQ 6 12 (fun j => if j < i then some (u + 2 + 1 * j) else none) :: List.replicate i sptZ).length + 1) = u + 2 + 1 * i by rw [List.length_cons, List.length_replicate]; omega, va_up_if, ← List.replicate_succ']
      have ih := k_pvl hu k n (i + 1) (by omega)
      rw [nI_succ] at ih
      (repeat (first | exact ih | refine Ex.go rfl rfl ?_ | refine Ex.gf rfl rfl (by assumption) (by rfl) (by first | rfl | assumption) ?_))
theorem k_pvL (hu : H.length = u) (k : Q none (H ++ pvL u)) : Cx (d + 2) mX2_init [.ref u] (H ++ [cO 2 (bo_df 2)]) Q := by
  refine Cx.body rfl rfl ?_
  (repeat (first | refine Ex.go rfl rfl ?_ | refine Ex.gf rfl rfl (by assumption) (by rfl) (by first | rfl | assumption) ?_))
  refine Ex.co rfl rfl rfl ?_
  (repeat (first | refine Ex.go rfl rfl ?_ | refine Ex.gf rfl rfl (by assumption) (by rfl) (by first | rfl | assumption) ?_))
  (refine Ex.pf rfl rfl (fr_get hu) (by rfl) (by rfl) (by rfl) ?_; rw [fr_set hu, fr_len hu])
  have e : (fun j => if j < 0 then some (u + 2 + 1 * j) else none) = fun _ => (none : Option Nat) := by
    funext j
    rw [if_neg (Nat.not_lt_zero j)]
  have r := k_pvl (d := d) hu k 12 0 rfl
  rw [e] at r
  (repeat (first | exact r | refine Ex.go rfl rfl ?_ | refine Ex.gf rfl rfl (by assumption) (by rfl) (by first | rfl | assumption) ?_))
def pvs (u : Nat) : Nat → List bo_C
  | 0 => []
  | n + 1 => pvs u n ++ pvL (u + 14 * n)
theorem pvL_len : (pvL u).length = 14 := rfl
theorem pvs_len (n : Nat) : (pvs u n).length = 14 * n := by
  induction n with
  | zero => rfl
  | succ n ih =>
    show (pvs u n ++ pvL (u + 14 * n)).length = _
    rw [List.length_append, ih, pvL_len]
    omega
abbrev vwZ (u : Nat) (w : Value) : bo_C := cO 9 [.ref (u + 1), .ref (u + 2), .ref (u + 6), .int 0, w, .int (-1), .int 0, .int 0, .int 1, .int 0, .int 0]
def vwL (u : Nat) : List bo_C := vwZ u .null :: cQ 2 24 (fun j => if j < 24 then some (u + 10 + 14 * j) else none) :: (valL (u + 2) ++ papL (u + 6) ++ pvs (u + 10) 24)
theorem k_vwl (hu : H.length = u) (k : Q none (H ++ vwL u)) : ∀ n i, n + i = 24 → Ex (d + 3) mX9_init (77, [(0, .ref u), (1, .int (nI i))], [], H ++ (vwZ u .null :: cQ 2 24 (fun j => if j < i then some (u + 10 + 14 * j) else none) :: (valL (u + 2) ++ papL (u + 6) ++ pvs (u + 10) i))) Q
  | 0, i, hi => by
    have hi : i = 24 := by omega
    subst hi
    have g0 := fr_get0 (o := vwZ u .null) (l := cQ 2 24 (fun j => if j < 24 then some (u + 10 + 14 * j) else none) :: (valL (u + 2) ++ papL (u + 6) ++ pvs (u + 10) 24)) hu
    (repeat (first | refine Ex.go rfl rfl ?_ | refine Ex.gf rfl rfl (by assumption) (by rfl) (by first | rfl | assumption) ?_))
    refine Ex.alq rfl (fr_get1 hu) ?_
    (repeat (first | refine Ex.go rfl rfl ?_ | refine Ex.gf rfl rfl (by assumption) (by rfl) (by first | rfl | assumption) ?_))
    refine Ex.ret rfl rfl rfl ?_
    exact k
  | n + 1, i, hi => by
    have g0 := fr_get0 (o := vwZ u .null) (l := cQ 2 24 (fun j => if j < i then some (u + 10 + 14 * j) else none) :: (valL (u + 2) ++ papL (u + 6) ++ pvs (u + 10) i)) hu
    (repeat (first | refine Ex.go rfl rfl ?_ | refine Ex.gf rfl rfl (by assumption) (by rfl) (by first | rfl | assumption) ?_))
    refine Ex.alq rfl (fr_get1 hu) ?_
    (repeat (first | refine Ex.go rfl rfl ?_ | refine Ex.gf rfl rfl (by assumption) (by rfl) (by first | rfl | assumption) ?_))
    refine Ex.br (fun c1 => ?_) (fun c1 => ?_)
    · exact absurd c1 (nI_ge (a := i) (b := 24) (by omega) (by omega))
    · (repeat (first | refine Ex.go rfl rfl ?_ | refine Ex.gf rfl rfl (by assumption) (by rfl) (by first | rfl | assumption) ?_))
      refine Ex.ci0 rfl rfl (by first | exact Or.inl rfl | exact Or.inr rfl) rfl app_get rfl (by decide) rfl ?_
      refine k_pvL rfl ?_
      have hlen : (H ++ (vwZ u .null :: cQ 2 24 (fun j => if j < i then some (u + 10 + 14 * j) else none) :: (valL (u + 2) ++ papL (u + 6) ++ pvs (u + 10) i))).length = u + 10 + 14 * i := by
        rw [fr_len hu, List.length_cons, List.length_append, List.length_append, pvs_len]
        show u + (4 + 4 + 14 * i + 1 + 1) = _
        omega
      rw [hlen]
      refine Ex.aas rfl (fr_get1a hu) (by rw [List.getElem?_append_right (by omega), hlen, Nat.sub_self]; rfl) ⟨nI_pos' (by omega), by rw [nI_clamp (by omega)]; omega⟩ ?_
      rw [nI_clamp (show i < 2 ^ 31 by omega), fr_set1 hu, va_up_if, List.append_assoc (valL (u + 2) ++ papL (u + 6))]
      have ih := k_vwl hu k n (i + 1) (by omega)
      rw [nI_succ] at ih
      (repeat (first | exact ih | refine Ex.go rfl rfl ?_ | refine Ex.gf rfl rfl (by assumption) (by rfl) (by first | rfl | assumption) ?_))
theorem k_vwL (hu : H.length = u) (k : Q none (H ++ vwL u)) : Cx (d + 3) mX9_init [.ref u] (H ++ [cO 9 (bo_df 9)]) Q := by
  refine Cx.body rfl rfl ?_
  (repeat (first | refine Ex.go rfl rfl ?_ | refine Ex.gf rfl rfl (by assumption) (by rfl) (by first | rfl | assumption) ?_))
  refine Ex.co rfl rfl rfl ?_
  (repeat (first | refine Ex.go rfl rfl ?_ | refine Ex.gf rfl rfl (by assumption) (by rfl) (by first | rfl | assumption) ?_))
  (refine Ex.pf rfl rfl (fr_get hu) (by rfl) (by rfl) (by rfl) ?_; rw [fr_set hu, fr_len hu])
  (repeat (first | refine Ex.go rfl rfl ?_ | refine Ex.gf rfl rfl (by assumption) (by rfl) (by first | rfl | assumption) ?_))
  (refine Ex.ci0 rfl rfl (by first | exact Or.inl rfl | exact Or.inr rfl) rfl app_get rfl (by decide) rfl ?_; refine k_valL rfl ?_; rw [fr_len hu]; refine Ex.pf rfl rfl (fr_get hu) (by rfl) (by rfl) (by rfl) ?_; rw [fr_set hu])
  (repeat (first | refine Ex.go rfl rfl ?_ | refine Ex.gf rfl rfl (by assumption) (by rfl) (by first | rfl | assumption) ?_))
  (refine Ex.ci0 rfl rfl (by first | exact Or.inl rfl | exact Or.inr rfl) rfl app_get rfl (by decide) rfl ?_; refine k_papL rfl ?_; rw [fr_len hu]; refine Ex.pf rfl rfl (fr_get hu) (by rfl) (by rfl) (by rfl) ?_; rw [fr_set hu])
  (repeat (first | refine Ex.go rfl rfl ?_ | refine Ex.gf rfl rfl (by assumption) (by rfl) (by first | rfl | assumption) ?_))
  (refine Ex.pf rfl rfl (fr_get0 hu) (by rfl) (by rfl) (by rfl) ?_; rw [fr_set0 hu])
  (repeat (first | refine Ex.go rfl rfl ?_ | refine Ex.gf rfl rfl (by assumption) (by rfl) (by first | rfl | assumption) ?_))
  (refine Ex.pf rfl rfl (fr_get0 hu) (by rfl) (by rfl) (by rfl) ?_; rw [fr_set0 hu])
  (repeat (first | refine Ex.go rfl rfl ?_ | refine Ex.gf rfl rfl (by assumption) (by rfl) (by first | rfl | assumption) ?_))
  (refine Ex.pf rfl rfl (fr_get0 hu) (by rfl) (by rfl) (by rfl) ?_; rw [fr_set0 hu])
  (repeat (first | refine Ex.go rfl rfl ?_ | refine Ex.gf rfl rfl (by assumption) (by rfl) (by first | rfl | assumption) ?_))
  (refine Ex.pf rfl rfl (fr_get0 hu) (by rfl) (by rfl) (by rfl) ?_; rw [fr_set0 hu])
  (repeat (first | refine Ex.go rfl rfl ?_ | refine Ex.gf rfl rfl (by assumption) (by rfl) (by first | rfl | assumption) ?_))
  (refine Ex.pf rfl rfl (fr_get0 hu) (by rfl) (by rfl) (by rfl) ?_; rw [fr_set0 hu])
  (repeat (first | refine Ex.go rfl rfl ?_ | refine Ex.gf rfl rfl (by assumption) (by rfl) (by first | rfl | assumption) ?_))
  (refine Ex.pf rfl rfl (fr_get0 hu) (by rfl) (by rfl) (by rfl) ?_; rw [fr_set0 hu])
  (repeat (first | refine Ex.go rfl rfl ?_ | refine Ex.gf rfl rfl (by assumption) (by rfl) (by first | rfl | assumption) ?_))
  (refine Ex.pf rfl rfl (fr_get0 hu) (by rfl) (by rfl) (by rfl) ?_; rw [fr_set0 hu])
  (repeat (first | refine Ex.go rfl rfl ?_ | refine Ex.gf rfl rfl (by assumption) (by rfl) (by first | rfl | assumption) ?_))
  (refine Ex.pf rfl rfl (fr_get0 hu) (by rfl) (by rfl) (by rfl) ?_; rw [fr_set0 hu])
  have e : (fun j => if j < 0 then some (u + 10 + 14 * j) else none) = fun _ => (none : Option Nat) := by
    funext j
    rw [if_neg (Nat.not_lt_zero j)]
  have r := k_vwl (d := d) hu k 24 0 rfl
  rw [e] at r
  (repeat (first | exact r | refine Ex.go rfl rfl ?_ | refine Ex.gf rfl rfl (by assumption) (by rfl) (by first | rfl | assumption) ?_))
def mainL (u : Nat) : List bo_C := cO 10 [.ref (u + 1), .ref (u + 6), .ref (u + 11), .ref (u + 357), .ref (u + 359), .ref (u + 360), .ref (u + 362), .int 0, .int 0] :: (rolL (u + 1) ++ rolL (u + 6) ++ vwL (u + 11) ++ shtL (u + 357) ++ [cR 12 12 []] ++ lisL (u + 360) ++ [cR 40000 16 []])
theorem vwL_len : (vwL u).length = 346 := by
  show (vwZ u .null :: _ :: (valL (u + 2) ++ papL (u + 6) ++ pvs (u + 10) 24)).length = 346
  rw [List.length_cons, List.length_cons, List.length_append, List.length_append, pvs_len]
  rfl
end MK
section MK2
variable {d u : Nat} {H : bo_G} {Q : Option Value → bo_G → Prop}
theorem rolL_len : (rolL u).length = 5 := rfl
theorem shtL_len : (shtL u).length = 2 := rfl
theorem lisL_len : (lisL u).length = 2 := rfl
theorem k_mainL (hu : H.length = u) (k : Q none (H ++ mainL u)) : Cx (d + 4) mX10_init [.ref u] (H ++ [cO 10 (bo_df 10)]) Q := by
  refine Cx.body rfl rfl ?_
  (repeat (first | refine Ex.go rfl rfl ?_ | refine Ex.gf rfl rfl (by assumption) (by rfl) (by first | rfl | assumption) ?_))
  refine Ex.co rfl rfl rfl ?_
  (repeat (first | refine Ex.go rfl rfl ?_ | refine Ex.gf rfl rfl (by assumption) (by rfl) (by first | rfl | assumption) ?_))
  (refine Ex.ci0 rfl rfl (by first | exact Or.inl rfl | exact Or.inr rfl) rfl app_get rfl (by decide) rfl ?_; refine k_rolL rfl ?_; rw [fr_len hu]; refine Ex.pf rfl rfl (fr_get hu) (by rfl) (by rfl) (by rfl) ?_; rw [fr_set hu])
  try simp only [List.length_append, List.length_cons, List.length_nil, rolL_len, vwL_len, shtL_len, lisL_len, Nat.reduceAdd, Nat.zero_add, List.nil_append]
  (repeat (first | refine Ex.go rfl rfl ?_ | refine Ex.gf rfl rfl (by assumption) (by rfl) (by first | rfl | assumption) ?_))
  (refine Ex.ci0 rfl rfl (by first | exact Or.inl rfl | exact Or.inr rfl) rfl app_get rfl (by decide) rfl ?_; refine k_rolL rfl ?_; rw [fr_len hu]; refine Ex.pf rfl rfl (fr_get hu) (by rfl) (by rfl) (by rfl) ?_; rw [fr_set hu])
  try simp only [List.length_append, List.length_cons, List.length_nil, rolL_len, vwL_len, shtL_len, lisL_len, Nat.reduceAdd, Nat.zero_add, List.nil_append]
  (repeat (first | refine Ex.go rfl rfl ?_ | refine Ex.gf rfl rfl (by assumption) (by rfl) (by first | rfl | assumption) ?_))
  (refine Ex.ci0 rfl rfl (by first | exact Or.inl rfl | exact Or.inr rfl) rfl app_get rfl (by decide) rfl ?_; refine k_vwL rfl ?_; rw [fr_len hu]; refine Ex.pf rfl rfl (fr_get hu) (by rfl) (by rfl) (by rfl) ?_; rw [fr_set hu])
  try simp only [List.length_append, List.length_cons, List.length_nil, rolL_len, vwL_len, shtL_len, lisL_len, Nat.reduceAdd, Nat.zero_add, List.nil_append]
  (repeat (first | refine Ex.go rfl rfl ?_ | refine Ex.gf rfl rfl (by assumption) (by rfl) (by first | rfl | assumption) ?_))
  (refine Ex.ci0 rfl rfl (by first | exact Or.inl rfl | exact Or.inr rfl) rfl app_get rfl (by decide) rfl ?_; refine k_shtL rfl ?_; rw [fr_len hu]; refine Ex.pf rfl rfl (fr_get hu) (by rfl) (by rfl) (by rfl) ?_; rw [fr_set hu])
  try simp only [List.length_append, List.length_cons, List.length_nil, rolL_len, vwL_len, shtL_len, lisL_len, Nat.reduceAdd, Nat.zero_add, List.nil_append]
  (repeat (first | refine Ex.go rfl rfl ?_ | refine Ex.gf rfl rfl (by assumption) (by rfl) (by first | rfl | assumption) ?_))
  (refine Ex.ci1 rfl rfl (by first | exact Or.inl rfl | exact Or.inr rfl) rfl app_get rfl (by decide) rfl ?_; refine Cx.rinit app_get (by decide) (by decide) ?_; rw [app_set]; refine Ex.pf rfl rfl (fr_get hu) (by rfl) (by rfl) (by rfl) ?_; rw [fr_set hu, fr_len hu])
  try simp only [List.length_append, List.length_cons, List.length_nil, rolL_len, vwL_len, shtL_len, lisL_len, Nat.reduceAdd, Nat.zero_add, List.nil_append]
  (repeat (first | refine Ex.go rfl rfl ?_ | refine Ex.gf rfl rfl (by assumption) (by rfl) (by first | rfl | assumption) ?_))
  (refine Ex.ci0 rfl rfl (by first | exact Or.inl rfl | exact Or.inr rfl) rfl app_get rfl (by decide) rfl ?_; refine k_lisL rfl ?_; rw [fr_len hu]; refine Ex.pf rfl rfl (fr_get hu) (by rfl) (by rfl) (by rfl) ?_; rw [fr_set hu])
  try simp only [List.length_append, List.length_cons, List.length_nil, rolL_len, vwL_len, shtL_len, lisL_len, Nat.reduceAdd, Nat.zero_add, List.nil_append]
  (repeat (first | refine Ex.go rfl rfl ?_ | refine Ex.gf rfl rfl (by assumption) (by rfl) (by first | rfl | assumption) ?_))
  (refine Ex.ci1 rfl rfl (by first | exact Or.inl rfl | exact Or.inr rfl) rfl app_get rfl (by decide) rfl ?_; refine Cx.rinit app_get (by decide) (by decide) ?_; rw [app_set]; refine Ex.pf rfl rfl (fr_get hu) (by rfl) (by rfl) (by rfl) ?_; rw [fr_set hu, fr_len hu])
  try simp only [List.length_append, List.length_cons, List.length_nil, rolL_len, vwL_len, shtL_len, lisL_len, Nat.reduceAdd, Nat.zero_add, List.nil_append]
  (repeat (first | refine Ex.go rfl rfl ?_ | refine Ex.gf rfl rfl (by assumption) (by rfl) (by first | rfl | assumption) ?_))
  (refine Ex.pf rfl rfl (fr_get0 hu) (by rfl) (by rfl) (by rfl) ?_; rw [fr_set0 hu])
  (repeat (first | refine Ex.go rfl rfl ?_ | refine Ex.gf rfl rfl (by assumption) (by rfl) (by first | rfl | assumption) ?_))
  (refine Ex.pf rfl rfl (fr_get0 hu) (by rfl) (by rfl) (by rfl) ?_; rw [fr_set0 hu])
  (repeat (first | refine Ex.go rfl rfl ?_ | refine Ex.gf rfl rfl (by assumption) (by rfl) (by first | rfl | assumption) ?_))
  refine Ex.ret rfl rfl rfl ?_
  exact k
abbrev zI : Nat → Int32 := fun _ => 0
def mdlL : List bo_C := [cO 11 (rF 0 0 0 0 0 0 0 0 (-1) 0 (.int 0, .int 0, .int 0, .int 0, .int 0) 0 0 0 0), cI 108000 zI, cI 108000 zI, cI 30 zI, cI 30 zI, cI 30 zI, cI 30 zI, cI 720 zI, cI 180 zI, cI 15 zI, cI 40 zI, cI 360 zI, cI 40000 zI, cI 40000 zI]
theorem k_mdlL (hu : H.length = 364) (k : Q none (H ++ mdlL)) : Cx (d + 1) mX11_init [.ref 364] (H ++ [cO 11 (bo_df 11)]) Q := by
  refine Cx.body rfl rfl ?_
  (repeat (first | refine Ex.go rfl rfl ?_ | refine Ex.gf rfl rfl (by assumption) (by rfl) (by first | rfl | assumption) ?_))
  refine Ex.co rfl rfl rfl ?_
  (repeat (first | refine Ex.go rfl rfl ?_ | refine Ex.gf rfl rfl (by assumption) (by rfl) (by first | rfl | assumption) ?_))
  (refine Ex.pf rfl rfl (fr_get hu) (by rfl) (by rfl) (by rfl) ?_; rw [fr_set hu, fr_len hu])
  (repeat (first | refine Ex.go rfl rfl ?_ | refine Ex.gf rfl rfl (by assumption) (by rfl) (by first | rfl | assumption) ?_))
  (refine Ex.pf rfl rfl (fr_get hu) (by rfl) (by rfl) (by rfl) ?_; rw [fr_set hu, fr_len hu])
  (repeat (first | refine Ex.go rfl rfl ?_ | refine Ex.gf rfl rfl (by assumption) (by rfl) (by first | rfl | assumption) ?_))
  (refine Ex.pf rfl rfl (fr_get hu) (by rfl) (by rfl) (by rfl) ?_; rw [fr_set hu, fr_len hu])
  (repeat (first | refine Ex.go rfl rfl ?_ | refine Ex.gf rfl rfl (by assumption) (by rfl) (by first | rfl | assumption) ?_))
  (refine Ex.pf rfl rfl (fr_get hu) (by rfl) (by rfl) (by rfl) ?_; rw [fr_set hu, fr_len hu])
  (repeat (first | refine Ex.go rfl rfl ?_ | refine Ex.gf rfl rfl (by assumption) (by rfl) (by first | rfl | assumption) ?_))
  (refine Ex.pf rfl rfl (fr_get hu) (by rfl) (by rfl) (by rfl) ?_; rw [fr_set hu, fr_len hu])
  (repeat (first | refine Ex.go rfl rfl ?_ | refine Ex.gf rfl rfl (by assumption) (by rfl) (by first | rfl | assumption) ?_))
  (refine Ex.pf rfl rfl (fr_get hu) (by rfl) (by rfl) (by rfl) ?_; rw [fr_set hu, fr_len hu])
  (repeat (first | refine Ex.go rfl rfl ?_ | refine Ex.gf rfl rfl (by assumption) (by rfl) (by first | rfl | assumption) ?_))
  (refine Ex.pf rfl rfl (fr_get hu) (by rfl) (by rfl) (by rfl) ?_; rw [fr_set hu, fr_len hu])
  (repeat (first | refine Ex.go rfl rfl ?_ | refine Ex.gf rfl rfl (by assumption) (by rfl) (by first | rfl | assumption) ?_))
  (refine Ex.pf rfl rfl (fr_get hu) (by rfl) (by rfl) (by rfl) ?_; rw [fr_set hu, fr_len hu])
  (repeat (first | refine Ex.go rfl rfl ?_ | refine Ex.gf rfl rfl (by assumption) (by rfl) (by first | rfl | assumption) ?_))
  (refine Ex.pf rfl rfl (fr_get hu) (by rfl) (by rfl) (by rfl) ?_; rw [fr_set hu, fr_len hu])
  (repeat (first | refine Ex.go rfl rfl ?_ | refine Ex.gf rfl rfl (by assumption) (by rfl) (by first | rfl | assumption) ?_))
  (refine Ex.pf rfl rfl (fr_get0 hu) (by rfl) (by rfl) (by rfl) ?_; rw [fr_set0 hu])
  (repeat (first | refine Ex.go rfl rfl ?_ | refine Ex.gf rfl rfl (by assumption) (by rfl) (by first | rfl | assumption) ?_))
  (refine Ex.pf rfl rfl (fr_get hu) (by rfl) (by rfl) (by rfl) ?_; rw [fr_set hu, fr_len hu])
  (repeat (first | refine Ex.go rfl rfl ?_ | refine Ex.gf rfl rfl (by assumption) (by rfl) (by first | rfl | assumption) ?_))
  (refine Ex.pf rfl rfl (fr_get hu) (by rfl) (by rfl) (by rfl) ?_; rw [fr_set hu, fr_len hu])
  (repeat (first | refine Ex.go rfl rfl ?_ | refine Ex.gf rfl rfl (by assumption) (by rfl) (by first | rfl | assumption) ?_))
  (refine Ex.pf rfl rfl (fr_get hu) (by rfl) (by rfl) (by rfl) ?_; rw [fr_set hu, fr_len hu])
  (repeat (first | refine Ex.go rfl rfl ?_ | refine Ex.gf rfl rfl (by assumption) (by rfl) (by first | rfl | assumption) ?_))
  (refine Ex.pf rfl rfl (fr_get hu) (by rfl) (by rfl) (by rfl) ?_; rw [fr_set hu, fr_len hu])
  (repeat (first | refine Ex.go rfl rfl ?_ | refine Ex.gf rfl rfl (by assumption) (by rfl) (by first | rfl | assumption) ?_))
  refine Ex.ret rfl rfl rfl ?_
  exact k
end MK2

/-! The class: goTo, enterMeasure. -/
section CE
variable {d a m r lim cap : Nat} {G G' : bo_G} {Q : Option Value → bo_G → Prop} {us : List Nat} {lg : Nat → Int32} {E c : Nat} {ke : Int32} {nn : Nat → Int32} {ts : List Int32}
theorem NT_pass (N : NT G us lg E) : NT G us (lgN lg E 0 nn) (E + 1) := by
  have N2 := NT_lgE N (lgN_E (lg := lg) (c := 0) (nn := nn))
  have hc : cod (lgN lg E 0 nn) E = 0 := lgN_cod
  have ev : vsl (lgN lg E 0 nn) (E + 1) = vsl (lgN lg E 0 nn) E := by rw [vsl_s, if_neg (by rw [hc]; decide), List.append_nil]
  refine ⟨N2.1, by rw [ev]; exact N2.2.1, N2.2.2.1, N2.2.2.2.1, fun j u hu => ?_⟩
  obtain ⟨x, K, v, l, n⟩ := N2.2.2.2.2 j u hu
  refine ⟨x, K, v, l, fun hj => ?_⟩
  rw [ev] at hj
  exact VN_other (n hj) hj fun z => by
    have := z.1.1
    rw [hc] at this
    exact absurd this (by decide)
theorem c_goTo {dy : Int32} (ha : a = 2 ∨ a = 7) (C : CR G a us lg E ke) (hW : WF lg E) (k0 : rfs lg E 0 (n6 dy 0 0 0 0 0) < 0 → Q (some (.int (rfs lg E 0 (n6 dy 0 0 0 0 0)))) G) (k1 : rfs lg E 0 (n6 dy 0 0 0 0 0) = 0 → ∀ G', CR G' a us (lgN lg E 0 (n6 dy 0 0 0 0 0)) (E + 1) (nI (acl lg E).length) → FO a G G' → Q (some (.int dy)) G') : Cx (d + 3) mX3_goTo [.ref a, .int dy] G Q := by
  have hr : rfs lg E 0 (n6 dy 0 0 0 0 0) = if ¬ rng dy (tdy lg E).toInt 40000 then -2 else if (osl lg E).length = 4000 then -4 else 0 := rfl
  obtain ⟨R, N⟩ := C
  have h0 := R.1
  have ho4 := hW.2.2.2
  refine Cx.body rfl rfl ?_
  (repeat (first | refine Ex.go rfl rfl ?_ | refine Ex.gf rfl rfl (by assumption) (by rfl) (by first | rfl | assumption) ?_))
  refine Ex.cs3 rfl rfl rfl rfl rfl rfl ?_
  refine c_withinP (lo := (tdy lg E).toInt) (hi := 40000) rfl k40 (fun P1 d1 i1 => ?_)
  (repeat (first | refine Ex.go rfl rfl ?_ | refine Ex.gf rfl rfl (by assumption) (by rfl) (by first | rfl | assumption) ?_))
  first | (refine Ex.brz (fun c1 => ?_) (fun c1 => ?_); rotate_left) | (refine Ex.brn (fun c1 => ?_) (fun c1 => ?_); rotate_left)
  · rw [if_pos (fun q => c1 (i1.mpr q))] at hr
    have k := k0 (by rw [hr]; decide)
    rw [hr] at k
    (repeat (first | refine Ex.go rfl rfl ?_ | refine Ex.gf rfl rfl (by assumption) (by rfl) (by first | rfl | assumption) ?_))
    refine Ex.ret rfl rfl rfl ?_
    exact k
  rw [if_neg (fun z => z (i1.mp c1))] at hr
  (repeat (first | refine Ex.go rfl rfl ?_ | refine Ex.gf rfl rfl (by assumption) (by rfl) (by first | rfl | assumption) ?_))
  refine Ex.br (fun c2 => ?_) (fun c2 => ?_); rotate_left
  · have c3 : ¬ nI (osl lg E).length < nI 4000 := c2
    have c4 : (osl lg E).length = 4000 := by
      have : ¬ (osl lg E).length < 4000 := fun z => c3 (nI_lt z (by omega))
      omega
    rw [if_pos c4] at hr
    have k := k0 (by rw [hr]; decide)
    rw [hr] at k
    (repeat (first | refine Ex.go rfl rfl ?_ | refine Ex.gf rfl rfl (by assumption) (by rfl) (by first | rfl | assumption) ?_))
    refine Ex.ret rfl rfl rfl ?_
    exact k
  have c3 : ¬ (osl lg E).length = 4000 := fun z => by
    have c4 : nI (osl lg E).length < nI 4000 := c2
    rw [nI_ltI (by omega) (by omega)] at c4
    omega
  rw [if_neg c3] at hr
  have hW2 := (WF_N hW (show 0 < 12 by omega) hr).2.2
  have hil := WF_img hW2
  have eE : lgE lg (lgN lg E 0 (n6 dy 0 0 0 0 0)) E := lgN_E
  have eim : img (lgN lg E 0 (n6 dy 0 0 0 0 0)) (E + 1) = img lg E ++ [0] ++ [dy] := by
    show img (lgN lg E 0 (n6 dy 0 0 0 0 0)) E ++ (cod (lgN lg E 0 (n6 dy 0 0 0 0 0)) E :: (List.range (nums (cod (lgN lg E 0 (n6 dy 0 0 0 0 0)) E))).map (num (lgN lg E 0 (n6 dy 0 0 0 0 0)) E)) = _
    rw [lgE_img eE E (Nat.le_refl E), lgN_cod, show nums (nI 0) = 1 by decide]
    show img lg E ++ [nI 0, num (lgN lg E 0 (n6 dy 0 0 0 0 0)) E 0] = _
    rw [lgN_num0, List.append_assoc]
    rfl
  rw [eim] at hil
  simp at hil
  have k := k1 hr
  obtain ⟨ci, h1⟩ := R.2.1
  obtain ⟨cp, h2⟩ := R.2.2.1
  have hlt := R.lt
  have hfl : ((acl lg E).map (fun q => nI (posn lg q))).length = (acl lg E).length := List.length_map ..
  have hApp : ∀ (y : rlT) (c1 c2 : Nat) (im pl : List Int32), ap ([(a, rC a y), (a + 1, cR 40000 c1 im), (a + 2, cR 2000 c2 pl)].map Prod.fst) G.length := fun y c1 c2 im pl => by
    show ap [a, a + 1, a + 2] G.length
    refine ⟨by simp, fun b hb => ?_⟩
    simp at hb
    omega
  have hA := hApp (nI (vsl lg E).length, nI (rsl lg E).length, nI (osl lg E).length, tdy lg E, ke) ci cp (img lg E) ((acl lg E).map fun q => nI (posn lg q))
  refine Ex.lay [(a, rC a (nI (vsl lg E).length, nI (rsl lg E).length, nI (osl lg E).length, tdy lg E, ke)), (a + 1, cR 40000 ci (img lg E)), (a + 2, cR 2000 cp ((acl lg E).map fun q => nI (posn lg q)))] (by simp only [List.forall_mem_cons]; exact ⟨h0, h1, h2, fun _ z => absurd z List.not_mem_nil⟩) ?_
  (repeat (first | refine Ex.go rfl rfl ?_ | refine Ex.gf rfl rfl (ov_get hA 0 rfl) (by rfl) (by rfl) ?_ | refine Ex.gf rfl rfl (ov_get hA 1 rfl) (by rfl) (by rfl) ?_ | refine Ex.gf rfl rfl (ov_get hA 2 rfl) (by rfl) (by rfl) ?_ | refine Ex.gf rfl rfl (ov_get hA 3 rfl) (by rfl) (by rfl) ?_ | refine Ex.gf rfl rfl (ov_get hA 4 rfl) (by rfl) (by rfl) ?_ | refine Ex.gf rfl rfl (ov_get hA 5 rfl) (by rfl) (by rfl) ?_ | refine Ex.gf rfl rfl (ov_get hA 6 rfl) (by rfl) (by rfl) ?_ | (refine Ex.pfo hA 0 rfl rfl rfl (by rfl) (by rfl) (by rfl) ?_; dsimp only [List.set]) | (refine Ex.pfo hA 1 rfl rfl rfl (by rfl) (by rfl) (by rfl) ?_; dsimp only [List.set]) | (refine Ex.pfo hA 2 rfl rfl rfl (by rfl) (by rfl) (by rfl) ?_; dsimp only [List.set]) | (refine Ex.pfo hA 3 rfl rfl rfl (by rfl) (by rfl) (by rfl) ?_; dsimp only [List.set]) | (refine Ex.pfo hA 4 rfl rfl rfl (by rfl) (by rfl) (by rfl) ?_; dsimp only [List.set]) | (refine Ex.pfo hA 5 rfl rfl rfl (by rfl) (by rfl) (by rfl) ?_; dsimp only [List.set]) | (refine Ex.pfo hA 6 rfl rfl rfl (by rfl) (by rfl) (by rfl) ?_; dsimp only [List.set])))
  refine Ex.cv0 rfl rfl rfl (ov_get hA 2 rfl) (by rfl) (by decide) rfl ?_
  refine s_size (ov_get hA 2 rfl) ?_
  rw [hfl]
  (repeat (first | refine Ex.go rfl rfl ?_ | refine Ex.gf rfl rfl (ov_get hA 0 rfl) (by rfl) (by rfl) ?_ | refine Ex.gf rfl rfl (ov_get hA 1 rfl) (by rfl) (by rfl) ?_ | refine Ex.gf rfl rfl (ov_get hA 2 rfl) (by rfl) (by rfl) ?_ | refine Ex.gf rfl rfl (ov_get hA 3 rfl) (by rfl) (by rfl) ?_ | refine Ex.gf rfl rfl (ov_get hA 4 rfl) (by rfl) (by rfl) ?_ | refine Ex.gf rfl rfl (ov_get hA 5 rfl) (by rfl) (by rfl) ?_ | refine Ex.gf rfl rfl (ov_get hA 6 rfl) (by rfl) (by rfl) ?_ | (refine Ex.pfo hA 0 rfl rfl rfl (by rfl) (by rfl) (by rfl) ?_; dsimp only [List.set]) | (refine Ex.pfo hA 1 rfl rfl rfl (by rfl) (by rfl) (by rfl) ?_; dsimp only [List.set]) | (refine Ex.pfo hA 2 rfl rfl rfl (by rfl) (by rfl) (by rfl) ?_; dsimp only [List.set]) | (refine Ex.pfo hA 3 rfl rfl rfl (by rfl) (by rfl) (by rfl) ?_; dsimp only [List.set]) | (refine Ex.pfo hA 4 rfl rfl rfl (by rfl) (by rfl) (by rfl) ?_; dsimp only [List.set]) | (refine Ex.pfo hA 5 rfl rfl rfl (by rfl) (by rfl) (by rfl) ?_; dsimp only [List.set]) | (refine Ex.pfo hA 6 rfl rfl rfl (by rfl) (by rfl) (by rfl) ?_; dsimp only [List.set])))
  refine Ex.cv1 rfl rfl rfl (ov_get hA 1 rfl) (by rfl) (by decide) rfl ?_
  refine Cx.radd (ov_get hA 1 rfl) ?_
  refine Ex.os hA 1 rfl ?_
  dsimp only [List.set]
  rw [show bo_add 40000 (img lg E) (Int32.ofInt 0) = img lg E ++ [0] from if_pos (by omega)]
  have hA := hApp (nI (vsl lg E).length, nI (rsl lg E).length, nI (osl lg E).length + 1, dy, nI (acl lg E).length) (bo_cap 40000 ci (img lg E).length) cp (img lg E ++ [0]) ((acl lg E).map fun q => nI (posn lg q))
  (repeat (first | refine Ex.go rfl rfl ?_ | refine Ex.gf rfl rfl (ov_get hA 0 rfl) (by rfl) (by rfl) ?_ | refine Ex.gf rfl rfl (ov_get hA 1 rfl) (by rfl) (by rfl) ?_ | refine Ex.gf rfl rfl (ov_get hA 2 rfl) (by rfl) (by rfl) ?_ | refine Ex.gf rfl rfl (ov_get hA 3 rfl) (by rfl) (by rfl) ?_ | refine Ex.gf rfl rfl (ov_get hA 4 rfl) (by rfl) (by rfl) ?_ | refine Ex.gf rfl rfl (ov_get hA 5 rfl) (by rfl) (by rfl) ?_ | refine Ex.gf rfl rfl (ov_get hA 6 rfl) (by rfl) (by rfl) ?_ | (refine Ex.pfo hA 0 rfl rfl rfl (by rfl) (by rfl) (by rfl) ?_; dsimp only [List.set]) | (refine Ex.pfo hA 1 rfl rfl rfl (by rfl) (by rfl) (by rfl) ?_; dsimp only [List.set]) | (refine Ex.pfo hA 2 rfl rfl rfl (by rfl) (by rfl) (by rfl) ?_; dsimp only [List.set]) | (refine Ex.pfo hA 3 rfl rfl rfl (by rfl) (by rfl) (by rfl) ?_; dsimp only [List.set]) | (refine Ex.pfo hA 4 rfl rfl rfl (by rfl) (by rfl) (by rfl) ?_; dsimp only [List.set]) | (refine Ex.pfo hA 5 rfl rfl rfl (by rfl) (by rfl) (by rfl) ?_; dsimp only [List.set]) | (refine Ex.pfo hA 6 rfl rfl rfl (by rfl) (by rfl) (by rfl) ?_; dsimp only [List.set])))
  refine Ex.cv1 rfl rfl rfl (ov_get hA 1 rfl) (by rfl) (by decide) rfl ?_
  refine Cx.radd (ov_get hA 1 rfl) ?_
  refine Ex.os hA 1 rfl ?_
  dsimp only [List.set]
  rw [show bo_add 40000 (img lg E ++ [0]) dy = img lg E ++ [0] ++ [dy] from if_pos (by rw [List.length_append]; simp; omega)]
  (repeat (first | refine Ex.go rfl rfl ?_ | refine Ex.gf rfl rfl (ov_get hA 0 rfl) (by rfl) (by rfl) ?_ | refine Ex.gf rfl rfl (ov_get hA 1 rfl) (by rfl) (by rfl) ?_ | refine Ex.gf rfl rfl (ov_get hA 2 rfl) (by rfl) (by rfl) ?_ | refine Ex.gf rfl rfl (ov_get hA 3 rfl) (by rfl) (by rfl) ?_ | refine Ex.gf rfl rfl (ov_get hA 4 rfl) (by rfl) (by rfl) ?_ | refine Ex.gf rfl rfl (ov_get hA 5 rfl) (by rfl) (by rfl) ?_ | refine Ex.gf rfl rfl (ov_get hA 6 rfl) (by rfl) (by rfl) ?_ | (refine Ex.pfo hA 0 rfl rfl rfl (by rfl) (by rfl) (by rfl) ?_; dsimp only [List.set]) | (refine Ex.pfo hA 1 rfl rfl rfl (by rfl) (by rfl) (by rfl) ?_; dsimp only [List.set]) | (refine Ex.pfo hA 2 rfl rfl rfl (by rfl) (by rfl) (by rfl) ?_; dsimp only [List.set]) | (refine Ex.pfo hA 3 rfl rfl rfl (by rfl) (by rfl) (by rfl) ?_; dsimp only [List.set]) | (refine Ex.pfo hA 4 rfl rfl rfl (by rfl) (by rfl) (by rfl) ?_; dsimp only [List.set]) | (refine Ex.pfo hA 5 rfl rfl rfl (by rfl) (by rfl) (by rfl) ?_; dsimp only [List.set]) | (refine Ex.pfo hA 6 rfl rfl rfl (by rfl) (by rfl) (by rfl) ?_; dsimp only [List.set])))
  refine Ex.ret rfl rfl rfl ?_
  generalize bo_cap 40000 (bo_cap 40000 ci (img lg E).length) (img lg E ++ [0]).length = cc
  have hA := hApp (nI (vsl lg E).length, nI (rsl lg E).length, nI (osl lg E).length + 1, dy, nI (acl lg E).length) cc cp (img lg E ++ [0] ++ [dy]) ((acl lg E).map fun q => nI (posn lg q))
  have F : FO a G (ov G [(a, rC a (nI (vsl lg E).length, nI (rsl lg E).length, nI (osl lg E).length + 1, dy, nI (acl lg E).length)), (a + 1, cR 40000 cc (img lg E ++ [0] ++ [dy])), (a + 2, cR 2000 cp ((acl lg E).map fun q => nI (posn lg q)))]) := ⟨ov_len _ _, fun j hj => ov_ne (by simp; omega)⟩
  refine k _ ⟨?_, NT_pass (N.FO (by omega) F)⟩ F
  have ea : acl (lgN lg E 0 (n6 dy 0 0 0 0 0)) (E + 1) = acl lg E := by rw [acl_N (by omega), if_pos rfl, List.append_nil]
  have e1 : vsl (lgN lg E 0 (n6 dy 0 0 0 0 0)) (E + 1) = vsl lg E := by rw [vsl_N (by omega), if_neg (by omega), List.append_nil]
  have e2 : rsl (lgN lg E 0 (n6 dy 0 0 0 0 0)) (E + 1) = rsl lg E := by rw [rsl_N (by omega), if_neg (by omega), List.append_nil]
  have e3 : nI (osl (lgN lg E 0 (n6 dy 0 0 0 0 0)) (E + 1)).length = nI (osl lg E).length + 1 := by rw [osl_N (by omega), if_pos rfl, List.length_append]; exact (nI_1 _).symm
  have e4 : tdy (lgN lg E 0 (n6 dy 0 0 0 0 0)) (E + 1) = dy := by rw [tdy_N (by omega), if_pos rfl]; rfl
  have e5 : (acl lg E).map (fun q => nI (posn (lgN lg E 0 (n6 dy 0 0 0 0 0)) q)) = (acl lg E).map fun q => nI (posn lg q) := List.map_congr_left fun q hq => by unfold posn; rw [lgE_img eE q (Nat.le_of_lt (sel_mem.mp hq).1)]
  have e6 : (acl lg E).map (ent (lgN lg E 0 (n6 dy 0 0 0 0 0))) = (acl lg E).map (ent lg) := List.map_congr_left fun q hq => lgE_ent eE (sel_mem.mp hq).1
  rw [ea, e1, e2, e3, e4, e5, e6, eim]
  obtain ⟨c3, h3⟩ := R.2.2.2.1
  exact ⟨ov_get hA 0 rfl, ⟨cc, ov_get hA 1 rfl⟩, ⟨cp, ov_get hA 2 rfl⟩, ⟨c3, by rw [ov_ne (by simp)]; exact h3⟩, by rw [ov_ne (by simp)]; exact R.2.2.2.2⟩
def atP (ts : List Int32) (fi : Nat) (s : Int32) : Prop := ∀ k, k < 12 → rng (bo_at ts (nI (fi + k))) (-1) (if (k : Int) < s.toInt then 10000 else -1)
theorem c_areTenths {fi : Nat} {s : Int32} (hr : G[r]? = some (cR lim cap ts)) (k0 : ¬ atP ts fi s → Q (some (.int 0)) G) (k1 : atP ts fi s → Q (some (.int 1)) G) : Cx (d + 1) mX3_areTenths [.ref r, .int (nI fi), .int s] G Q := by
  refine Cx.body rfl rfl ?_
  have loop : ∀ (e i : Nat) (b : Int32), b = nI i → i + e = 12 → (∀ k, k < i → rng (bo_at ts (nI (fi + k))) (-1) (if (k : Int) < s.toInt then 10000 else -1)) → Ex (d + 1) mX3_areTenths (2, [(0, .ref r), (1, .int (nI fi)), (2, .int s), (3, .int b)], [], G) Q := by
    intro e
    induction e with
    | zero =>
      intro i b hb hi hk
      subst hb
      have k := k1 fun j hj => hk j (by omega)
      (repeat (first | refine Ex.go rfl rfl ?_ | refine Ex.gf rfl rfl (by assumption) (by rfl) (by first | rfl | assumption) ?_))
      refine Ex.br (fun hc => ?_) (fun hc => ?_); rotate_left
      · exact absurd (nI_le (show 12 ≤ i by omega) (by omega)) hc
      (repeat (first | refine Ex.go rfl rfl ?_ | refine Ex.gf rfl rfl (by assumption) (by rfl) (by first | rfl | assumption) ?_))
      refine Ex.retz rfl rfl rfl (Or.inr rfl) ?_
      exact k
    | succ e ih =>
      intro i b hb hi hk
      subst hb
      have rest : ∀ B : Int32, B.toInt = (if (i : Int) < s.toInt then 10000 else -1) → Ex (d + 1) mX3_areTenths (20, [(0, .ref r), (1, .int (nI fi)), (2, .int s), (3, .int (nI i))], [.int B], G) Q := by
        intro B hB
        (repeat (first | refine Ex.go rfl rfl ?_ | refine Ex.gf rfl rfl (by assumption) (by rfl) (by first | rfl | assumption) ?_))
        refine Ex.cv1 rfl rfl rfl hr (by rfl) (by decide) rfl ?_
        refine Cx.ratE hr (show bo_at ts (nI fi + nI i) = bo_at ts (nI (fi + i)) by rw [nI_add]) ?_
        (repeat (first | refine Ex.go rfl rfl ?_ | refine Ex.gf rfl rfl (by assumption) (by rfl) (by first | rfl | assumption) ?_))
        refine Ex.cs3 rfl rfl rfl rfl rfl rfl ?_
        refine c_withinP (lo := -1) (by decide +kernel) hB (fun P4 d4 i4 => ?_)
        (repeat (first | refine Ex.go rfl rfl ?_ | refine Ex.gf rfl rfl (by assumption) (by rfl) (by first | rfl | assumption) ?_))
        first | (refine Ex.brz (fun c4 => ?_) (fun c4 => ?_); rotate_left) | (refine Ex.brn (fun c4 => ?_) (fun c4 => ?_); rotate_left)
        · have k := k0 fun z => c4 (i4.mpr (z i (by omega)))
          (repeat (first | refine Ex.go rfl rfl ?_ | refine Ex.gf rfl rfl (by assumption) (by rfl) (by first | rfl | assumption) ?_))
          refine Ex.retz rfl rfl rfl (Or.inl rfl) ?_
          exact k
        have nxt := ih (i + 1) _ (nI_1 i) (by omega) (fun j hj => if hji : j = i then by rw [hji]; exact i4.mp c4 else hk j (by omega))
        (repeat (first | exact nxt | refine Ex.go rfl rfl ?_ | refine Ex.gf rfl rfl (by assumption) (by rfl) (by first | rfl | assumption) ?_))
      (repeat (first | refine Ex.go rfl rfl ?_ | refine Ex.gf rfl rfl (by assumption) (by rfl) (by first | rfl | assumption) ?_))
      refine Ex.br (fun hc => ?_) (fun hc => ?_)
      · have := (n_ge (a := i) (b := 12) (by omega) (by omega)).mp hc
        omega
      (repeat (first | refine Ex.go rfl rfl ?_ | refine Ex.gf rfl rfl (by assumption) (by rfl) (by first | rfl | assumption) ?_))
      refine Ex.br (fun h1 => ?_) (fun h1 => ?_)
      · have h2 := Int32.le_iff_toInt_le.mp h1
        rw [nI_toInt (by omega)] at h2
        (repeat (first | exact rest (-1) (by rw [if_neg (by omega)]; decide +kernel) | refine Ex.go rfl rfl ?_ | refine Ex.gf rfl rfl (by assumption) (by rfl) (by first | rfl | assumption) ?_))
      · have h2 : ¬ s.toInt ≤ (nI i).toInt := fun z => h1 (Int32.le_iff_toInt_le.mpr z)
        rw [nI_toInt (by omega)] at h2
        (repeat (first | exact rest 10000 (by rw [if_pos (by omega)]; decide +kernel) | refine Ex.go rfl rfl ?_ | refine Ex.gf rfl rfl (by assumption) (by rfl) (by first | rfl | assumption) ?_))
  (repeat (first | exact loop 12 0 _ rfl (by omega) (fun j hj => absurd hj (Nat.not_lt_zero _)) | refine Ex.go rfl rfl ?_ | refine Ex.gf rfl rfl (by assumption) (by rfl) (by first | rfl | assumption) ?_))
def mNn (v p dy : Int32) (ts : List Int32) (fi : Nat) : Nat → Int32 := fun j => if j = 0 then v else if j = 1 then p else if j = 2 then dy else bo_at ts (nI (fi + (j - 3)))
theorem mNn_3 {v p dy : Int32} {fi k : Nat} : mNn v p dy ts fi (3 + k) = bo_at ts (nI (fi + k)) := by
  unfold mNn
  rw [if_neg (by omega), if_neg (by omega), if_neg (by omega), show 3 + k - 3 = k by omega]
theorem c_enterMeasure {v p dy : Int32} {fi : Nat} (ha : a = 2 ∨ a = 7) (C : CR G a us lg E ke) (hW : WF lg E) (hm : G.length = 378 + 6 * m) (hr0 : G[r]? = some (cR lim cap ts)) (hra : 12 ≤ r ∧ r < 378) (k0 : rfs lg E 4 (mNn v p dy ts fi) < 0 → Q (some (.int (rfs lg E 4 (mNn v p dy ts fi)))) G) (k1 : rfs lg E 4 (mNn v p dy ts fi) = 0 → ∀ G' us', CR G' a us' (lgN lg E 4 (mNn v p dy ts fi)) (E + 1) ke → FC a us G us' G' → Q (some (.int (ansI lg E 4 (mNn v p dy ts fi)))) G') : Cx (d + 6) mX3_enterMeasure [.ref a, .int v, .int p, .int dy, .ref r, .int (nI fi)] G Q := by
  have hr : rfs lg E 4 (mNn v p dy ts fi) = if ¬ (0 ≤ v.toInt ∧ v.toInt < (vsl lg E).length) then -1 else if ¬ (0 ≤ p.toInt ∧ p.toInt < (psl lg E v.toNatClampNeg).length) then -1 else if ¬ dok lg E v.toNatClampNeg dy then -2 else if ¬ (∀ k, k < 12 → rng (mNn v p dy ts fi (3 + k)) (-1) (if (k : Int) < (sho lg E (nI v.toNatClampNeg) (nI p.toNatClampNeg) 40000 2 1).toInt then 10000 else -1)) then -2 else if (acl lg E).length = 2000 then -4 else 0 := rfl
  have hh0 := C.1.1
  refine Cx.body rfl rfl ?_
  (repeat (first | refine Ex.go rfl rfl ?_ | refine Ex.gf rfl rfl (by assumption) (by rfl) (by first | rfl | assumption) ?_))
  refine Ex.cv1 rfl rfl rfl C.1.1 (by rfl) (by decide) rfl ?_
  refine c_vesselAt C hW.2.1 (fun hno => ?_) (fun v' u ev evn hv hu => ?_)
  · rw [if_pos hno] at hr
    have k := k0 (by rw [hr]; decide)
    rw [hr] at k
    (repeat (first | refine Ex.go rfl rfl ?_ | refine Ex.gf rfl rfl (by assumption) (by rfl) (by first | rfl | assumption) ?_))
    refine Ex.ret rfl rfl rfl ?_
    exact k
  have hvl := sel_len E fun i => cod lg i == 1
  have hE6 : E ≤ 6000 := by have := acl_osl (lg := lg) (E := E); have := hW.2.2.1; have := hW.2.2.2; omega
  have hv31 : v' < 2 ^ 31 := by unfold vsl at hv; omega
  have hvi : 0 ≤ v.toInt ∧ v.toInt < (vsl lg E).length := by rw [ev, nI_toInt hv31]; omega
  rw [if_neg (fun z => z hvi), evn] at hr
  obtain ⟨x, K, V, L, nv⟩ := C.2.2.2.2.2 v' u hu
  obtain ⟨rfl, n1, n2, n3, n4, n5⟩ := nv hv
  have hV0 := V.1
  have hwv := wf_v hW.1 hv
  have hdk : ∀ x, dok lg E v' x ↔ ((num lg (vat lg E v') 3).toInt ≤ x.toInt ∧ x.toInt ≤ (tdy lg E).toInt) := fun x => by unfold dok rng; rw [hwv.2.2.2.2.2]
  obtain ⟨mu, emu⟩ := C.2.2.2.2.1 u (List.mem_of_getElem? hu)
  have eK : K.1.length = (psl lg E v').length := by rw [n1, List.length_map]
  have hp24 := psl_le hW.1 hE6 hv31
  (repeat (first | refine Ex.go rfl rfl ?_ | refine Ex.gf rfl rfl (by assumption) (by rfl) (by first | rfl | assumption) ?_))
  refine Ex.cv1 rfl rfl rfl hV0 (by rfl) (by decide) rfl ?_
  refine c_hasPart V L ?_
  rw [eK]
  (repeat (first | refine Ex.go rfl rfl ?_ | refine Ex.gf rfl rfl (by assumption) (by rfl) (by first | rfl | assumption) ?_))
  first | (refine Ex.brz (fun hpp => ?_) (fun hpp => ?_); rotate_left) | (refine Ex.brn (fun hpp => ?_) (fun hpp => ?_); rotate_left)
  · rw [if_pos hpp] at hr
    have k := k0 (by rw [hr]; decide)
    rw [hr] at k
    (repeat (first | refine Ex.go rfl rfl ?_ | refine Ex.gf rfl rfl (by assumption) (by rfl) (by first | rfl | assumption) ?_))
    refine Ex.ret rfl rfl rfl ?_
    exact k
  rw [if_neg (fun z => z hpp)] at hr
  obtain ⟨ep1, ep2, ep3⟩ := nI_iof hpp.1
  have hpl' : p.toNatClampNeg < (psl lg E v').length := by omega
  (repeat (first | refine Ex.go rfl rfl ?_ | refine Ex.gf rfl rfl (by assumption) (by rfl) (by first | rfl | assumption) ?_))
  refine Ex.cs3 rfl rfl rfl rfl rfl rfl ?_
  refine c_withinP (lo := (num lg (vat lg E v') 3).toInt) (hi := (tdy lg E).toInt) rfl rfl (fun Pc3 dc3 ic3 => ?_)
  (repeat (first | refine Ex.go rfl rfl ?_ | refine Ex.gf rfl rfl (by assumption) (by rfl) (by first | rfl | assumption) ?_))
  first | (refine Ex.brz (fun c3 => ?_) (fun c3 => ?_); rotate_left) | (refine Ex.brn (fun c3 => ?_) (fun c3 => ?_); rotate_left)
  · rw [if_pos (fun q => c3 (ic3.mpr ((hdk _).mp (q))))] at hr
    have k := k0 (by rw [hr]; decide)
    rw [hr] at k
    (repeat (first | refine Ex.go rfl rfl ?_ | refine Ex.gf rfl rfl (by assumption) (by rfl) (by first | rfl | assumption) ?_))
    refine Ex.ret rfl rfl rfl ?_
    exact k
  have c3 := (hdk _).mpr (ic3.mp c3)
  rw [if_neg (fun z => z c3)] at hr
  obtain ⟨cs, hk2⟩ := V.2.2.1
  have esp : bo_at K.2.1 p = sho lg E (nI v') (nI p.toNatClampNeg) 40000 2 1 := by
    have h1 := lst_at (xs := K.2.1) (p := p.toNatClampNeg) (v := sho lg E (nI v') (nI p.toNatClampNeg) 40000 2 1) (by rw [n2]; simp; omega) ep3 (by rw [n2, List.getElem?_map, List.getElem?_range hpl']; rfl)
    rw [← ep1] at h1
    rw [← ep1]
    exact h1
  have eqP : (∀ k, k < 12 → rng (mNn v p dy ts fi (3 + k)) (-1) (if (k : Int) < (sho lg E (nI v') (nI p.toNatClampNeg) 40000 2 1).toInt then 10000 else -1)) ↔ atP ts fi (sho lg E (nI v') (nI p.toNatClampNeg) 40000 2 1) := ⟨fun z k hk => by rw [← mNn_3 (v := v) (p := p) (dy := dy)]; exact z k hk, fun z k hk => by rw [mNn_3]; exact z k hk⟩
  (repeat (first | refine Ex.go rfl rfl ?_ | refine Ex.gf rfl rfl (by assumption) (by rfl) (by first | rfl | assumption) ?_))
  refine Ex.cv1 rfl rfl rfl hk2 (by rfl) (by decide) rfl ?_
  refine Cx.ratE hk2 esp ?_
  (repeat (first | refine Ex.go rfl rfl ?_ | refine Ex.gf rfl rfl (by assumption) (by rfl) (by first | rfl | assumption) ?_))
  refine Ex.cs3 rfl rfl rfl rfl rfl rfl ?_
  refine c_areTenths hr0 (fun hno => ?_) (fun hyes => ?_)
  · rw [if_pos (fun z => hno (eqP.mp z))] at hr
    have k := k0 (by rw [hr]; decide)
    rw [hr] at k
    (repeat (first | refine Ex.go rfl rfl ?_ | refine Ex.gf rfl rfl (by assumption) (by rfl) (by first | rfl | assumption) ?_))
    refine Ex.ret rfl rfl rfl ?_
    exact k
  rw [if_neg (fun z => z (eqP.mpr hyes))] at hr
  have hfl : ((acl lg E).map (fun q => nI (posn lg q))).length = (acl lg E).length := List.length_map ..
  (repeat (first | refine Ex.go rfl rfl ?_ | refine Ex.gf rfl rfl (by assumption) (by rfl) (by first | rfl | assumption) ?_))
  refine Ex.cv0 rfl rfl rfl C.1.1 (by rfl) (by decide) rfl ?_
  refine c_isFull C.1 (by rw [hfl]; exact hW.2.2.1) ?_
  rw [hfl]
  (repeat (first | refine Ex.go rfl rfl ?_ | refine Ex.gf rfl rfl (by assumption) (by rfl) (by first | rfl | assumption) ?_))
  refine Ex.brz (fun hf => ?_) (fun hf => ?_)
  · rw [if_pos hf] at hr
    have k := k0 (by rw [hr]; decide)
    rw [hr] at k
    (repeat (first | refine Ex.go rfl rfl ?_ | refine Ex.gf rfl rfl (by assumption) (by rfl) (by first | rfl | assumption) ?_))
    refine Ex.ret rfl rfl rfl ?_
    exact k
  rw [if_neg hf] at hr
  have hW2 := WF_N hW (show 4 < 12 by omega) hr
  have hil := WF_img hW2.2.2
  have eim : img (lgN lg E 4 (mNn v p dy ts fi)) (E + 1) = img lg E ++ (nI 4 :: (List.range (numc 4)).map (mNn v p dy ts fi)) := by
    show img (lgN lg E 4 (mNn v p dy ts fi)) E ++ (cod (lgN lg E 4 (mNn v p dy ts fi)) E :: (List.range (nums (cod (lgN lg E 4 (mNn v p dy ts fi)) E))).map (num (lgN lg E 4 (mNn v p dy ts fi)) E)) = _
    rw [lgE_img lgN_E E (Nat.le_refl E), lgN_cod]
    congr 2
    exact List.map_congr_left fun k hk => lgN_num (List.mem_range.mp hk)
  have e15 : numc 4 = 15 := by decide
  have enm : (List.range (numc 4)).map (mNn v p dy ts fi) = [v, p, dy] ++ (List.range 12).map (fun k => bo_at ts (nI (fi + k))) := by rw [e15]; rfl
  rw [eim, enm] at hil
  simp at hil
  have hpl : (acl lg E).length < 2000 := by have := hW.2.2.1; omega
  have k := k1 hr
  (repeat (first | refine Ex.go rfl rfl ?_ | refine Ex.gf rfl rfl (by assumption) (by rfl) (by first | rfl | assumption) ?_))
  refine Ex.cv1 rfl rfl rfl C.1.1 (by rfl) (by decide) rfl ?_
  refine c_begin C.1 (by omega) (by rw [hfl]; exact hpl) (by rw [List.length_map]; exact hpl) (fun G1 R1 F1 => ?_)
  (repeat (first | refine Ex.go rfl rfl ?_ | refine Ex.gf rfl rfl (by assumption) (by rfl) (by first | rfl | assumption) ?_))
  refine Ex.rwadd R1 (by simp; omega) rfl rfl rfl (fun G2 R2 F2 => ?_)
  have F2 := F1.trans F2
  (repeat (first | refine Ex.go rfl rfl ?_ | refine Ex.gf rfl rfl (by assumption) (by rfl) (by first | rfl | assumption) ?_))
  refine Ex.rwadd R2 (by simp; omega) rfl rfl rfl (fun G3 R3 F3 => ?_)
  have F3 := F2.trans F3
  (repeat (first | refine Ex.go rfl rfl ?_ | refine Ex.gf rfl rfl (by assumption) (by rfl) (by first | rfl | assumption) ?_))
  refine Ex.rwadd R3 (by simp; omega) rfl rfl rfl (fun G4 R4 F4 => ?_)
  have F4 := F3.trans F4
  have loop : ∀ (e i : Nat) (b s : Int32) (G5 : bo_G) (l9 : List (Nat × Value)), b = nI i → s = nI (msdN (mNn v p dy ts fi) i) → i + e = 12 → RW G5 a (nI (vsl lg E).length, nI (rsl lg E).length, nI (osl lg E).length, tdy lg E, ke) (img lg E ++ [nI 4] ++ [v] ++ [p] ++ [dy] ++ (List.range i).map (fun k => bo_at ts (nI (fi + k)))) ((acl lg E).map (fun q => nI (posn lg q)) ++ [nI (img lg E).length]) ((acl lg E).map (ent lg) ++ [tdy lg E]) (fun j => us[j]?) → FO a G G5 → Ex (d + 6) mX3_enterMeasure (95, [(0, .ref a), (1, .int v), (2, .int p), (3, .int dy), (4, .ref r), (5, .int (nI fi)), (6, .ref u), (7, .int s), (8, .int b)], [], G5) Q := by
    intro e
    induction e with
    | zero =>
      intro i b s G5 l9 hb hs hi R5 F5
      have hi12 : i = 12 := by omega
      rw [hi12] at R5 hs
      subst hb hs
      have h0 := R5.1
      have RR : RW G5 a (nI (vsl lg E).length, nI (rsl lg E).length, nI (osl lg E).length, tdy lg E, ke) (img lg E ++ (nI 4 :: (List.range (numc 4)).map (mNn v p dy ts fi))) ((acl lg E).map (fun q => nI (posn lg q)) ++ [nI (img lg E).length]) ((acl lg E).map (ent lg) ++ [tdy lg E]) (fun j => us[j]?) := by
        rw [enm, show img lg E ++ nI 4 :: ([v, p, dy] ++ (List.range 12).map (fun k => bo_at ts (nI (fi + k)))) = img lg E ++ [nI 4] ++ [v] ++ [p] ++ [dy] ++ (List.range 12).map (fun k => bo_at ts (nI (fi + k))) by simp only [List.append_assoc, List.cons_append, List.nil_append]]
        exact R5
      (repeat (first | refine Ex.go rfl rfl ?_ | refine Ex.gf rfl rfl (by assumption) (by rfl) (by first | rfl | assumption) ?_))
      refine Ex.br (fun hc => ?_) (fun hc => ?_); rotate_left
      · exact absurd (nI_le (show 12 ≤ i by omega) (by omega)) hc
      (repeat (first | refine Ex.go rfl rfl ?_ | refine Ex.gf rfl rfl (by assumption) (by rfl) (by first | rfl | assumption) ?_))
      refine Ex.cv0 rfl rfl rfl h0 (by rfl) (by decide) rfl ?_
      refine c_lastAct R5 (by rw [List.length_append]; simp) ?_
      rw [show nI (((acl lg E).map (fun q => nI (posn lg q)) ++ [nI (img lg E).length]).length - 1) = nI ((acl lg E).map (fun q => nI (posn lg q)) ++ [nI (img lg E).length]).length - 1 from (pk_sub (b := 1) (by rw [List.length_append]; simp)).symm]
      (repeat (first | refine Ex.go rfl rfl ?_ | refine Ex.gf rfl rfl (by assumption) (by rfl) (by first | rfl | assumption) ?_))
      refine Ex.cv2 rfl rfl rfl h0 (by rfl) (by decide) rfl ?_
      refine c_entered (c := 4) (nn := mNn v p dy ts fi) ha C hW (by omega) (by omega) hr hm RR F5 (fun G9 us' C9 F9 => ?_)
      have k := k G9 us' C9 F9
      have ean : ansI lg E 4 (mNn v p dy ts fi) = nI (msdN (mNn v p dy ts fi) 12) := by simp only [ansI]
      rw [ean] at k
      (repeat (first | refine Ex.go rfl rfl ?_ | refine Ex.gf rfl rfl (by assumption) (by rfl) (by first | rfl | assumption) ?_))
      refine Ex.ret rfl rfl rfl ?_
      exact k
    | succ e ih =>
      intro i b s G5 l9 hb hs hi R5 F5
      subst hb hs
      have h0 := R5.1
      obtain ⟨ci, h1⟩ := R5.2.1
      have hr5 : G5[r]? = some (cR lim cap ts) := (F5.2 r (by omega)).trans hr0
      have hrg := hyes i (by omega)
      (repeat (first | refine Ex.go rfl rfl ?_ | refine Ex.gf rfl rfl (by assumption) (by rfl) (by first | rfl | assumption) ?_))
      refine Ex.br (fun hc => ?_) (fun hc => ?_)
      · have := (n_ge (a := i) (b := 12) (by omega) (by omega)).mp hc
        omega
      (repeat (first | refine Ex.go rfl rfl ?_ | refine Ex.gf rfl rfl (by assumption) (by rfl) (by first | rfl | assumption) ?_))
      refine Ex.cv1 rfl rfl rfl hr5 (by rfl) (by decide) rfl ?_
      refine Cx.ratE hr5 (show bo_at ts (nI fi + nI i) = bo_at ts (nI (fi + i)) by rw [nI_add]) ?_
      (repeat (first | refine Ex.go rfl rfl ?_ | refine Ex.gf rfl rfl (by assumption) (by rfl) (by first | rfl | assumption) ?_))
      refine Ex.rwadd R5 (by simp; omega) rfl rfl rfl (fun G6 R6 F6 => ?_)
      rw [List.append_assoc (img lg E ++ [nI 4] ++ [v] ++ [p] ++ [dy]), ← range_map (f := fun k => bo_at ts (nI (fi + k)))] at R6
      have nxt := fun s hs => ih (i + 1) (nI i + 1) s G6 [] (nI_1 i) hs (by omega) R6 (F5.trans F6)
      (repeat (first | refine Ex.go rfl rfl ?_ | refine Ex.gf rfl rfl (by assumption) (by rfl) (by first | rfl | assumption) ?_))
      refine Ex.br (fun h7 => ?_) (fun h7 => ?_)
      · have hge : 0 ≤ bo_at ts (nI (fi + i)) := by
          refine Int32.le_iff_toInt_le.mpr ?_
          have h8 : ¬ (bo_at ts (nI (fi + i))).toInt = -1 := fun z => h7 (Int32.toInt_inj.mp z)
          have := hrg.1
          show (0 : Int) ≤ _
          omega
        have em : msdN (mNn v p dy ts fi) (i + 1) = msdN (mNn v p dy ts fi) i + 1 := by show msdN (mNn v p dy ts fi) i + (if 0 ≤ mNn v p dy ts fi (3 + i) then 1 else 0) = _; rw [mNn_3, if_pos hge]
        have nx := nxt (nI (msdN (mNn v p dy ts fi) i) + 1) (by rw [em]; exact nI_1 _)
        (repeat (first | exact nx | refine Ex.go rfl rfl ?_ | refine Ex.gf rfl rfl (by assumption) (by rfl) (by first | rfl | assumption) ?_))
      · have hge : ¬ 0 ≤ bo_at ts (nI (fi + i)) := by rw [Decidable.not_not.mp h7]; decide
        have em : msdN (mNn v p dy ts fi) (i + 1) = msdN (mNn v p dy ts fi) i := by show msdN (mNn v p dy ts fi) i + (if 0 ≤ mNn v p dy ts fi (3 + i) then 1 else 0) = _; rw [mNn_3, if_neg hge]; rfl
        have nx := nxt (nI (msdN (mNn v p dy ts fi) i) + 0) (by rw [em]; exact Int32.add_zero _)
        (repeat (first | exact nx | refine Ex.go rfl rfl ?_ | refine Ex.gf rfl rfl (by assumption) (by rfl) (by first | rfl | assumption) ?_))
  have l0 := loop 12 0 _ _ G4 [] rfl rfl (by omega) (by rw [show (List.range 0).map (fun k => bo_at ts (nI (fi + k))) = [] from rfl, List.append_nil]; exact R4) F4
  (repeat (first | exact l0 | refine Ex.go rfl rfl ?_ | refine Ex.gf rfl rfl (by assumption) (by rfl) (by first | rfl | assumption) ?_))
end CE

/-! What the class's view tells of a part is what the reference tells. -/
section CU
variable {lg : Nat → Int32} {E v p s : Nat} {x y : Int32}
theorem plt_kn (hp : p < (psl lg (knC lg y E) v).length) : plt lg E v p x y = plt lg (knC lg y E) v p x y := by
  unfold plt
  rw [pat_kn hp, lof_cut]
theorem mea_cut {a b bf : Int32} {a0 : Nat} : mea lg E a b s x y a0 bf = mea lg (knC lg y E) a b s x y a0 bf := by
  have hk := knC_le (lg := lg) (y := y) (E := E)
  have e : meaU lg a b s x y a0 bf (E - (a0 + 1)) = meaU lg a b s x y a0 bf (knC lg y E - (a0 + 1)) := lat_cut (by omega) fun i h1 h2 z => st_out (lg := lg) (E := E) (x := x) (y := y) (i := a0 + 1 + i) (by omega) (by omega) z.1.2.2
  unfold mea
  rw [e]
theorem rwL_kn (hp : p < (psl lg (knC lg y E) v).length) : rwL lg E v p s x y = rwL lg (knC lg y E) v p s x y := by
  unfold rwL
  rw [plt_kn hp, mea_cut]
theorem rwW_kn (hp : p < (psl lg (knC lg y E) v).length) {l : Nat} : rwW lg E v p s x y l = rwW lg (knC lg y E) v p s x y l := by
  unfold rwW
  rw [plt_kn hp, mea_cut]
theorem rwE_kn (hp : p < (psl lg (knC lg y E) v).length) : rwE lg E v p s x y = rwE lg (knC lg y E) v p s x y := by
  unfold rwE
  rw [rwL_kn hp, plt_kn hp]
theorem rwT_kn (hp : p < (psl lg (knC lg y E) v).length) : rwT lg E v p s x y = rwT lg (knC lg y E) v p s x y := by
  unfold rwT
  rw [rwL_kn hp, plt_kn hp]
theorem rwA_kn (hp : p < (psl lg (knC lg y E) v).length) : rwA lg E v p s x y = rwA lg (knC lg y E) v p s x y := by
  unfold rwA
  rw [rwL_kn hp, plt_kn hp]
  cases rwL lg (knC lg y E) v p s x y with
  | none => rfl
  | some l => dsimp only; rw [rwW_kn hp]
theorem thk_kn (hp : p < (psl lg (knC lg y E) v).length) : thk lg E v p s x y = thk lg (knC lg y E) v p s x y := by
  unfold thk
  rw [rwE_kn hp, rwT_kn hp, rwA_kn hp, sho_cut]
theorem leaZ_kn (hp : p < (psl lg (knC lg y E) v).length) : ∀ q, leaZ lg E v p x y q = leaZ lg (knC lg y E) v p x y q := by
  intro q
  induction q with
  | zero => rfl
  | succ q ih =>
    show min (leaZ lg E v p x y q) (thk lg E v p q x y) = min (leaZ lg (knC lg y E) v p x y q) (thk lg (knC lg y E) v p q x y)
    rw [ih, thk_kn hp]
theorem plg_cut {a b : Int32} : plg lg E a b x y = plg lg (knC lg y E) a b x y := by
  unfold plg
  rw [lof_cut0]
/-- a part's day is its vessel's -/
theorem pat_day (hW : ∀ j, j < E → wfE lg j) (hE : E ≤ 6000) (hv : v < 2 ^ 31) (hp : p < (psl lg E v).length) : dyy lg (pat lg E v p) = dyy lg (vat lg E v) := by
  obtain ⟨h1, h2⟩ := wf_p hW (by omega) hv hp
  rw [h2.2.2.2.2.2.2.1, (vat_pre (lg := lg) (Nat.le_of_lt (pat_lt hp)) h1).1]
theorem plt_day (hW : ∀ j, j < E → wfE lg j) (hE : E ≤ 6000) (hv : v < 2 ^ 31) (hp : p < (psl lg E v).length) (hx : dyy lg (vat lg E v) ≤ x) : dyy lg (plt lg E v p x y) ≤ x := by
  rcases lat_P (plt_eq (lg := lg) (E := E) (v := v) (p := p) (x := x) (y := y)) with h1 | h1
  · have := Option.some.inj h1
    rw [← this, pat_day hW hE hv hp]
    exact hx
  · exact h1.2.2
theorem rwE_day (hW : ∀ j, j < E → wfE lg j) (hE : E ≤ 6000) (hv : v < 2 ^ 31) (hp : p < (psl lg E v).length) (hx : dyy lg (vat lg E v) ≤ x) : rwE lg E v p s x y ≤ x := by
  unfold rwE
  cases hl : rwL lg E v p s x y with
  | none => exact plt_day hW hE hv hp hx
  | some l => exact (mea_P hl).1.2.2.2
theorem thZ_le {e et w x : Int} {o : Option (Int × Int)} (h0 : 0 ≤ et) (h1 : 0 ≤ w) (hx : e ≤ x) (ho : ∀ a t, o = some (a, t) → a < e) : thZ e et o w x ≤ et := by
  have q : ∀ D U : Int, 0 < D → 0 ≤ U → max 0 ((et * D - U * (x - e)) / D) ≤ et := fun D U hD hU => by
    have h2 : 0 ≤ U * (x - e) := Int.mul_nonneg hU (by omega)
    have h3 : (et * D - U * (x - e)) / D ≤ et := Int.ediv_le_of_le_mul hD (by omega)
    omega
  unfold thZ
  cases o with
  | none => exact q 365 w (by omega) h1
  | some o =>
    obtain ⟨a, t⟩ := o
    dsimp only
    have ha := ho a t rfl
    split
    · rename_i hc
      have hpos : 0 ≤ w * (e - a) := Int.mul_nonneg h1 (by omega)
      exact q (e - a) (t - et) (by omega) (by omega)
    · exact q 365 w (by omega) h1
end CU
section PE
variable {d a v p E n : Nat} {G G1 : bo_G} {Q : Option Value → bo_G → Prop} {lg : Nat → Int32} {x y st : Int32}
/-- the spots of the view -/
def spK (lg : Nat → Int32) (n v p : Nat) (x y : Int32) : Nat → spT := fun s => spF lg (plt lg n v p x y) (nI v) (nI p) x y s n
theorem spK_spX (hW : ∀ j, j < n → wfE lg j) (hn : n ≤ 6000) (hv : v < 2 ^ 31) (hp : p < (psl lg n v).length) (hx : dyy lg (vat lg n v) ≤ x) (hx4 : x.toInt ≤ 40000) : spX (spK lg n v p x y) (sho lg n (nI v) (nI p) y 3 0) x ∧ ∀ s, s < 12 → spZ (spK lg n v p x y s) (sho lg n (nI v) (nI p) y 3 0) x = thk lg n v p s x y := by
  have key : ∀ s, s < 12 → (spB (spK lg n v p x y s) ∧ (spK lg n v p x y s).1.toInt ≤ x.toInt) ∧ spZ (spK lg n v p x y s) (sho lg n (nI v) (nI p) y 3 0) x = thk lg n v p s x y := by
    intro s hs
    obtain ⟨r1, r2, -, r4⟩ := rwB_of (x := x) (y := y) hW hp hs
    obtain ⟨e1, e2, e3⟩ := spF_row (x := x) (y := y) (s := s) hW hp
    have hd := Int32.le_iff_toInt_le.mp (rwE_day (y := y) (s := s) hW hn hv hp hx)
    unfold spK spZ thk spO
    refine ⟨⟨⟨by rw [e1]; exact r1, by rw [e2]; exact r2, ?_⟩, by rw [e1]; exact hd⟩, ?_⟩
    · cases hA : rwA lg n v p s x y with
      | none => rw [hA] at e3; exact Or.inl e3
      | some q =>
        obtain ⟨qa, qt⟩ := q
        rw [hA] at e3
        have e3 : (spF lg (plt lg n v p x y) (nI v) (nI p) x y s n).2.2 = (qa, qt) := e3
        rw [e3, e1]
        exact Or.inr (r4 qa qt hA)
    · cases hA : rwA lg n v p s x y with
      | none =>
        rw [hA] at e3
        have e3 : (spF lg (plt lg n v p x y) (nI v) (nI p) x y s n).2.2.1 = -1 := e3
        rw [if_pos e3, e1, e2]
        rfl
      | some q =>
        obtain ⟨qa, qt⟩ := q
        rw [hA] at e3
        have e3 : (spF lg (plt lg n v p x y) (nI v) (nI p) x y s n).2.2 = (qa, qt) := e3
        have hq := r4 qa qt hA
        have e4 : ¬ (spF lg (plt lg n v p x y) (nI v) (nI p) x y s n).2.2.1 = -1 := by
          rw [e3]
          intro z
          have z : qa = -1 := z
          have := hq.1.1
          rw [z] at this
          exact absurd this (by decide)
        rw [if_neg e4, e1, e2, e3]
        rfl
  exact ⟨⟨wear_rng hW, hx4, fun s hs => (key s hs).1⟩, fun s hs => (key s hs).2⟩
theorem thk_le (hW : ∀ j, j < n → wfE lg j) (hn : n ≤ 6000) (hv : v < 2 ^ 31) (hp : p < (psl lg n v).length) (hx : dyy lg (vat lg n v) ≤ x) {s : Nat} (hs : s < 12) : thk lg n v p s x y ≤ 10000 := by
  obtain ⟨r1, r2, r3, r4⟩ := rwB_of (x := x) (y := y) hW hp hs
  have hd := Int32.le_iff_toInt_le.mp (rwE_day (y := y) (s := s) hW hn hv hp hx)
  have h1 := thZ_le (e := (rwE lg n v p s x y).toInt) (et := (rwT lg n v p s x y).toInt) (o := oZ (rwA lg n v p s x y)) (w := (sho lg n (nI v) (nI p) y 3 0).toInt) (x := x.toInt) r2.1 r3.1 hd (fun a t z => by
    cases hA : rwA lg n v p s x y with
    | none => rw [hA] at z; cases z
    | some q =>
      obtain ⟨qa, qt⟩ := q
      rw [hA] at z
      cases z
      exact (r4 qa qt hA).2.2)
  have h2 := r2.2
  unfold thk
  omega
theorem leC_lea (hW : ∀ j, j < n → wfE lg j) (hn : n ≤ 6000) (hv : v < 2 ^ 31) (hp : p < (psl lg n v).length) (hx : dyy lg (vat lg n v) ≤ x) (hx4 : x.toInt ≤ 40000) : ∀ q, q + 1 ≤ 12 → leC (spK lg n v p x y) (sho lg n (nI v) (nI p) y 3 0) x (q + 1) = leaZ lg n v p x y (q + 1) := by
  have hK := (spK_spX (y := y) hW hn hv hp hx hx4).2
  intro q
  induction q with
  | zero =>
    intro _
    have h1 := thk_le (y := y) hW hn hv hp hx (s := 0) (by omega)
    show min 10000 (spZ (spK lg n v p x y 0) (sho lg n (nI v) (nI p) y 3 0) x) = min 10001 (thk lg n v p 0 x y)
    rw [hK 0 (by omega)]
    omega
  | succ q ih =>
    intro hq
    show min (leC (spK lg n v p x y) (sho lg n (nI v) (nI p) y 3 0) x (q + 1)) (spZ (spK lg n v p x y (q + 1)) (sho lg n (nI v) (nI p) y 3 0) x) = min (leaZ lg n v p x y (q + 1)) (thk lg n v p (q + 1) x y)
    rw [ih (by omega), hK (q + 1) (by omega)]
theorem dbC_dbt (hW : ∀ j, j < n → wfE lg j) (hp : p < (psl lg n v).length) : ∀ q, q ≤ 12 → dbC (spK lg n v p x y) q = dbtN lg n v p x y q := by
  intro q
  induction q with
  | zero => intro _; rfl
  | succ q ih =>
    intro hq
    show dbC (spK lg n v p x y) q + (if (spK lg n v p x y q).2.2.1 ≠ -1 ∧ (spK lg n v p x y q).2.2.2 < (spK lg n v p x y q).2.1 then 1 else 0) = dbtN lg n v p x y q + (if dbtB lg n v p q x y = true then 1 else 0)
    rw [ih (by omega)]
    obtain ⟨-, -, -, r4⟩ := rwB_of (x := x) (y := y) hW hp (show q < 12 by omega)
    obtain ⟨e1, e2, e3⟩ := spF_row (x := x) (y := y) (s := q) hW hp
    congr 1
    unfold dbtB spK
    cases hA : rwA lg n v p q x y with
    | none =>
      rw [hA] at e3
      have e3 : (spF lg (plt lg n v p x y) (nI v) (nI p) x y q n).2.2.1 = -1 := e3
      rw [if_neg (fun z => z.1 e3), if_neg (show ¬ false = true by decide)]
    | some o =>
      obtain ⟨qa, qt⟩ := o
      rw [hA] at e3
      have e3 : (spF lg (plt lg n v p x y) (nI v) (nI p) x y q n).2.2 = (qa, qt) := e3
      have hq2 := r4 qa qt hA
      rw [e3, e2]
      dsimp only
      by_cases z : qt < rwT lg n v p q x y
      · rw [if_pos ⟨fun w => by have := hq2.1.1; rw [w] at this; exact absurd this (by decide), z⟩, if_pos (decide_eq_true z)]
      · rw [if_neg fun w => z w.2, if_neg fun w => z (of_decide_eq_true w)]
/-- no more are plugged than there are -/
theorem shp_aft (hW : ∀ j, j < n → wfE lg j) (hn : n ≤ 6000) (hv : v < 2 ^ 31) {j : Nat} (hj : j < n) (hc : isP lg 7 (nI v) (nI p) j) (hp : p < 2 ^ 31) : ∀ m, j + 1 + m ≤ n → shp lg (j + 1 + m) (nI v) (nI p) y = shp lg j (nI v) (nI p) y := by
  intro m
  induction m with
  | zero =>
    intro _
    exact if_neg fun z => absurd (z.1.symm.trans hc.1) (by decide)
  | succ m ih =>
    intro hm
    have e : shp lg (j + 1 + m + 1) (nI v) (nI p) y = shp lg (j + 1 + m) (nI v) (nI p) y := by
      refine if_neg fun z => ?_
      obtain ⟨v', hv', ev', p', hp', ep', w⟩ := wf_c3 (hW (j + 1 + m) (by omega)) z.1
      have e1 := v_nat (by omega) hv' hv ev' z.2.1
      subst e1
      have hl : (psl lg (j + 1 + m) v').length ≤ j + 1 + m := sel_len _ _
      have e2 : p' = p := (nI_eq (by omega) hp).mp (ep'.symm.trans z.2.2.1)
      subst e2
      refine w.2.2.2.2.2.2 (exi_iff.mpr ⟨j, by omega, ?_, hc.2.1, hc.2.2⟩)
      rw [hc.1]
      decide
    exact e.trans (ih (by omega))
theorem plg_le (hW : ∀ j, j < n → wfE lg j) (hn : n ≤ 6000) (hv : v < 2 ^ 31) (hp : p < 2 ^ 31) (hk : ∀ j, j < n → ent lg j ≤ y) : (plg lg n (nI v) (nI p) x y).toInt ≤ (sho lg n (nI v) (nI p) y 4 1).toInt := by
  have hm := many_rng (lg := lg) (E := n) (y := y) hW (v := nI v) (p := nI p)
  unfold plg
  cases hs : lof lg 7 (nI v) (nI p) x y none 0 n with
  | none => exact Int.le_trans (show (0 : Int) ≤ 1 by decide) hm.1
  | some j =>
    have hj : j < n := lof_lt (B := n) (fun k hk => by cases hk) (by omega) hs
    rcases lat_P hs with h2 | h2
    · cases h2
    · obtain ⟨v', hv', ev', p', hp', ep', w⟩ := wf_c7 (hW j hj) h2.1.1
      have e1 := v_nat (by omega) hv' hv ev' h2.1.2.1
      subst e1
      have hl : (psl lg j v').length ≤ j := sel_len _ _
      have e2 : p' = p := (nI_eq (by omega) hp).mp (ep'.symm.trans h2.1.2.2)
      subst e2
      have h3 := w.2.2.1.2
      have e3 : sho lg n (nI v') (nI p') y 4 1 = sho lg j (nI v') (nI p') 40000 4 1 := by
        have e4 : shp lg n (nI v') (nI p') y = shp lg j (nI v') (nI p') y := by
          have := shp_aft (y := y) hW hn hv hj h2.1 hp (n - (j + 1)) (by omega)
          rw [show j + 1 + (n - (j + 1)) = n by omega] at this
          exact this
        have e5 : shp lg j (nI v') (nI p') y = shp lg j (nI v') (nI p') 40000 := lst_congr fun i hi => ⟨fun z => ⟨z.1, z.2.1, z.2.2.1, by
          have := (tdy_rng (lg := lg) (E := i) fun q hq => hW q (by omega)).2
          rw [(hW i (by omega)).1]
          exact Int32.le_iff_toInt_le.mpr (by rw [k40]; exact this)⟩, fun z => ⟨z.1, z.2.1, z.2.2.1, hk i (by omega)⟩⟩
        unfold sho
        rw [e4, e5]
      rw [e3]
      exact h3
end PE

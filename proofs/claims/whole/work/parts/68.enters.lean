/-! The class: entering. -/
def CR (G : bo_G) (a : Nat) (us : List Nat) (lg : Nat → Int32) (E : Nat) (ke : Int32) : Prop := RW G a (nI (vsl lg E).length, nI (rsl lg E).length, nI (osl lg E).length, tdy lg E, ke) (img lg E) ((acl lg E).map fun q => nI (posn lg q)) ((acl lg E).map (ent lg)) (fun j => us[j]?) ∧ NT G us lg E
theorem c_isPlate {d : Nat} {x y z : Int32} {G : bo_G} {Q : Option Value → bo_G → Prop} (k : ∀ (P : Prop) (_ : Decidable P), (P ↔ (rng x 1 100000 ∧ rng y 1 10000 ∧ rng z 1 1000)) → Q (some (.int (bo_b P))) G) : Cx (d + 1) mX3_isPlate [.int x, .int y, .int z] G Q := by
  replace k := k _ (inferInstanceAs (Decidable (rng x 1 100000 ∧ rng y 1 10000 ∧ rng z 1 1000))) Iff.rfl
  refine Cx.body rfl rfl ?_
  (repeat (first | refine Ex.go rfl rfl ?_ | refine Ex.gf rfl rfl (by assumption) (by rfl) (by first | rfl | assumption) ?_))
  refine Ex.cs3 rfl rfl rfl rfl rfl rfl ?_
  refine c_withinP (lo := 1) (hi := 100000) (by decide +kernel) (by decide +kernel) (fun P1 d1 i1 => ?_)
  (repeat (first | refine Ex.go rfl rfl ?_ | refine Ex.gf rfl rfl (by assumption) (by rfl) (by first | rfl | assumption) ?_))
  first | (refine Ex.brz (fun c1 => ?_) (fun c1 => ?_); rotate_left) | (refine Ex.brn (fun c1 => ?_) (fun c1 => ?_); rotate_left)
  · rw [bo_b_f (fun q => c1 (i1.mpr q.1))] at k
    (repeat (first | refine Ex.go rfl rfl ?_ | refine Ex.gf rfl rfl (by assumption) (by rfl) (by first | rfl | assumption) ?_))
    refine Ex.retz rfl rfl rfl (Or.inl rfl) ?_
    exact k
  (repeat (first | refine Ex.go rfl rfl ?_ | refine Ex.gf rfl rfl (by assumption) (by rfl) (by first | rfl | assumption) ?_))
  refine Ex.cs3 rfl rfl rfl rfl rfl rfl ?_
  refine c_withinP (lo := 1) (hi := 10000) (by decide +kernel) (by decide +kernel) (fun P2 d2 i2 => ?_)
  (repeat (first | refine Ex.go rfl rfl ?_ | refine Ex.gf rfl rfl (by assumption) (by rfl) (by first | rfl | assumption) ?_))
  first | (refine Ex.brz (fun c2 => ?_) (fun c2 => ?_); rotate_left) | (refine Ex.brn (fun c2 => ?_) (fun c2 => ?_); rotate_left)
  · rw [bo_b_f (fun q => c2 (i2.mpr q.2.1))] at k
    (repeat (first | refine Ex.go rfl rfl ?_ | refine Ex.gf rfl rfl (by assumption) (by rfl) (by first | rfl | assumption) ?_))
    refine Ex.retz rfl rfl rfl (Or.inl rfl) ?_
    exact k
  (repeat (first | refine Ex.go rfl rfl ?_ | refine Ex.gf rfl rfl (by assumption) (by rfl) (by first | rfl | assumption) ?_))
  refine Ex.cs3 rfl rfl rfl rfl rfl rfl ?_
  refine c_withinP (lo := 1) (hi := 1000) (by decide +kernel) (by decide +kernel) (fun P3 d3 i3 => ?_)
  (repeat (first | refine Ex.go rfl rfl ?_ | refine Ex.gf rfl rfl (by assumption) (by rfl) (by first | rfl | assumption) ?_))
  first | (refine Ex.brz (fun c3 => ?_) (fun c3 => ?_); rotate_left) | (refine Ex.brn (fun c3 => ?_) (fun c3 => ?_); rotate_left)
  · rw [bo_b_f (fun q => c3 (i3.mpr q.2.2))] at k
    (repeat (first | refine Ex.go rfl rfl ?_ | refine Ex.gf rfl rfl (by assumption) (by rfl) (by first | rfl | assumption) ?_))
    refine Ex.retz rfl rfl rfl (Or.inl rfl) ?_
    exact k
  rw [bo_b_t ⟨i1.mp c1, i2.mp c2, i3.mp c3⟩] at k
  (repeat (first | refine Ex.go rfl rfl ?_ | refine Ex.gf rfl rfl (by assumption) (by rfl) (by first | rfl | assumption) ?_))
  refine Ex.retz rfl rfl rfl (Or.inr rfl) ?_
  exact k
section CE
variable {d a m : Nat} {G G' : bo_G} {Q : Option Value → bo_G → Prop} {us : List Nat} {lg : Nat → Int32} {E c : Nat} {ke : Int32} {nn : Nat → Int32}
theorem c_vesselAt {v : Int32} (C : CR G a us lg E ke) (h30 : (vsl lg E).length ≤ 30) (k0 : ¬ (0 ≤ v.toInt ∧ v.toInt < (vsl lg E).length) → Q (some .null) G) (k1 : ∀ v' u, v = nI v' → v.toNatClampNeg = v' → v' < (vsl lg E).length → us[v']? = some u → Q (some (.ref u)) G) : Cx d mX3_vesselAt [.ref a, .int v] G Q := by
  obtain ⟨R, N⟩ := C
  have h0 := R.1
  have hv := R.2.2.2.2
  refine Cx.body rfl rfl ?_
  (repeat (first | refine Ex.go rfl rfl ?_ | refine Ex.gf rfl rfl (by assumption) (by rfl) (by first | rfl | assumption) ?_))
  refine Ex.br (fun d1 => ?_) (fun d1 => ?_)
  · have k := k0 fun z => absurd d1 (Int32.not_lt.mpr (Int32.le_iff_toInt_le.mpr z.1))
    (repeat (first | refine Ex.go rfl rfl ?_ | refine Ex.gf rfl rfl (by assumption) (by rfl) (by first | rfl | assumption) ?_))
    refine Ex.ret rfl rfl rfl ?_
    exact k
  have d1 := Int32.le_iff_toInt_le.mp (Int32.not_lt.mp d1)
  (repeat (first | refine Ex.go rfl rfl ?_ | refine Ex.gf rfl rfl (by assumption) (by rfl) (by first | rfl | assumption) ?_))
  refine Ex.br (fun d2 => ?_) (fun d2 => ?_)
  · have d3 := Int32.le_iff_toInt_le.mp d2
    rw [show ((nI (vsl lg E).length, nI (rsl lg E).length, nI (osl lg E).length, tdy lg E, ke) : rlT).1.toInt = ((vsl lg E).length : Int) from nI_toInt (by omega)] at d3
    have k := k0 fun z => by have := z.2; omega
    (repeat (first | refine Ex.go rfl rfl ?_ | refine Ex.gf rfl rfl (by assumption) (by rfl) (by first | rfl | assumption) ?_))
    refine Ex.ret rfl rfl rfl ?_
    exact k
  have d3 : v.toInt < (vsl lg E).length := by
    have := fun z => d2 (Int32.le_iff_toInt_le.mpr z)
    rw [show ((nI (vsl lg E).length, nI (rsl lg E).length, nI (osl lg E).length, tdy lg E, ke) : rlT).1.toInt = ((vsl lg E).length : Int) from nI_toInt (by omega)] at this
    exact Int.not_le.mp this
  obtain ⟨e1, e2, e3⟩ := nI_iof d1
  have hul := N.2.1
  have hlt : v.toNatClampNeg < us.length := by omega
  have hsome : us[v.toNatClampNeg]? = some us[v.toNatClampNeg] := List.getElem?_eq_getElem hlt
  have k := k1 v.toNatClampNeg _ e1 rfl (by omega) hsome
  (repeat (first | refine Ex.go rfl rfl ?_ | refine Ex.gf rfl rfl (by assumption) (by rfl) (by first | rfl | assumption) ?_))
  refine Ex.alq rfl hv ?_
  (repeat (first | refine Ex.go rfl rfl ?_ | refine Ex.gf rfl rfl (by assumption) (by rfl) (by first | rfl | assumption) ?_))
  refine Ex.br (fun d4 => ?_) (fun d4 => ?_)
  · have d5 := Int32.le_iff_toInt_le.mp d4
    rw [show (Int32.ofNat 30).toInt = 30 from rfl] at d5
    omega
  (repeat (first | refine Ex.go rfl rfl ?_ | refine Ex.gf rfl rfl (by assumption) (by rfl) (by first | rfl | assumption) ?_))
  refine Ex.aal rfl hv ⟨Int32.le_iff_toInt_le.mpr d1, by omega⟩ ?_
  rw [hsome]
  (repeat (first | refine Ex.go rfl rfl ?_ | refine Ex.gf rfl rfl (by assumption) (by rfl) (by first | rfl | assumption) ?_))
  refine Ex.ret rfl rfl rfl ?_
  exact k
theorem c_entered {ans : Int32} (ha : a = 2 ∨ a = 7) (C : CR G a us lg E ke) (hW : WF lg E) (hc : c < 12) (hc0 : ¬ c = 0) (h0 : rfs lg E c nn = 0) (hm : G.length = 378 + 6 * m) (R : RW G' a (nI (vsl lg E).length, nI (rsl lg E).length, nI (osl lg E).length, tdy lg E, ke) (img lg E ++ (nI c :: (List.range (numc c)).map nn)) ((acl lg E).map (fun q => nI (posn lg q)) ++ [nI (img lg E).length]) ((acl lg E).map (ent lg) ++ [tdy lg E]) (fun j => us[j]?)) (F : FO a G G') (q : ∀ G2 us', CR G2 a us' (lgN lg E c nn) (E + 1) ke → FC a us G us' G2 → Q (some (.int ans)) G2) : Cx (d + 4) mX3_noted [.ref a, .int (nI ((acl lg E).map (fun q => nI (posn lg q)) ++ [nI (img lg E).length]).length - 1), .int ans] G' Q := by
  obtain ⟨-, hE6, hW2⟩ := WF_N hW hc h0
  have hN := C.2.FO (by omega) F
  have eE : lgE lg (lgN lg E c nn) E := lgN_E
  have e1 : img (lgN lg E c nn) (E + 1) = img lg E ++ (nI c :: (List.range (numc c)).map nn) := by
    show img (lgN lg E c nn) E ++ (cod (lgN lg E c nn) E :: (List.range (nums (cod (lgN lg E c nn) E))).map (num (lgN lg E c nn) E)) = _
    rw [lgE_img eE E (Nat.le_refl E), lgN_cod]
    congr 2
    exact List.map_congr_left fun k hk => lgN_num (List.mem_range.mp hk)
  have ea : acl (lgN lg E c nn) (E + 1) = acl lg E ++ [E] := by rw [acl_N hc, if_neg hc0]
  have ep : ∀ q, q ≤ E → posn (lgN lg E c nn) q = posn lg q := fun q hq => by unfold posn; rw [lgE_img eE q hq]
  have e2 : (acl (lgN lg E c nn) (E + 1)).map (fun q => nI (posn (lgN lg E c nn) q)) = (acl lg E).map (fun q => nI (posn lg q)) ++ [nI (img lg E).length] := by
    rw [ea, List.map_append]
    congr 1
    · exact List.map_congr_left fun q hq => by rw [ep q (Nat.le_of_lt (sel_mem.mp hq).1)]
    · show [nI (posn (lgN lg E c nn) E)] = _
      rw [ep E (Nat.le_refl E)]; rfl
  have e3 : (acl (lgN lg E c nn) (E + 1)).map (ent (lgN lg E c nn)) = (acl lg E).map (ent lg) ++ [tdy lg E] := by
    rw [ea, List.map_append]
    congr 1
    · exact List.map_congr_left fun q hq => lgE_ent eE (sel_mem.mp hq).1
    · show [ent (lgN lg E c nn) E] = _
      rw [lgN_ent]
  have el : nI ((acl lg E).map (fun q => nI (posn lg q)) ++ [nI (img lg E).length]).length - 1 = nI (acl lg E).length := by
    rw [List.length_append, List.length_map]
    exact nI_pred _
  rw [← e1, ← e2, ← e3, ← vsl_E eE (Nat.le_refl E), ← rsl_E eE (Nat.le_refl E)] at R
  rw [el]
  refine c_noted (m := m) ha R (NT_lgE hN eE) (by rw [F.1]; exact hm) (by rw [ea, List.getElem?_append_right (Nat.le_refl _), Nat.sub_self]; rfl) hW2.1 (by omega) (WF_img hW2) hW2.2.1 (fun G2 us' R2 N2 F2 => q G2 us' ⟨?_, N2⟩ (FC.of_FO F F2))
  have et : tdy (lgN lg E c nn) (E + 1) = tdy lg E := by rw [tdy_N hc, if_neg hc0]
  have eo : osl (lgN lg E c nn) (E + 1) = osl lg E := by rw [osl_N hc, if_neg hc0, List.append_nil]
  rw [et, eo]
  exact R2
/-- a list read at a number -/
theorem lst_at {xs : List Int32} {p : Nat} (hp : p < xs.length) (h31 : p < 2 ^ 31) {v : Int32} (h : xs[p]? = some v) : bo_at xs (nI p) = v := by
  unfold bo_at
  rw [if_pos (nI_pos' h31), nI_clamp h31, List.getD_eq_getElem?_getD, h]
  rfl
theorem c_enterVessel {o s mk dy : Int32} (ha : a = 2 ∨ a = 7) (C : CR G a us lg E ke) (hW : WF lg E) (hm : G.length = 378 + 6 * m) (k0 : rfs lg E 1 (n6 o s mk dy 0 0) < 0 → Q (some (.int (rfs lg E 1 (n6 o s mk dy 0 0)))) G) (k1 : rfs lg E 1 (n6 o s mk dy 0 0) = 0 → ∀ G' us', CR G' a us' (lgN lg E 1 (n6 o s mk dy 0 0)) (E + 1) ke → FC a us G us' G' → Q (some (.int (ansI lg E 1 (n6 o s mk dy 0 0)))) G') : Cx (d + 6) mX3_enterVessel [.ref a, .int o, .int s, .int mk, .int dy] G Q := by
  have hr : rfs lg E 1 (n6 o s mk dy 0 0) = if ¬ (rng o 0 999 ∧ rng s 1 20 ∧ rng mk 0 100000 ∧ rng dy 0 (tdy lg E).toInt) then -2 else if (vsl lg E).length = 30 then -4 else if (acl lg E).length = 2000 then -4 else 0 := rfl
  have hh0 := C.1.1
  refine Cx.body rfl rfl ?_
  (repeat (first | refine Ex.go rfl rfl ?_ | refine Ex.gf rfl rfl (by assumption) (by rfl) (by first | rfl | assumption) ?_))
  refine Ex.cs3 rfl rfl rfl rfl rfl rfl ?_
  refine c_withinP (lo := 0) (hi := 999) (by decide +kernel) (by decide +kernel) (fun Pc1 dc1 ic1 => ?_)
  (repeat (first | refine Ex.go rfl rfl ?_ | refine Ex.gf rfl rfl (by assumption) (by rfl) (by first | rfl | assumption) ?_))
  first | (refine Ex.brz (fun c1 => ?_) (fun c1 => ?_); rotate_left) | (refine Ex.brn (fun c1 => ?_) (fun c1 => ?_); rotate_left)
  · rw [if_pos (fun q => c1 (ic1.mpr (q.1)))] at hr
    have k := k0 (by rw [hr]; decide)
    rw [hr] at k
    (repeat (first | refine Ex.go rfl rfl ?_ | refine Ex.gf rfl rfl (by assumption) (by rfl) (by first | rfl | assumption) ?_))
    refine Ex.ret rfl rfl rfl ?_
    exact k
  have c1 := ic1.mp c1
  (repeat (first | refine Ex.go rfl rfl ?_ | refine Ex.gf rfl rfl (by assumption) (by rfl) (by first | rfl | assumption) ?_))
  refine Ex.cs3 rfl rfl rfl rfl rfl rfl ?_
  refine c_withinP (lo := 1) (hi := 20) (by decide +kernel) (by decide +kernel) (fun Pc2 dc2 ic2 => ?_)
  (repeat (first | refine Ex.go rfl rfl ?_ | refine Ex.gf rfl rfl (by assumption) (by rfl) (by first | rfl | assumption) ?_))
  first | (refine Ex.brz (fun c2 => ?_) (fun c2 => ?_); rotate_left) | (refine Ex.brn (fun c2 => ?_) (fun c2 => ?_); rotate_left)
  · rw [if_pos (fun q => c2 (ic2.mpr (q.2.1)))] at hr
    have k := k0 (by rw [hr]; decide)
    rw [hr] at k
    (repeat (first | refine Ex.go rfl rfl ?_ | refine Ex.gf rfl rfl (by assumption) (by rfl) (by first | rfl | assumption) ?_))
    refine Ex.ret rfl rfl rfl ?_
    exact k
  have c2 := ic2.mp c2
  (repeat (first | refine Ex.go rfl rfl ?_ | refine Ex.gf rfl rfl (by assumption) (by rfl) (by first | rfl | assumption) ?_))
  refine Ex.cs3 rfl rfl rfl rfl rfl rfl ?_
  refine c_withinP (lo := 0) (hi := 100000) (by decide +kernel) (by decide +kernel) (fun Pc3 dc3 ic3 => ?_)
  (repeat (first | refine Ex.go rfl rfl ?_ | refine Ex.gf rfl rfl (by assumption) (by rfl) (by first | rfl | assumption) ?_))
  first | (refine Ex.brz (fun c3 => ?_) (fun c3 => ?_); rotate_left) | (refine Ex.brn (fun c3 => ?_) (fun c3 => ?_); rotate_left)
  · rw [if_pos (fun q => c3 (ic3.mpr (q.2.2.1)))] at hr
    have k := k0 (by rw [hr]; decide)
    rw [hr] at k
    (repeat (first | refine Ex.go rfl rfl ?_ | refine Ex.gf rfl rfl (by assumption) (by rfl) (by first | rfl | assumption) ?_))
    refine Ex.ret rfl rfl rfl ?_
    exact k
  have c3 := ic3.mp c3
  (repeat (first | refine Ex.go rfl rfl ?_ | refine Ex.gf rfl rfl (by assumption) (by rfl) (by first | rfl | assumption) ?_))
  refine Ex.cs3 rfl rfl rfl rfl rfl rfl ?_
  refine c_withinP (lo := 0) (hi := (tdy lg E).toInt) (by decide +kernel) rfl (fun P4 d4 i4 => ?_)
  (repeat (first | refine Ex.go rfl rfl ?_ | refine Ex.gf rfl rfl (by assumption) (by rfl) (by first | rfl | assumption) ?_))
  first | (refine Ex.brz (fun c4 => ?_) (fun c4 => ?_); rotate_left) | (refine Ex.brn (fun c4 => ?_) (fun c4 => ?_); rotate_left)
  · rw [if_pos (fun q => c4 (i4.mpr q.2.2.2))] at hr
    have k := k0 (by rw [hr]; decide)
    rw [hr] at k
    (repeat (first | refine Ex.go rfl rfl ?_ | refine Ex.gf rfl rfl (by assumption) (by rfl) (by first | rfl | assumption) ?_))
    refine Ex.ret rfl rfl rfl ?_
    exact k
  rw [if_neg (fun z => z ⟨c1, c2, c3, i4.mp c4⟩)] at hr
  have h30 := hW.2.1
  (repeat (first | refine Ex.go rfl rfl ?_ | refine Ex.gf rfl rfl (by assumption) (by rfl) (by first | rfl | assumption) ?_))
  refine Ex.br (fun c5 => ?_) (fun c5 => ?_)
  · have c6 : nI 30 ≤ nI (vsl lg E).length := c5
    rw [nI_leI (by omega) (by omega)] at c6
    rw [if_pos (by omega)] at hr
    have k := k0 (by rw [hr]; decide)
    rw [hr] at k
    (repeat (first | refine Ex.go rfl rfl ?_ | refine Ex.gf rfl rfl (by assumption) (by rfl) (by first | rfl | assumption) ?_))
    refine Ex.ret rfl rfl rfl ?_
    exact k
  have c6 : ¬ (vsl lg E).length = 30 := fun z => c5 (show nI 30 ≤ nI (vsl lg E).length by rw [z]; exact Int32.le_refl _)
  rw [if_neg c6] at hr
  have hfl : ((acl lg E).map (fun q => nI (posn lg q))).length = (acl lg E).length := List.length_map ..
  (repeat (first | refine Ex.go rfl rfl ?_ | refine Ex.gf rfl rfl (by assumption) (by rfl) (by first | rfl | assumption) ?_))
  refine Ex.cv0 rfl rfl rfl C.1.1 (by rfl) (by decide) rfl ?_
  refine c_isFull C.1 (by rw [hfl]; exact hW.2.2.1) ?_
  rw [hfl]
  (repeat (first | refine Ex.go rfl rfl ?_ | refine Ex.gf rfl rfl (by assumption) (by rfl) (by first | rfl | assumption) ?_))
  refine Ex.brz (fun hf => ?_) (fun hf => ?_)
  · rw [if_pos hf] at hr
    have k := k0 (by rw [hr]; decide)
    rw [hr] at k
    (repeat (first | refine Ex.go rfl rfl ?_ | refine Ex.gf rfl rfl (by assumption) (by rfl) (by first | rfl | assumption) ?_))
    refine Ex.ret rfl rfl rfl ?_
    exact k
  rw [if_neg hf] at hr
  have hW2 := WF_N hW (show 1 < 12 by omega) hr
  have hil := WF_img hW2.2.2
  have eim : img (lgN lg E 1 (n6 o s mk dy 0 0)) (E + 1) = img lg E ++ (nI 1 :: (List.range (numc 1)).map (n6 o s mk dy 0 0)) := by
    show img (lgN lg E 1 (n6 o s mk dy 0 0)) E ++ (cod (lgN lg E 1 (n6 o s mk dy 0 0)) E :: (List.range (nums (cod (lgN lg E 1 (n6 o s mk dy 0 0)) E))).map (num (lgN lg E 1 (n6 o s mk dy 0 0)) E)) = _
    rw [lgE_img lgN_E E (Nat.le_refl E), lgN_cod]
    congr 2
    exact List.map_congr_left fun k hk => lgN_num (List.mem_range.mp hk)
  have enm : (List.range (numc 1)).map (n6 o s mk dy 0 0) = [o, s, mk, dy] := by rw [show numc 1 = 4 by decide]; rfl
  rw [eim, enm] at hil
  simp at hil
  have hpl : (acl lg E).length < 2000 := by have := hW.2.2.1; omega
  have k := k1 hr
  (repeat (first | refine Ex.go rfl rfl ?_ | refine Ex.gf rfl rfl (by assumption) (by rfl) (by first | rfl | assumption) ?_))
  refine Ex.cv1 rfl rfl rfl C.1.1 (by rfl) (by decide) rfl ?_
  refine c_begin C.1 (by omega) (by rw [hfl]; exact hpl) (by rw [List.length_map]; exact hpl) (fun G1 R1 F1 => ?_)
  (repeat (first | refine Ex.go rfl rfl ?_ | refine Ex.gf rfl rfl (by assumption) (by rfl) (by first | rfl | assumption) ?_))
  refine Ex.rwadd R1 (by simp; omega) rfl rfl rfl (fun G2 R2 F2 => ?_)
  have F2 := F1.trans F2
  (repeat (first | refine Ex.go rfl rfl ?_ | refine Ex.gf rfl rfl (by assumption) (by rfl) (by first | rfl | assumption) ?_))
  refine Ex.rwadd R2 (by simp; omega) rfl rfl rfl (fun G3 R3 F3 => ?_)
  have F3 := F2.trans F3
  (repeat (first | refine Ex.go rfl rfl ?_ | refine Ex.gf rfl rfl (by assumption) (by rfl) (by first | rfl | assumption) ?_))
  refine Ex.rwadd R3 (by simp; omega) rfl rfl rfl (fun G4 R4 F4 => ?_)
  have F4 := F3.trans F4
  (repeat (first | refine Ex.go rfl rfl ?_ | refine Ex.gf rfl rfl (by assumption) (by rfl) (by first | rfl | assumption) ?_))
  refine Ex.rwadd R4 (by simp; omega) rfl rfl rfl (fun G5 R5 F5 => ?_)
  have F5 := F4.trans F5
  have h0 := R5.1
  have RR : RW G5 a (nI (vsl lg E).length, nI (rsl lg E).length, nI (osl lg E).length, tdy lg E, ke) (img lg E ++ (nI 1 :: (List.range (numc 1)).map (n6 o s mk dy 0 0))) ((acl lg E).map (fun q => nI (posn lg q)) ++ [nI (img lg E).length]) ((acl lg E).map (ent lg) ++ [tdy lg E]) (fun j => us[j]?) := by
    rw [enm, show img lg E ++ nI 1 :: [o, s, mk, dy] = img lg E ++ [nI 1] ++ [o] ++ [s] ++ [mk] ++ [dy] by simp]
    exact R5
  (repeat (first | refine Ex.go rfl rfl ?_ | refine Ex.gf rfl rfl (by assumption) (by rfl) (by first | rfl | assumption) ?_))
  refine Ex.cv0 rfl rfl rfl h0 (by rfl) (by decide) rfl ?_
  refine c_lastAct R5 (by rw [List.length_append]; simp) ?_
  rw [show nI (((acl lg E).map (fun q => nI (posn lg q)) ++ [nI (img lg E).length]).length - 1) = nI ((acl lg E).map (fun q => nI (posn lg q)) ++ [nI (img lg E).length]).length - 1 from (pk_sub (b := 1) (by rw [List.length_append]; simp)).symm]
  (repeat (first | refine Ex.go rfl rfl ?_ | refine Ex.gf rfl rfl (by assumption) (by rfl) (by first | rfl | assumption) ?_))
  refine Ex.cv2 rfl rfl rfl h0 (by rfl) (by decide) rfl ?_
  refine c_entered (c := 1) (nn := n6 o s mk dy 0 0) ha C hW (by omega) (by omega) hr hm RR F5 (fun G9 us' C9 F9 => ?_)
  have k := k G9 us' C9 F9
  (repeat (first | refine Ex.go rfl rfl ?_ | refine Ex.gf rfl rfl (by assumption) (by rfl) (by first | rfl | assumption) ?_))
  refine Ex.ret rfl rfl rfl ?_
  exact k
theorem c_enterPart {v kd sg ra th sh : Int32} (ha : a = 2 ∨ a = 7) (C : CR G a us lg E ke) (hW : WF lg E) (hm : G.length = 378 + 6 * m) (k0 : rfs lg E 2 (n6 v kd sg ra th sh) < 0 → Q (some (.int (rfs lg E 2 (n6 v kd sg ra th sh)))) G) (k1 : rfs lg E 2 (n6 v kd sg ra th sh) = 0 → ∀ G' us', CR G' a us' (lgN lg E 2 (n6 v kd sg ra th sh)) (E + 1) ke → FC a us G us' G' → Q (some (.int (ansI lg E 2 (n6 v kd sg ra th sh)))) G') : Cx (d + 6) mX3_enterPart [.ref a, .int v, .int kd, .int sg, .int ra, .int th, .int sh] G Q := by
  have hr : rfs lg E 2 (n6 v kd sg ra th sh) = if ¬ (0 ≤ v.toInt ∧ v.toInt < (vsl lg E).length) then -1 else if ¬ (rng kd 0 4 ∧ rng sg 1 100000 ∧ rng ra 1 100000 ∧ rng th 1 10000 ∧ rng sh 1 1000) then -2 else if (psl lg E v.toNatClampNeg).length = 24 then -4 else if (acl lg E).length = 2000 then -4 else 0 := rfl
  have hh0 := C.1.1
  refine Cx.body rfl rfl ?_
  (repeat (first | refine Ex.go rfl rfl ?_ | refine Ex.gf rfl rfl (by assumption) (by rfl) (by first | rfl | assumption) ?_))
  refine Ex.cv1 rfl rfl rfl C.1.1 (by rfl) (by decide) rfl ?_
  refine c_vesselAt C hW.2.1 (fun hno => ?_) (fun v' u ev evn hv hu => ?_)
  · rw [if_pos hno] at hr
    have k := k0 (by rw [hr]; decide)
    rw [hr] at k
    (repeat (first | refine Ex.go rfl rfl ?_ | refine Ex.gf rfl rfl (by assumption) (by rfl) (by first | rfl | assumption) ?_))
    refine Ex.ret rfl rfl rfl ?_
    exact k
  have hvl := sel_len E fun i => cod lg i == 1
  have hE6 : E ≤ 6000 := by have := acl_osl (lg := lg) (E := E); have := hW.2.2.1; have := hW.2.2.2; omega
  have hv31 : v' < 2 ^ 31 := by unfold vsl at hv; omega
  have hvi : 0 ≤ v.toInt ∧ v.toInt < (vsl lg E).length := by rw [ev, nI_toInt hv31]; omega
  rw [if_neg (fun z => z hvi), evn] at hr
  obtain ⟨x, K, V, L, nv⟩ := C.2.2.2.2.2 v' u hu
  obtain ⟨rfl, n1, n2, n3, n4, n5⟩ := nv hv
  have hV0 := V.1
  have hwv := wf_v hW.1 hv
  have hdk : ∀ x, dok lg E v' x ↔ ((num lg (vat lg E v') 3).toInt ≤ x.toInt ∧ x.toInt ≤ (tdy lg E).toInt) := fun x => by unfold dok rng; rw [hwv.2.2.2.2.2]
  obtain ⟨mu, emu⟩ := C.2.2.2.2.1 u (List.mem_of_getElem? hu)
  have eK : K.1.length = (psl lg E v').length := by rw [n1, List.length_map]
  have hp24 := psl_le hW.1 hE6 hv31
  (repeat (first | refine Ex.go rfl rfl ?_ | refine Ex.gf rfl rfl (by assumption) (by rfl) (by first | rfl | assumption) ?_))
  refine Ex.cs3 rfl rfl rfl rfl rfl rfl ?_
  refine c_withinP (lo := 0) (hi := 4) (by decide +kernel) (by decide +kernel) (fun Pc1 dc1 ic1 => ?_)
  (repeat (first | refine Ex.go rfl rfl ?_ | refine Ex.gf rfl rfl (by assumption) (by rfl) (by first | rfl | assumption) ?_))
  first | (refine Ex.brz (fun c1 => ?_) (fun c1 => ?_); rotate_left) | (refine Ex.brn (fun c1 => ?_) (fun c1 => ?_); rotate_left)
  · rw [if_pos (fun q => c1 (ic1.mpr (q.1)))] at hr
    have k := k0 (by rw [hr]; decide)
    rw [hr] at k
    (repeat (first | refine Ex.go rfl rfl ?_ | refine Ex.gf rfl rfl (by assumption) (by rfl) (by first | rfl | assumption) ?_))
    refine Ex.ret rfl rfl rfl ?_
    exact k
  have c1 := ic1.mp c1
  (repeat (first | refine Ex.go rfl rfl ?_ | refine Ex.gf rfl rfl (by assumption) (by rfl) (by first | rfl | assumption) ?_))
  refine Ex.cs3 rfl rfl rfl rfl rfl rfl ?_
  refine c_isPlate (fun P2 d2 i2 => ?_)
  (repeat (first | refine Ex.go rfl rfl ?_ | refine Ex.gf rfl rfl (by assumption) (by rfl) (by first | rfl | assumption) ?_))
  first | (refine Ex.brz (fun c2 => ?_) (fun c2 => ?_); rotate_left) | (refine Ex.brn (fun c2 => ?_) (fun c2 => ?_); rotate_left)
  · rw [if_pos (fun q => c2 (i2.mpr ⟨q.2.1, q.2.2.2.1, q.2.2.2.2⟩))] at hr
    have k := k0 (by rw [hr]; decide)
    rw [hr] at k
    (repeat (first | refine Ex.go rfl rfl ?_ | refine Ex.gf rfl rfl (by assumption) (by rfl) (by first | rfl | assumption) ?_))
    refine Ex.ret rfl rfl rfl ?_
    exact k
  have c2 := i2.mp c2
  (repeat (first | refine Ex.go rfl rfl ?_ | refine Ex.gf rfl rfl (by assumption) (by rfl) (by first | rfl | assumption) ?_))
  refine Ex.cs3 rfl rfl rfl rfl rfl rfl ?_
  refine c_withinP (lo := 1) (hi := 100000) (by decide +kernel) (by decide +kernel) (fun Pc3 dc3 ic3 => ?_)
  (repeat (first | refine Ex.go rfl rfl ?_ | refine Ex.gf rfl rfl (by assumption) (by rfl) (by first | rfl | assumption) ?_))
  first | (refine Ex.brz (fun c3 => ?_) (fun c3 => ?_); rotate_left) | (refine Ex.brn (fun c3 => ?_) (fun c3 => ?_); rotate_left)
  · rw [if_pos (fun q => c3 (ic3.mpr (q.2.2.1)))] at hr
    have k := k0 (by rw [hr]; decide)
    rw [hr] at k
    (repeat (first | refine Ex.go rfl rfl ?_ | refine Ex.gf rfl rfl (by assumption) (by rfl) (by first | rfl | assumption) ?_))
    refine Ex.ret rfl rfl rfl ?_
    exact k
  have c3 := ic3.mp c3
  rw [if_neg (fun z => z ⟨c1, c2.1, c3, c2.2.1, c2.2.2⟩)] at hr
  obtain ⟨ck, hk1⟩ := V.2.1
  (repeat (first | refine Ex.go rfl rfl ?_ | refine Ex.gf rfl rfl (by assumption) (by rfl) (by first | rfl | assumption) ?_))
  refine Ex.cv0 rfl rfl rfl hk1 (by rfl) (by decide) rfl ?_
  refine s_size hk1 ?_
  rw [eK]
  (repeat (first | refine Ex.go rfl rfl ?_ | refine Ex.gf rfl rfl (by assumption) (by rfl) (by first | rfl | assumption) ?_))
  refine Ex.br (fun c5 => ?_) (fun c5 => ?_)
  · have c6 : nI 24 ≤ nI (psl lg E v').length := c5
    rw [nI_leI (by omega) (by omega)] at c6
    rw [if_pos (by omega)] at hr
    have k := k0 (by rw [hr]; decide)
    rw [hr] at k
    (repeat (first | refine Ex.go rfl rfl ?_ | refine Ex.gf rfl rfl (by assumption) (by rfl) (by first | rfl | assumption) ?_))
    refine Ex.ret rfl rfl rfl ?_
    exact k
  have c6 : ¬ (psl lg E v').length = 24 := fun z => c5 (show nI 24 ≤ nI (psl lg E v').length by rw [z]; exact Int32.le_refl _)
  rw [if_neg c6] at hr
  have hfl : ((acl lg E).map (fun q => nI (posn lg q))).length = (acl lg E).length := List.length_map ..
  (repeat (first | refine Ex.go rfl rfl ?_ | refine Ex.gf rfl rfl (by assumption) (by rfl) (by first | rfl | assumption) ?_))
  refine Ex.cv0 rfl rfl rfl C.1.1 (by rfl) (by decide) rfl ?_
  refine c_isFull C.1 (by rw [hfl]; exact hW.2.2.1) ?_
  rw [hfl]
  (repeat (first | refine Ex.go rfl rfl ?_ | refine Ex.gf rfl rfl (by assumption) (by rfl) (by first | rfl | assumption) ?_))
  refine Ex.brz (fun hf => ?_) (fun hf => ?_)
  · rw [if_pos hf] at hr
    have k := k0 (by rw [hr]; decide)
    rw [hr] at k
    (repeat (first | refine Ex.go rfl rfl ?_ | refine Ex.gf rfl rfl (by assumption) (by rfl) (by first | rfl | assumption) ?_))
    refine Ex.ret rfl rfl rfl ?_
    exact k
  rw [if_neg hf] at hr
  have hW2 := WF_N hW (show 2 < 12 by omega) hr
  have hil := WF_img hW2.2.2
  have eim : img (lgN lg E 2 (n6 v kd sg ra th sh)) (E + 1) = img lg E ++ (nI 2 :: (List.range (numc 2)).map (n6 v kd sg ra th sh)) := by
    show img (lgN lg E 2 (n6 v kd sg ra th sh)) E ++ (cod (lgN lg E 2 (n6 v kd sg ra th sh)) E :: (List.range (nums (cod (lgN lg E 2 (n6 v kd sg ra th sh)) E))).map (num (lgN lg E 2 (n6 v kd sg ra th sh)) E)) = _
    rw [lgE_img lgN_E E (Nat.le_refl E), lgN_cod]
    congr 2
    exact List.map_congr_left fun k hk => lgN_num (List.mem_range.mp hk)
  have enm : (List.range (numc 2)).map (n6 v kd sg ra th sh) = [v, kd, sg, ra, th, sh] := by rw [show numc 2 = 6 by decide]; rfl
  rw [eim, enm] at hil
  simp at hil
  have hpl : (acl lg E).length < 2000 := by have := hW.2.2.1; omega
  have k := k1 hr
  (repeat (first | refine Ex.go rfl rfl ?_ | refine Ex.gf rfl rfl (by assumption) (by rfl) (by first | rfl | assumption) ?_))
  refine Ex.cv1 rfl rfl rfl C.1.1 (by rfl) (by decide) rfl ?_
  refine c_begin C.1 (by omega) (by rw [hfl]; exact hpl) (by rw [List.length_map]; exact hpl) (fun G1 R1 F1 => ?_)
  (repeat (first | refine Ex.go rfl rfl ?_ | refine Ex.gf rfl rfl (by assumption) (by rfl) (by first | rfl | assumption) ?_))
  refine Ex.rwadd R1 (by simp; omega) rfl rfl rfl (fun G2 R2 F2 => ?_)
  have F2 := F1.trans F2
  (repeat (first | refine Ex.go rfl rfl ?_ | refine Ex.gf rfl rfl (by assumption) (by rfl) (by first | rfl | assumption) ?_))
  refine Ex.rwadd R2 (by simp; omega) rfl rfl rfl (fun G3 R3 F3 => ?_)
  have F3 := F2.trans F3
  (repeat (first | refine Ex.go rfl rfl ?_ | refine Ex.gf rfl rfl (by assumption) (by rfl) (by first | rfl | assumption) ?_))
  refine Ex.rwadd R3 (by simp; omega) rfl rfl rfl (fun G4 R4 F4 => ?_)
  have F4 := F3.trans F4
  (repeat (first | refine Ex.go rfl rfl ?_ | refine Ex.gf rfl rfl (by assumption) (by rfl) (by first | rfl | assumption) ?_))
  refine Ex.rwadd R4 (by simp; omega) rfl rfl rfl (fun G5 R5 F5 => ?_)
  have F5 := F4.trans F5
  (repeat (first | refine Ex.go rfl rfl ?_ | refine Ex.gf rfl rfl (by assumption) (by rfl) (by first | rfl | assumption) ?_))
  refine Ex.rwadd R5 (by simp; omega) rfl rfl rfl (fun G6 R6 F6 => ?_)
  have F6 := F5.trans F6
  (repeat (first | refine Ex.go rfl rfl ?_ | refine Ex.gf rfl rfl (by assumption) (by rfl) (by first | rfl | assumption) ?_))
  refine Ex.rwadd R6 (by simp; omega) rfl rfl rfl (fun G7 R7 F7 => ?_)
  have F7 := F6.trans F7
  have h0 := R7.1
  have RR : RW G7 a (nI (vsl lg E).length, nI (rsl lg E).length, nI (osl lg E).length, tdy lg E, ke) (img lg E ++ (nI 2 :: (List.range (numc 2)).map (n6 v kd sg ra th sh))) ((acl lg E).map (fun q => nI (posn lg q)) ++ [nI (img lg E).length]) ((acl lg E).map (ent lg) ++ [tdy lg E]) (fun j => us[j]?) := by
    rw [enm, show img lg E ++ nI 2 :: [v, kd, sg, ra, th, sh] = img lg E ++ [nI 2] ++ [v] ++ [kd] ++ [sg] ++ [ra] ++ [th] ++ [sh] by simp]
    exact R7
  (repeat (first | refine Ex.go rfl rfl ?_ | refine Ex.gf rfl rfl (by assumption) (by rfl) (by first | rfl | assumption) ?_))
  refine Ex.cv0 rfl rfl rfl h0 (by rfl) (by decide) rfl ?_
  refine c_lastAct R7 (by rw [List.length_append]; simp) ?_
  rw [show nI (((acl lg E).map (fun q => nI (posn lg q)) ++ [nI (img lg E).length]).length - 1) = nI ((acl lg E).map (fun q => nI (posn lg q)) ++ [nI (img lg E).length]).length - 1 from (pk_sub (b := 1) (by rw [List.length_append]; simp)).symm]
  have hV9 : G7[u]? = _ := (F7.2 u (by omega)).trans hV0
  have hk9 : G7[u + 1]? = some (cR 24 ck K.1) := (F7.2 _ (by omega)).trans hk1
  (repeat (first | refine Ex.go rfl rfl ?_ | refine Ex.gf rfl rfl (by assumption) (by rfl) (by first | rfl | assumption) ?_))
  refine Ex.cv0 rfl rfl rfl hk9 (by rfl) (by decide) rfl ?_
  refine s_size hk9 ?_
  rw [eK]
  (repeat (first | refine Ex.go rfl rfl ?_ | refine Ex.gf rfl rfl (by assumption) (by rfl) (by first | rfl | assumption) ?_))
  refine Ex.cv2 rfl rfl rfl h0 (by rfl) (by decide) rfl ?_
  refine c_entered (c := 2) (nn := n6 v kd sg ra th sh) ha C hW (by omega) (by omega) hr hm RR F7 (fun G9 us' C9 F9 => ?_)
  have k := k G9 us' C9 F9
  have ean : ansI lg E 2 (n6 v kd sg ra th sh) = nI (psl lg E v').length := by simp only [ansI]; show nI (psl lg E v.toNatClampNeg).length = _; rw [evn]
  rw [ean] at k
  (repeat (first | refine Ex.go rfl rfl ?_ | refine Ex.gf rfl rfl (by assumption) (by rfl) (by first | rfl | assumption) ?_))
  refine Ex.ret rfl rfl rfl ?_
  exact k
theorem c_enterPatch {v p st th sh dy : Int32} (ha : a = 2 ∨ a = 7) (C : CR G a us lg E ke) (hW : WF lg E) (hm : G.length = 378 + 6 * m) (k0 : rfs lg E 5 (n6 v p st th sh dy) < 0 → Q (some (.int (rfs lg E 5 (n6 v p st th sh dy)))) G) (k1 : rfs lg E 5 (n6 v p st th sh dy) = 0 → ∀ G' us', CR G' a us' (lgN lg E 5 (n6 v p st th sh dy)) (E + 1) ke → FC a us G us' G' → Q (some (.int (ansI lg E 5 (n6 v p st th sh dy)))) G') : Cx (d + 6) mX3_enterPatch [.ref a, .int v, .int p, .int st, .int th, .int sh, .int dy] G Q := by
  have hr : rfs lg E 5 (n6 v p st th sh dy) = if ¬ (0 ≤ v.toInt ∧ v.toInt < (vsl lg E).length) then -1 else if ¬ (0 ≤ p.toInt ∧ p.toInt < (psl lg E v.toNatClampNeg).length) then -1 else if ¬ (rng st 1 100000 ∧ rng th 1 10000 ∧ rng sh 1 1000 ∧ dok lg E v.toNatClampNeg dy) then -2 else if (acl lg E).length = 2000 then -4 else 0 := rfl
  have hh0 := C.1.1
  refine Cx.body rfl rfl ?_
  (repeat (first | refine Ex.go rfl rfl ?_ | refine Ex.gf rfl rfl (by assumption) (by rfl) (by first | rfl | assumption) ?_))
  refine Ex.cv1 rfl rfl rfl C.1.1 (by rfl) (by decide) rfl ?_
  refine c_vesselAt C hW.2.1 (fun hno => ?_) (fun v' u ev evn hv hu => ?_)
  · rw [if_pos hno] at hr
    have k := k0 (by rw [hr]; decide)
    rw [hr] at k
    (repeat (first | refine Ex.go rfl rfl ?_ | refine Ex.gf rfl rfl (by assumption) (by rfl) (by first | rfl | assumption) ?_))
    refine Ex.ret rfl rfl rfl ?_
    exact k
  have hvl := sel_len E fun i => cod lg i == 1
  have hE6 : E ≤ 6000 := by have := acl_osl (lg := lg) (E := E); have := hW.2.2.1; have := hW.2.2.2; omega
  have hv31 : v' < 2 ^ 31 := by unfold vsl at hv; omega
  have hvi : 0 ≤ v.toInt ∧ v.toInt < (vsl lg E).length := by rw [ev, nI_toInt hv31]; omega
  rw [if_neg (fun z => z hvi), evn] at hr
  obtain ⟨x, K, V, L, nv⟩ := C.2.2.2.2.2 v' u hu
  obtain ⟨rfl, n1, n2, n3, n4, n5⟩ := nv hv
  have hV0 := V.1
  have hwv := wf_v hW.1 hv
  have hdk : ∀ x, dok lg E v' x ↔ ((num lg (vat lg E v') 3).toInt ≤ x.toInt ∧ x.toInt ≤ (tdy lg E).toInt) := fun x => by unfold dok rng; rw [hwv.2.2.2.2.2]
  obtain ⟨mu, emu⟩ := C.2.2.2.2.1 u (List.mem_of_getElem? hu)
  have eK : K.1.length = (psl lg E v').length := by rw [n1, List.length_map]
  have hp24 := psl_le hW.1 hE6 hv31
  (repeat (first | refine Ex.go rfl rfl ?_ | refine Ex.gf rfl rfl (by assumption) (by rfl) (by first | rfl | assumption) ?_))
  refine Ex.cv1 rfl rfl rfl hV0 (by rfl) (by decide) rfl ?_
  refine c_hasPart V L ?_
  rw [eK]
  (repeat (first | refine Ex.go rfl rfl ?_ | refine Ex.gf rfl rfl (by assumption) (by rfl) (by first | rfl | assumption) ?_))
  first | (refine Ex.brz (fun hpp => ?_) (fun hpp => ?_); rotate_left) | (refine Ex.brn (fun hpp => ?_) (fun hpp => ?_); rotate_left)
  · rw [if_pos hpp] at hr
    have k := k0 (by rw [hr]; decide)
    rw [hr] at k
    (repeat (first | refine Ex.go rfl rfl ?_ | refine Ex.gf rfl rfl (by assumption) (by rfl) (by first | rfl | assumption) ?_))
    refine Ex.ret rfl rfl rfl ?_
    exact k
  rw [if_neg (fun z => z hpp)] at hr
  obtain ⟨ep1, ep2, ep3⟩ := nI_iof hpp.1
  have hpl' : p.toNatClampNeg < (psl lg E v').length := by omega
  (repeat (first | refine Ex.go rfl rfl ?_ | refine Ex.gf rfl rfl (by assumption) (by rfl) (by first | rfl | assumption) ?_))
  refine Ex.cs3 rfl rfl rfl rfl rfl rfl ?_
  refine c_isPlate (fun P2 d2 i2 => ?_)
  (repeat (first | refine Ex.go rfl rfl ?_ | refine Ex.gf rfl rfl (by assumption) (by rfl) (by first | rfl | assumption) ?_))
  first | (refine Ex.brz (fun c2 => ?_) (fun c2 => ?_); rotate_left) | (refine Ex.brn (fun c2 => ?_) (fun c2 => ?_); rotate_left)
  · rw [if_pos (fun q => c2 (i2.mpr ⟨q.1, q.2.1, q.2.2.1⟩))] at hr
    have k := k0 (by rw [hr]; decide)
    rw [hr] at k
    (repeat (first | refine Ex.go rfl rfl ?_ | refine Ex.gf rfl rfl (by assumption) (by rfl) (by first | rfl | assumption) ?_))
    refine Ex.ret rfl rfl rfl ?_
    exact k
  have c2 := i2.mp c2
  (repeat (first | refine Ex.go rfl rfl ?_ | refine Ex.gf rfl rfl (by assumption) (by rfl) (by first | rfl | assumption) ?_))
  refine Ex.cs3 rfl rfl rfl rfl rfl rfl ?_
  refine c_withinP (lo := (num lg (vat lg E v') 3).toInt) (hi := (tdy lg E).toInt) rfl rfl (fun Pc3 dc3 ic3 => ?_)
  (repeat (first | refine Ex.go rfl rfl ?_ | refine Ex.gf rfl rfl (by assumption) (by rfl) (by first | rfl | assumption) ?_))
  first | (refine Ex.brz (fun c3 => ?_) (fun c3 => ?_); rotate_left) | (refine Ex.brn (fun c3 => ?_) (fun c3 => ?_); rotate_left)
  · rw [if_pos (fun q => c3 (ic3.mpr ((hdk _).mp (q.2.2.2))))] at hr
    have k := k0 (by rw [hr]; decide)
    rw [hr] at k
    (repeat (first | refine Ex.go rfl rfl ?_ | refine Ex.gf rfl rfl (by assumption) (by rfl) (by first | rfl | assumption) ?_))
    refine Ex.ret rfl rfl rfl ?_
    exact k
  have c3 := (hdk _).mpr (ic3.mp c3)
  rw [if_neg (fun z => z ⟨c2.1, c2.2.1, c2.2.2, c3⟩)] at hr
  have hfl : ((acl lg E).map (fun q => nI (posn lg q))).length = (acl lg E).length := List.length_map ..
  (repeat (first | refine Ex.go rfl rfl ?_ | refine Ex.gf rfl rfl (by assumption) (by rfl) (by first | rfl | assumption) ?_))
  refine Ex.cv0 rfl rfl rfl C.1.1 (by rfl) (by decide) rfl ?_
  refine c_isFull C.1 (by rw [hfl]; exact hW.2.2.1) ?_
  rw [hfl]
  (repeat (first | refine Ex.go rfl rfl ?_ | refine Ex.gf rfl rfl (by assumption) (by rfl) (by first | rfl | assumption) ?_))
  refine Ex.brz (fun hf => ?_) (fun hf => ?_)
  · rw [if_pos hf] at hr
    have k := k0 (by rw [hr]; decide)
    rw [hr] at k
    (repeat (first | refine Ex.go rfl rfl ?_ | refine Ex.gf rfl rfl (by assumption) (by rfl) (by first | rfl | assumption) ?_))
    refine Ex.ret rfl rfl rfl ?_
    exact k
  rw [if_neg hf] at hr
  have hW2 := WF_N hW (show 5 < 12 by omega) hr
  have hil := WF_img hW2.2.2
  have eim : img (lgN lg E 5 (n6 v p st th sh dy)) (E + 1) = img lg E ++ (nI 5 :: (List.range (numc 5)).map (n6 v p st th sh dy)) := by
    show img (lgN lg E 5 (n6 v p st th sh dy)) E ++ (cod (lgN lg E 5 (n6 v p st th sh dy)) E :: (List.range (nums (cod (lgN lg E 5 (n6 v p st th sh dy)) E))).map (num (lgN lg E 5 (n6 v p st th sh dy)) E)) = _
    rw [lgE_img lgN_E E (Nat.le_refl E), lgN_cod]
    congr 2
    exact List.map_congr_left fun k hk => lgN_num (List.mem_range.mp hk)
  have enm : (List.range (numc 5)).map (n6 v p st th sh dy) = [v, p, st, th, sh, dy] := by rw [show numc 5 = 6 by decide]; rfl
  rw [eim, enm] at hil
  simp at hil
  have hpl : (acl lg E).length < 2000 := by have := hW.2.2.1; omega
  have k := k1 hr
  (repeat (first | refine Ex.go rfl rfl ?_ | refine Ex.gf rfl rfl (by assumption) (by rfl) (by first | rfl | assumption) ?_))
  refine Ex.cv1 rfl rfl rfl C.1.1 (by rfl) (by decide) rfl ?_
  refine c_begin C.1 (by omega) (by rw [hfl]; exact hpl) (by rw [List.length_map]; exact hpl) (fun G1 R1 F1 => ?_)
  (repeat (first | refine Ex.go rfl rfl ?_ | refine Ex.gf rfl rfl (by assumption) (by rfl) (by first | rfl | assumption) ?_))
  refine Ex.rwadd R1 (by simp; omega) rfl rfl rfl (fun G2 R2 F2 => ?_)
  have F2 := F1.trans F2
  (repeat (first | refine Ex.go rfl rfl ?_ | refine Ex.gf rfl rfl (by assumption) (by rfl) (by first | rfl | assumption) ?_))
  refine Ex.rwadd R2 (by simp; omega) rfl rfl rfl (fun G3 R3 F3 => ?_)
  have F3 := F2.trans F3
  (repeat (first | refine Ex.go rfl rfl ?_ | refine Ex.gf rfl rfl (by assumption) (by rfl) (by first | rfl | assumption) ?_))
  refine Ex.rwadd R3 (by simp; omega) rfl rfl rfl (fun G4 R4 F4 => ?_)
  have F4 := F3.trans F4
  (repeat (first | refine Ex.go rfl rfl ?_ | refine Ex.gf rfl rfl (by assumption) (by rfl) (by first | rfl | assumption) ?_))
  refine Ex.rwadd R4 (by simp; omega) rfl rfl rfl (fun G5 R5 F5 => ?_)
  have F5 := F4.trans F5
  (repeat (first | refine Ex.go rfl rfl ?_ | refine Ex.gf rfl rfl (by assumption) (by rfl) (by first | rfl | assumption) ?_))
  refine Ex.rwadd R5 (by simp; omega) rfl rfl rfl (fun G6 R6 F6 => ?_)
  have F6 := F5.trans F6
  (repeat (first | refine Ex.go rfl rfl ?_ | refine Ex.gf rfl rfl (by assumption) (by rfl) (by first | rfl | assumption) ?_))
  refine Ex.rwadd R6 (by simp; omega) rfl rfl rfl (fun G7 R7 F7 => ?_)
  have F7 := F6.trans F7
  have h0 := R7.1
  have RR : RW G7 a (nI (vsl lg E).length, nI (rsl lg E).length, nI (osl lg E).length, tdy lg E, ke) (img lg E ++ (nI 5 :: (List.range (numc 5)).map (n6 v p st th sh dy))) ((acl lg E).map (fun q => nI (posn lg q)) ++ [nI (img lg E).length]) ((acl lg E).map (ent lg) ++ [tdy lg E]) (fun j => us[j]?) := by
    rw [enm, show img lg E ++ nI 5 :: [v, p, st, th, sh, dy] = img lg E ++ [nI 5] ++ [v] ++ [p] ++ [st] ++ [th] ++ [sh] ++ [dy] by simp]
    exact R7
  (repeat (first | refine Ex.go rfl rfl ?_ | refine Ex.gf rfl rfl (by assumption) (by rfl) (by first | rfl | assumption) ?_))
  refine Ex.cv0 rfl rfl rfl h0 (by rfl) (by decide) rfl ?_
  refine c_lastAct R7 (by rw [List.length_append]; simp) ?_
  rw [show nI (((acl lg E).map (fun q => nI (posn lg q)) ++ [nI (img lg E).length]).length - 1) = nI ((acl lg E).map (fun q => nI (posn lg q)) ++ [nI (img lg E).length]).length - 1 from (pk_sub (b := 1) (by rw [List.length_append]; simp)).symm]
  (repeat (first | refine Ex.go rfl rfl ?_ | refine Ex.gf rfl rfl (by assumption) (by rfl) (by first | rfl | assumption) ?_))
  refine Ex.cv2 rfl rfl rfl h0 (by rfl) (by decide) rfl ?_
  refine c_entered (c := 5) (nn := n6 v p st th sh dy) ha C hW (by omega) (by omega) hr hm RR F7 (fun G9 us' C9 F9 => ?_)
  have k := k G9 us' C9 F9
  (repeat (first | refine Ex.go rfl rfl ?_ | refine Ex.gf rfl rfl (by assumption) (by rfl) (by first | rfl | assumption) ?_))
  refine Ex.ret rfl rfl rfl ?_
  exact k
theorem c_enterPlate {v p th dy : Int32} (ha : a = 2 ∨ a = 7) (C : CR G a us lg E ke) (hW : WF lg E) (hm : G.length = 378 + 6 * m) (k0 : rfs lg E 6 (n6 v p th dy 0 0) < 0 → Q (some (.int (rfs lg E 6 (n6 v p th dy 0 0)))) G) (k1 : rfs lg E 6 (n6 v p th dy 0 0) = 0 → ∀ G' us', CR G' a us' (lgN lg E 6 (n6 v p th dy 0 0)) (E + 1) ke → FC a us G us' G' → Q (some (.int (ansI lg E 6 (n6 v p th dy 0 0)))) G') : Cx (d + 6) mX3_enterPlate [.ref a, .int v, .int p, .int th, .int dy] G Q := by
  have hr : rfs lg E 6 (n6 v p th dy 0 0) = if ¬ (0 ≤ v.toInt ∧ v.toInt < (vsl lg E).length) then -1 else if ¬ (0 ≤ p.toInt ∧ p.toInt < (psl lg E v.toNatClampNeg).length) then -1 else if ¬ (rng th 1 10000 ∧ dok lg E v.toNatClampNeg dy) then -2 else if (acl lg E).length = 2000 then -4 else 0 := rfl
  have hh0 := C.1.1
  refine Cx.body rfl rfl ?_
  (repeat (first | refine Ex.go rfl rfl ?_ | refine Ex.gf rfl rfl (by assumption) (by rfl) (by first | rfl | assumption) ?_))
  refine Ex.cv1 rfl rfl rfl C.1.1 (by rfl) (by decide) rfl ?_
  refine c_vesselAt C hW.2.1 (fun hno => ?_) (fun v' u ev evn hv hu => ?_)
  · rw [if_pos hno] at hr
    have k := k0 (by rw [hr]; decide)
    rw [hr] at k
    (repeat (first | refine Ex.go rfl rfl ?_ | refine Ex.gf rfl rfl (by assumption) (by rfl) (by first | rfl | assumption) ?_))
    refine Ex.ret rfl rfl rfl ?_
    exact k
  have hvl := sel_len E fun i => cod lg i == 1
  have hE6 : E ≤ 6000 := by have := acl_osl (lg := lg) (E := E); have := hW.2.2.1; have := hW.2.2.2; omega
  have hv31 : v' < 2 ^ 31 := by unfold vsl at hv; omega
  have hvi : 0 ≤ v.toInt ∧ v.toInt < (vsl lg E).length := by rw [ev, nI_toInt hv31]; omega
  rw [if_neg (fun z => z hvi), evn] at hr
  obtain ⟨x, K, V, L, nv⟩ := C.2.2.2.2.2 v' u hu
  obtain ⟨rfl, n1, n2, n3, n4, n5⟩ := nv hv
  have hV0 := V.1
  have hwv := wf_v hW.1 hv
  have hdk : ∀ x, dok lg E v' x ↔ ((num lg (vat lg E v') 3).toInt ≤ x.toInt ∧ x.toInt ≤ (tdy lg E).toInt) := fun x => by unfold dok rng; rw [hwv.2.2.2.2.2]
  obtain ⟨mu, emu⟩ := C.2.2.2.2.1 u (List.mem_of_getElem? hu)
  have eK : K.1.length = (psl lg E v').length := by rw [n1, List.length_map]
  have hp24 := psl_le hW.1 hE6 hv31
  (repeat (first | refine Ex.go rfl rfl ?_ | refine Ex.gf rfl rfl (by assumption) (by rfl) (by first | rfl | assumption) ?_))
  refine Ex.cv1 rfl rfl rfl hV0 (by rfl) (by decide) rfl ?_
  refine c_hasPart V L ?_
  rw [eK]
  (repeat (first | refine Ex.go rfl rfl ?_ | refine Ex.gf rfl rfl (by assumption) (by rfl) (by first | rfl | assumption) ?_))
  first | (refine Ex.brz (fun hpp => ?_) (fun hpp => ?_); rotate_left) | (refine Ex.brn (fun hpp => ?_) (fun hpp => ?_); rotate_left)
  · rw [if_pos hpp] at hr
    have k := k0 (by rw [hr]; decide)
    rw [hr] at k
    (repeat (first | refine Ex.go rfl rfl ?_ | refine Ex.gf rfl rfl (by assumption) (by rfl) (by first | rfl | assumption) ?_))
    refine Ex.ret rfl rfl rfl ?_
    exact k
  rw [if_neg (fun z => z hpp)] at hr
  obtain ⟨ep1, ep2, ep3⟩ := nI_iof hpp.1
  have hpl' : p.toNatClampNeg < (psl lg E v').length := by omega
  (repeat (first | refine Ex.go rfl rfl ?_ | refine Ex.gf rfl rfl (by assumption) (by rfl) (by first | rfl | assumption) ?_))
  refine Ex.cs3 rfl rfl rfl rfl rfl rfl ?_
  refine c_withinP (lo := 1) (hi := 10000) (by decide +kernel) (by decide +kernel) (fun Pc1 dc1 ic1 => ?_)
  (repeat (first | refine Ex.go rfl rfl ?_ | refine Ex.gf rfl rfl (by assumption) (by rfl) (by first | rfl | assumption) ?_))
  first | (refine Ex.brz (fun c1 => ?_) (fun c1 => ?_); rotate_left) | (refine Ex.brn (fun c1 => ?_) (fun c1 => ?_); rotate_left)
  · rw [if_pos (fun q => c1 (ic1.mpr (q.1)))] at hr
    have k := k0 (by rw [hr]; decide)
    rw [hr] at k
    (repeat (first | refine Ex.go rfl rfl ?_ | refine Ex.gf rfl rfl (by assumption) (by rfl) (by first | rfl | assumption) ?_))
    refine Ex.ret rfl rfl rfl ?_
    exact k
  have c1 := ic1.mp c1
  (repeat (first | refine Ex.go rfl rfl ?_ | refine Ex.gf rfl rfl (by assumption) (by rfl) (by first | rfl | assumption) ?_))
  refine Ex.cs3 rfl rfl rfl rfl rfl rfl ?_
  refine c_withinP (lo := (num lg (vat lg E v') 3).toInt) (hi := (tdy lg E).toInt) rfl rfl (fun Pc3 dc3 ic3 => ?_)
  (repeat (first | refine Ex.go rfl rfl ?_ | refine Ex.gf rfl rfl (by assumption) (by rfl) (by first | rfl | assumption) ?_))
  first | (refine Ex.brz (fun c3 => ?_) (fun c3 => ?_); rotate_left) | (refine Ex.brn (fun c3 => ?_) (fun c3 => ?_); rotate_left)
  · rw [if_pos (fun q => c3 (ic3.mpr ((hdk _).mp (q.2))))] at hr
    have k := k0 (by rw [hr]; decide)
    rw [hr] at k
    (repeat (first | refine Ex.go rfl rfl ?_ | refine Ex.gf rfl rfl (by assumption) (by rfl) (by first | rfl | assumption) ?_))
    refine Ex.ret rfl rfl rfl ?_
    exact k
  have c3 := (hdk _).mpr (ic3.mp c3)
  rw [if_neg (fun z => z ⟨c1, c3⟩)] at hr
  have hfl : ((acl lg E).map (fun q => nI (posn lg q))).length = (acl lg E).length := List.length_map ..
  (repeat (first | refine Ex.go rfl rfl ?_ | refine Ex.gf rfl rfl (by assumption) (by rfl) (by first | rfl | assumption) ?_))
  refine Ex.cv0 rfl rfl rfl C.1.1 (by rfl) (by decide) rfl ?_
  refine c_isFull C.1 (by rw [hfl]; exact hW.2.2.1) ?_
  rw [hfl]
  (repeat (first | refine Ex.go rfl rfl ?_ | refine Ex.gf rfl rfl (by assumption) (by rfl) (by first | rfl | assumption) ?_))
  refine Ex.brz (fun hf => ?_) (fun hf => ?_)
  · rw [if_pos hf] at hr
    have k := k0 (by rw [hr]; decide)
    rw [hr] at k
    (repeat (first | refine Ex.go rfl rfl ?_ | refine Ex.gf rfl rfl (by assumption) (by rfl) (by first | rfl | assumption) ?_))
    refine Ex.ret rfl rfl rfl ?_
    exact k
  rw [if_neg hf] at hr
  have hW2 := WF_N hW (show 6 < 12 by omega) hr
  have hil := WF_img hW2.2.2
  have eim : img (lgN lg E 6 (n6 v p th dy 0 0)) (E + 1) = img lg E ++ (nI 6 :: (List.range (numc 6)).map (n6 v p th dy 0 0)) := by
    show img (lgN lg E 6 (n6 v p th dy 0 0)) E ++ (cod (lgN lg E 6 (n6 v p th dy 0 0)) E :: (List.range (nums (cod (lgN lg E 6 (n6 v p th dy 0 0)) E))).map (num (lgN lg E 6 (n6 v p th dy 0 0)) E)) = _
    rw [lgE_img lgN_E E (Nat.le_refl E), lgN_cod]
    congr 2
    exact List.map_congr_left fun k hk => lgN_num (List.mem_range.mp hk)
  have enm : (List.range (numc 6)).map (n6 v p th dy 0 0) = [v, p, th, dy] := by rw [show numc 6 = 4 by decide]; rfl
  rw [eim, enm] at hil
  simp at hil
  have hpl : (acl lg E).length < 2000 := by have := hW.2.2.1; omega
  have k := k1 hr
  (repeat (first | refine Ex.go rfl rfl ?_ | refine Ex.gf rfl rfl (by assumption) (by rfl) (by first | rfl | assumption) ?_))
  refine Ex.cv1 rfl rfl rfl C.1.1 (by rfl) (by decide) rfl ?_
  refine c_begin C.1 (by omega) (by rw [hfl]; exact hpl) (by rw [List.length_map]; exact hpl) (fun G1 R1 F1 => ?_)
  (repeat (first | refine Ex.go rfl rfl ?_ | refine Ex.gf rfl rfl (by assumption) (by rfl) (by first | rfl | assumption) ?_))
  refine Ex.rwadd R1 (by simp; omega) rfl rfl rfl (fun G2 R2 F2 => ?_)
  have F2 := F1.trans F2
  (repeat (first | refine Ex.go rfl rfl ?_ | refine Ex.gf rfl rfl (by assumption) (by rfl) (by first | rfl | assumption) ?_))
  refine Ex.rwadd R2 (by simp; omega) rfl rfl rfl (fun G3 R3 F3 => ?_)
  have F3 := F2.trans F3
  (repeat (first | refine Ex.go rfl rfl ?_ | refine Ex.gf rfl rfl (by assumption) (by rfl) (by first | rfl | assumption) ?_))
  refine Ex.rwadd R3 (by simp; omega) rfl rfl rfl (fun G4 R4 F4 => ?_)
  have F4 := F3.trans F4
  (repeat (first | refine Ex.go rfl rfl ?_ | refine Ex.gf rfl rfl (by assumption) (by rfl) (by first | rfl | assumption) ?_))
  refine Ex.rwadd R4 (by simp; omega) rfl rfl rfl (fun G5 R5 F5 => ?_)
  have F5 := F4.trans F5
  have h0 := R5.1
  have RR : RW G5 a (nI (vsl lg E).length, nI (rsl lg E).length, nI (osl lg E).length, tdy lg E, ke) (img lg E ++ (nI 6 :: (List.range (numc 6)).map (n6 v p th dy 0 0))) ((acl lg E).map (fun q => nI (posn lg q)) ++ [nI (img lg E).length]) ((acl lg E).map (ent lg) ++ [tdy lg E]) (fun j => us[j]?) := by
    rw [enm, show img lg E ++ nI 6 :: [v, p, th, dy] = img lg E ++ [nI 6] ++ [v] ++ [p] ++ [th] ++ [dy] by simp]
    exact R5
  (repeat (first | refine Ex.go rfl rfl ?_ | refine Ex.gf rfl rfl (by assumption) (by rfl) (by first | rfl | assumption) ?_))
  refine Ex.cv0 rfl rfl rfl h0 (by rfl) (by decide) rfl ?_
  refine c_lastAct R5 (by rw [List.length_append]; simp) ?_
  rw [show nI (((acl lg E).map (fun q => nI (posn lg q)) ++ [nI (img lg E).length]).length - 1) = nI ((acl lg E).map (fun q => nI (posn lg q)) ++ [nI (img lg E).length]).length - 1 from (pk_sub (b := 1) (by rw [List.length_append]; simp)).symm]
  (repeat (first | refine Ex.go rfl rfl ?_ | refine Ex.gf rfl rfl (by assumption) (by rfl) (by first | rfl | assumption) ?_))
  refine Ex.cv2 rfl rfl rfl h0 (by rfl) (by decide) rfl ?_
  refine c_entered (c := 6) (nn := n6 v p th dy 0 0) ha C hW (by omega) (by omega) hr hm RR F5 (fun G9 us' C9 F9 => ?_)
  have k := k G9 us' C9 F9
  (repeat (first | refine Ex.go rfl rfl ?_ | refine Ex.gf rfl rfl (by assumption) (by rfl) (by first | rfl | assumption) ?_))
  refine Ex.ret rfl rfl rfl ?_
  exact k
theorem c_enterPlug {v p n dy : Int32} (ha : a = 2 ∨ a = 7) (C : CR G a us lg E ke) (hW : WF lg E) (hm : G.length = 378 + 6 * m) (k0 : rfs lg E 7 (n6 v p n dy 0 0) < 0 → Q (some (.int (rfs lg E 7 (n6 v p n dy 0 0)))) G) (k1 : rfs lg E 7 (n6 v p n dy 0 0) = 0 → ∀ G' us', CR G' a us' (lgN lg E 7 (n6 v p n dy 0 0)) (E + 1) ke → FC a us G us' G' → Q (some (.int (ansI lg E 7 (n6 v p n dy 0 0)))) G') : Cx (d + 6) mX3_enterPlug [.ref a, .int v, .int p, .int n, .int dy] G Q := by
  have hr : rfs lg E 7 (n6 v p n dy 0 0) = if ¬ (0 ≤ v.toInt ∧ v.toInt < (vsl lg E).length) then -1 else if ¬ (0 ≤ p.toInt ∧ p.toInt < (psl lg E v.toNatClampNeg).length) then -1 else if ¬ num lg (pat lg E v.toNatClampNeg p.toNatClampNeg) 1 = 2 then -1 else if ¬ (rng n 0 (sho lg E (nI v.toNatClampNeg) (nI p.toNatClampNeg) 40000 4 1).toInt ∧ dok lg E v.toNatClampNeg dy) then -2 else if (acl lg E).length = 2000 then -4 else 0 := rfl
  have hh0 := C.1.1
  refine Cx.body rfl rfl ?_
  (repeat (first | refine Ex.go rfl rfl ?_ | refine Ex.gf rfl rfl (by assumption) (by rfl) (by first | rfl | assumption) ?_))
  refine Ex.cv1 rfl rfl rfl C.1.1 (by rfl) (by decide) rfl ?_
  refine c_vesselAt C hW.2.1 (fun hno => ?_) (fun v' u ev evn hv hu => ?_)
  · rw [if_pos hno] at hr
    have k := k0 (by rw [hr]; decide)
    rw [hr] at k
    (repeat (first | refine Ex.go rfl rfl ?_ | refine Ex.gf rfl rfl (by assumption) (by rfl) (by first | rfl | assumption) ?_))
    refine Ex.ret rfl rfl rfl ?_
    exact k
  have hvl := sel_len E fun i => cod lg i == 1
  have hE6 : E ≤ 6000 := by have := acl_osl (lg := lg) (E := E); have := hW.2.2.1; have := hW.2.2.2; omega
  have hv31 : v' < 2 ^ 31 := by unfold vsl at hv; omega
  have hvi : 0 ≤ v.toInt ∧ v.toInt < (vsl lg E).length := by rw [ev, nI_toInt hv31]; omega
  rw [if_neg (fun z => z hvi), evn] at hr
  obtain ⟨x, K, V, L, nv⟩ := C.2.2.2.2.2 v' u hu
  obtain ⟨rfl, n1, n2, n3, n4, n5⟩ := nv hv
  have hV0 := V.1
  have hwv := wf_v hW.1 hv
  have hdk : ∀ x, dok lg E v' x ↔ ((num lg (vat lg E v') 3).toInt ≤ x.toInt ∧ x.toInt ≤ (tdy lg E).toInt) := fun x => by unfold dok rng; rw [hwv.2.2.2.2.2]
  obtain ⟨mu, emu⟩ := C.2.2.2.2.1 u (List.mem_of_getElem? hu)
  have eK : K.1.length = (psl lg E v').length := by rw [n1, List.length_map]
  have hp24 := psl_le hW.1 hE6 hv31
  (repeat (first | refine Ex.go rfl rfl ?_ | refine Ex.gf rfl rfl (by assumption) (by rfl) (by first | rfl | assumption) ?_))
  refine Ex.cv1 rfl rfl rfl hV0 (by rfl) (by decide) rfl ?_
  refine c_hasPart V L ?_
  rw [eK]
  (repeat (first | refine Ex.go rfl rfl ?_ | refine Ex.gf rfl rfl (by assumption) (by rfl) (by first | rfl | assumption) ?_))
  first | (refine Ex.brz (fun hpp => ?_) (fun hpp => ?_); rotate_left) | (refine Ex.brn (fun hpp => ?_) (fun hpp => ?_); rotate_left)
  · rw [if_pos hpp] at hr
    have k := k0 (by rw [hr]; decide)
    rw [hr] at k
    (repeat (first | refine Ex.go rfl rfl ?_ | refine Ex.gf rfl rfl (by assumption) (by rfl) (by first | rfl | assumption) ?_))
    refine Ex.ret rfl rfl rfl ?_
    exact k
  rw [if_neg (fun z => z hpp)] at hr
  obtain ⟨ep1, ep2, ep3⟩ := nI_iof hpp.1
  have hpl' : p.toNatClampNeg < (psl lg E v').length := by omega
  have eki : bo_at K.1 p = num lg (pat lg E v' p.toNatClampNeg) 1 := by
    have h1 := lst_at (xs := K.1) (p := p.toNatClampNeg) (v := num lg (pat lg E v' p.toNatClampNeg) 1) (by rw [eK]; exact hpl') ep3 (by rw [n1, List.getElem?_map, pat_get hpl']; rfl)
    rw [← ep1] at h1
    exact h1
  obtain ⟨ck, hk1⟩ := V.2.1
  (repeat (first | refine Ex.go rfl rfl ?_ | refine Ex.gf rfl rfl (by assumption) (by rfl) (by first | rfl | assumption) ?_))
  refine Ex.cv1 rfl rfl rfl hk1 (by rfl) (by decide) rfl ?_
  refine Cx.ratE hk1 eki ?_
  (repeat (first | refine Ex.go rfl rfl ?_ | refine Ex.gf rfl rfl (by assumption) (by rfl) (by first | rfl | assumption) ?_))
  refine Ex.br (fun ck2 => ?_) (fun ck2 => ?_); rotate_left
  · rw [if_pos (show ¬ num lg (pat lg E v' p.toNatClampNeg) 1 = 2 from ck2)] at hr
    have k := k0 (by rw [hr]; decide)
    rw [hr] at k
    (repeat (first | refine Ex.go rfl rfl ?_ | refine Ex.gf rfl rfl (by assumption) (by rfl) (by first | rfl | assumption) ?_))
    refine Ex.ret rfl rfl rfl ?_
    exact k
  rw [if_neg (fun z => z (show num lg (pat lg E v' p.toNatClampNeg) 1 = 2 from ck2))] at hr
  obtain ⟨cm, hk3⟩ := V.2.2.2.1
  have emy : bo_at K.2.2.1 p = sho lg E (nI v') (nI p.toNatClampNeg) 40000 4 1 := by
    have h1 := lst_at (xs := K.2.2.1) (p := p.toNatClampNeg) (v := sho lg E (nI v') (nI p.toNatClampNeg) 40000 4 1) (by rw [n3]; simp; omega) ep3 (by rw [n3, List.getElem?_map, List.getElem?_range hpl']; rfl)
    rw [← ep1] at h1
    rw [← ep1]
    exact h1
  (repeat (first | refine Ex.go rfl rfl ?_ | refine Ex.gf rfl rfl (by assumption) (by rfl) (by first | rfl | assumption) ?_))
  refine Ex.cv1 rfl rfl rfl hk3 (by rfl) (by decide) rfl ?_
  refine Cx.ratE hk3 emy ?_
  (repeat (first | refine Ex.go rfl rfl ?_ | refine Ex.gf rfl rfl (by assumption) (by rfl) (by first | rfl | assumption) ?_))
  refine Ex.cs3 rfl rfl rfl rfl rfl rfl ?_
  refine c_withinP (lo := 0) (hi := (sho lg E (nI v') (nI p.toNatClampNeg) 40000 4 1).toInt) (by decide +kernel) rfl (fun P4 d4 i4 => ?_)
  (repeat (first | refine Ex.go rfl rfl ?_ | refine Ex.gf rfl rfl (by assumption) (by rfl) (by first | rfl | assumption) ?_))
  first | (refine Ex.brz (fun c4 => ?_) (fun c4 => ?_); rotate_left) | (refine Ex.brn (fun c4 => ?_) (fun c4 => ?_); rotate_left)
  · rw [if_pos (fun q => c4 (i4.mpr q.1))] at hr
    have k := k0 (by rw [hr]; decide)
    rw [hr] at k
    (repeat (first | refine Ex.go rfl rfl ?_ | refine Ex.gf rfl rfl (by assumption) (by rfl) (by first | rfl | assumption) ?_))
    refine Ex.ret rfl rfl rfl ?_
    exact k
  (repeat (first | refine Ex.go rfl rfl ?_ | refine Ex.gf rfl rfl (by assumption) (by rfl) (by first | rfl | assumption) ?_))
  refine Ex.cs3 rfl rfl rfl rfl rfl rfl ?_
  refine c_withinP (lo := (num lg (vat lg E v') 3).toInt) (hi := (tdy lg E).toInt) rfl rfl (fun Pc3 dc3 ic3 => ?_)
  (repeat (first | refine Ex.go rfl rfl ?_ | refine Ex.gf rfl rfl (by assumption) (by rfl) (by first | rfl | assumption) ?_))
  first | (refine Ex.brz (fun c3 => ?_) (fun c3 => ?_); rotate_left) | (refine Ex.brn (fun c3 => ?_) (fun c3 => ?_); rotate_left)
  · rw [if_pos (fun q => c3 (ic3.mpr ((hdk _).mp (q.2))))] at hr
    have k := k0 (by rw [hr]; decide)
    rw [hr] at k
    (repeat (first | refine Ex.go rfl rfl ?_ | refine Ex.gf rfl rfl (by assumption) (by rfl) (by first | rfl | assumption) ?_))
    refine Ex.ret rfl rfl rfl ?_
    exact k
  have c3 := (hdk _).mpr (ic3.mp c3)
  rw [if_neg (fun z => z ⟨i4.mp c4, c3⟩)] at hr
  have hfl : ((acl lg E).map (fun q => nI (posn lg q))).length = (acl lg E).length := List.length_map ..
  (repeat (first | refine Ex.go rfl rfl ?_ | refine Ex.gf rfl rfl (by assumption) (by rfl) (by first | rfl | assumption) ?_))
  refine Ex.cv0 rfl rfl rfl C.1.1 (by rfl) (by decide) rfl ?_
  refine c_isFull C.1 (by rw [hfl]; exact hW.2.2.1) ?_
  rw [hfl]
  (repeat (first | refine Ex.go rfl rfl ?_ | refine Ex.gf rfl rfl (by assumption) (by rfl) (by first | rfl | assumption) ?_))
  refine Ex.brz (fun hf => ?_) (fun hf => ?_)
  · rw [if_pos hf] at hr
    have k := k0 (by rw [hr]; decide)
    rw [hr] at k
    (repeat (first | refine Ex.go rfl rfl ?_ | refine Ex.gf rfl rfl (by assumption) (by rfl) (by first | rfl | assumption) ?_))
    refine Ex.ret rfl rfl rfl ?_
    exact k
  rw [if_neg hf] at hr
  have hW2 := WF_N hW (show 7 < 12 by omega) hr
  have hil := WF_img hW2.2.2
  have eim : img (lgN lg E 7 (n6 v p n dy 0 0)) (E + 1) = img lg E ++ (nI 7 :: (List.range (numc 7)).map (n6 v p n dy 0 0)) := by
    show img (lgN lg E 7 (n6 v p n dy 0 0)) E ++ (cod (lgN lg E 7 (n6 v p n dy 0 0)) E :: (List.range (nums (cod (lgN lg E 7 (n6 v p n dy 0 0)) E))).map (num (lgN lg E 7 (n6 v p n dy 0 0)) E)) = _
    rw [lgE_img lgN_E E (Nat.le_refl E), lgN_cod]
    congr 2
    exact List.map_congr_left fun k hk => lgN_num (List.mem_range.mp hk)
  have enm : (List.range (numc 7)).map (n6 v p n dy 0 0) = [v, p, n, dy] := by rw [show numc 7 = 4 by decide]; rfl
  rw [eim, enm] at hil
  simp at hil
  have hpl : (acl lg E).length < 2000 := by have := hW.2.2.1; omega
  have k := k1 hr
  (repeat (first | refine Ex.go rfl rfl ?_ | refine Ex.gf rfl rfl (by assumption) (by rfl) (by first | rfl | assumption) ?_))
  refine Ex.cv1 rfl rfl rfl C.1.1 (by rfl) (by decide) rfl ?_
  refine c_begin C.1 (by omega) (by rw [hfl]; exact hpl) (by rw [List.length_map]; exact hpl) (fun G1 R1 F1 => ?_)
  (repeat (first | refine Ex.go rfl rfl ?_ | refine Ex.gf rfl rfl (by assumption) (by rfl) (by first | rfl | assumption) ?_))
  refine Ex.rwadd R1 (by simp; omega) rfl rfl rfl (fun G2 R2 F2 => ?_)
  have F2 := F1.trans F2
  (repeat (first | refine Ex.go rfl rfl ?_ | refine Ex.gf rfl rfl (by assumption) (by rfl) (by first | rfl | assumption) ?_))
  refine Ex.rwadd R2 (by simp; omega) rfl rfl rfl (fun G3 R3 F3 => ?_)
  have F3 := F2.trans F3
  (repeat (first | refine Ex.go rfl rfl ?_ | refine Ex.gf rfl rfl (by assumption) (by rfl) (by first | rfl | assumption) ?_))
  refine Ex.rwadd R3 (by simp; omega) rfl rfl rfl (fun G4 R4 F4 => ?_)
  have F4 := F3.trans F4
  (repeat (first | refine Ex.go rfl rfl ?_ | refine Ex.gf rfl rfl (by assumption) (by rfl) (by first | rfl | assumption) ?_))
  refine Ex.rwadd R4 (by simp; omega) rfl rfl rfl (fun G5 R5 F5 => ?_)
  have F5 := F4.trans F5
  have h0 := R5.1
  have RR : RW G5 a (nI (vsl lg E).length, nI (rsl lg E).length, nI (osl lg E).length, tdy lg E, ke) (img lg E ++ (nI 7 :: (List.range (numc 7)).map (n6 v p n dy 0 0))) ((acl lg E).map (fun q => nI (posn lg q)) ++ [nI (img lg E).length]) ((acl lg E).map (ent lg) ++ [tdy lg E]) (fun j => us[j]?) := by
    rw [enm, show img lg E ++ nI 7 :: [v, p, n, dy] = img lg E ++ [nI 7] ++ [v] ++ [p] ++ [n] ++ [dy] by simp]
    exact R5
  (repeat (first | refine Ex.go rfl rfl ?_ | refine Ex.gf rfl rfl (by assumption) (by rfl) (by first | rfl | assumption) ?_))
  refine Ex.cv0 rfl rfl rfl h0 (by rfl) (by decide) rfl ?_
  refine c_lastAct R5 (by rw [List.length_append]; simp) ?_
  rw [show nI (((acl lg E).map (fun q => nI (posn lg q)) ++ [nI (img lg E).length]).length - 1) = nI ((acl lg E).map (fun q => nI (posn lg q)) ++ [nI (img lg E).length]).length - 1 from (pk_sub (b := 1) (by rw [List.length_append]; simp)).symm]
  (repeat (first | refine Ex.go rfl rfl ?_ | refine Ex.gf rfl rfl (by assumption) (by rfl) (by first | rfl | assumption) ?_))
  refine Ex.cv2 rfl rfl rfl h0 (by rfl) (by decide) rfl ?_
  refine c_entered (c := 7) (nn := n6 v p n dy 0 0) ha C hW (by omega) (by omega) hr hm RR F5 (fun G9 us' C9 F9 => ?_)
  have k := k G9 us' C9 F9
  (repeat (first | refine Ex.go rfl rfl ?_ | refine Ex.gf rfl rfl (by assumption) (by rfl) (by first | rfl | assumption) ?_))
  refine Ex.ret rfl rfl rfl ?_
  exact k
theorem c_enterShape {v p sp we my : Int32} (ha : a = 2 ∨ a = 7) (C : CR G a us lg E ke) (hW : WF lg E) (hm : G.length = 378 + 6 * m) (k0 : rfs lg E 3 (n6 v p sp we my 0) < 0 → Q (some (.int (rfs lg E 3 (n6 v p sp we my 0)))) G) (k1 : rfs lg E 3 (n6 v p sp we my 0) = 0 → ∀ G' us', CR G' a us' (lgN lg E 3 (n6 v p sp we my 0)) (E + 1) ke → FC a us G us' G' → Q (some (.int (ansI lg E 3 (n6 v p sp we my 0)))) G') : Cx (d + 6) mX3_enterShape [.ref a, .int v, .int p, .int sp, .int we, .int my] G Q := by
  have hr : rfs lg E 3 (n6 v p sp we my 0) = if ¬ (0 ≤ v.toInt ∧ v.toInt < (vsl lg E).length) then -1 else if ¬ (0 ≤ p.toInt ∧ p.toInt < (psl lg E v.toNatClampNeg).length) then -1 else if ¬ (rng sp 1 12 ∧ rng we 0 1000 ∧ rng my 1 (if num lg (pat lg E v.toNatClampNeg p.toNatClampNeg) 1 = 2 then 500 else 1)) then -2 else if exi (shdP lg (nI v.toNatClampNeg) (nI p.toNatClampNeg)) E = true then -3 else if (acl lg E).length = 2000 then -4 else 0 := rfl
  have hh0 := C.1.1
  refine Cx.body rfl rfl ?_
  (repeat (first | refine Ex.go rfl rfl ?_ | refine Ex.gf rfl rfl (by assumption) (by rfl) (by first | rfl | assumption) ?_))
  refine Ex.cv1 rfl rfl rfl C.1.1 (by rfl) (by decide) rfl ?_
  refine c_vesselAt C hW.2.1 (fun hno => ?_) (fun v' u ev evn hv hu => ?_)
  · rw [if_pos hno] at hr
    have k := k0 (by rw [hr]; decide)
    rw [hr] at k
    (repeat (first | refine Ex.go rfl rfl ?_ | refine Ex.gf rfl rfl (by assumption) (by rfl) (by first | rfl | assumption) ?_))
    refine Ex.ret rfl rfl rfl ?_
    exact k
  have hvl := sel_len E fun i => cod lg i == 1
  have hE6 : E ≤ 6000 := by have := acl_osl (lg := lg) (E := E); have := hW.2.2.1; have := hW.2.2.2; omega
  have hv31 : v' < 2 ^ 31 := by unfold vsl at hv; omega
  have hvi : 0 ≤ v.toInt ∧ v.toInt < (vsl lg E).length := by rw [ev, nI_toInt hv31]; omega
  rw [if_neg (fun z => z hvi), evn] at hr
  obtain ⟨x, K, V, L, nv⟩ := C.2.2.2.2.2 v' u hu
  obtain ⟨rfl, n1, n2, n3, n4, n5⟩ := nv hv
  have hV0 := V.1
  have hwv := wf_v hW.1 hv
  have hdk : ∀ x, dok lg E v' x ↔ ((num lg (vat lg E v') 3).toInt ≤ x.toInt ∧ x.toInt ≤ (tdy lg E).toInt) := fun x => by unfold dok rng; rw [hwv.2.2.2.2.2]
  obtain ⟨mu, emu⟩ := C.2.2.2.2.1 u (List.mem_of_getElem? hu)
  have eK : K.1.length = (psl lg E v').length := by rw [n1, List.length_map]
  have hp24 := psl_le hW.1 hE6 hv31
  (repeat (first | refine Ex.go rfl rfl ?_ | refine Ex.gf rfl rfl (by assumption) (by rfl) (by first | rfl | assumption) ?_))
  refine Ex.cv1 rfl rfl rfl hV0 (by rfl) (by decide) rfl ?_
  refine c_hasPart V L ?_
  rw [eK]
  (repeat (first | refine Ex.go rfl rfl ?_ | refine Ex.gf rfl rfl (by assumption) (by rfl) (by first | rfl | assumption) ?_))
  first | (refine Ex.brz (fun hpp => ?_) (fun hpp => ?_); rotate_left) | (refine Ex.brn (fun hpp => ?_) (fun hpp => ?_); rotate_left)
  · rw [if_pos hpp] at hr
    have k := k0 (by rw [hr]; decide)
    rw [hr] at k
    (repeat (first | refine Ex.go rfl rfl ?_ | refine Ex.gf rfl rfl (by assumption) (by rfl) (by first | rfl | assumption) ?_))
    refine Ex.ret rfl rfl rfl ?_
    exact k
  rw [if_neg (fun z => z hpp)] at hr
  obtain ⟨ep1, ep2, ep3⟩ := nI_iof hpp.1
  have hpl' : p.toNatClampNeg < (psl lg E v').length := by omega
  have eki : bo_at K.1 p = num lg (pat lg E v' p.toNatClampNeg) 1 := by
    have h1 := lst_at (xs := K.1) (p := p.toNatClampNeg) (v := num lg (pat lg E v' p.toNatClampNeg) 1) (by rw [eK]; exact hpl') ep3 (by rw [n1, List.getElem?_map, pat_get hpl']; rfl)
    rw [← ep1] at h1
    exact h1
  obtain ⟨ck, hk1⟩ := V.2.1
  have rest : ∀ B : Int32, B.toInt = (if num lg (pat lg E v' p.toNatClampNeg) 1 = 2 then 500 else 1) → Ex (d + 6) mX3_enterShape (43, [(0, .ref a), (1, .int v), (2, .int p), (3, .int sp), (4, .int we), (5, .int my), (6, .ref u)], [.int B], G) Q := by
    intro B hB
    (repeat (first | refine Ex.go rfl rfl ?_ | refine Ex.gf rfl rfl (by assumption) (by rfl) (by first | rfl | assumption) ?_))
    refine Ex.cs3 rfl rfl rfl rfl rfl rfl ?_
    refine c_withinP (lo := 1) (hi := 12) (by decide +kernel) (by decide +kernel) (fun Pc1 dc1 ic1 => ?_)
    (repeat (first | refine Ex.go rfl rfl ?_ | refine Ex.gf rfl rfl (by assumption) (by rfl) (by first | rfl | assumption) ?_))
    first | (refine Ex.brz (fun c1 => ?_) (fun c1 => ?_); rotate_left) | (refine Ex.brn (fun c1 => ?_) (fun c1 => ?_); rotate_left)
    · rw [if_pos (fun q => c1 (ic1.mpr (q.1)))] at hr
      have k := k0 (by rw [hr]; decide)
      rw [hr] at k
      (repeat (first | refine Ex.go rfl rfl ?_ | refine Ex.gf rfl rfl (by assumption) (by rfl) (by first | rfl | assumption) ?_))
      refine Ex.ret rfl rfl rfl ?_
      exact k
    have c1 := ic1.mp c1
    (repeat (first | refine Ex.go rfl rfl ?_ | refine Ex.gf rfl rfl (by assumption) (by rfl) (by first | rfl | assumption) ?_))
    refine Ex.cs3 rfl rfl rfl rfl rfl rfl ?_
    refine c_withinP (lo := 0) (hi := 1000) (by decide +kernel) (by decide +kernel) (fun Pc2 dc2 ic2 => ?_)
    (repeat (first | refine Ex.go rfl rfl ?_ | refine Ex.gf rfl rfl (by assumption) (by rfl) (by first | rfl | assumption) ?_))
    first | (refine Ex.brz (fun c2 => ?_) (fun c2 => ?_); rotate_left) | (refine Ex.brn (fun c2 => ?_) (fun c2 => ?_); rotate_left)
    · rw [if_pos (fun q => c2 (ic2.mpr (q.2.1)))] at hr
      have k := k0 (by rw [hr]; decide)
      rw [hr] at k
      (repeat (first | refine Ex.go rfl rfl ?_ | refine Ex.gf rfl rfl (by assumption) (by rfl) (by first | rfl | assumption) ?_))
      refine Ex.ret rfl rfl rfl ?_
      exact k
    have c2 := ic2.mp c2
    (repeat (first | refine Ex.go rfl rfl ?_ | refine Ex.gf rfl rfl (by assumption) (by rfl) (by first | rfl | assumption) ?_))
    refine Ex.cs3 rfl rfl rfl rfl rfl rfl ?_
    refine c_withinP (lo := 1) (by decide +kernel) hB (fun P4 d4 i4 => ?_)
    (repeat (first | refine Ex.go rfl rfl ?_ | refine Ex.gf rfl rfl (by assumption) (by rfl) (by first | rfl | assumption) ?_))
    first | (refine Ex.brz (fun c4 => ?_) (fun c4 => ?_); rotate_left) | (refine Ex.brn (fun c4 => ?_) (fun c4 => ?_); rotate_left)
    · rw [if_pos (fun q => c4 (i4.mpr q.2.2))] at hr
      have k := k0 (by rw [hr]; decide)
      rw [hr] at k
      (repeat (first | refine Ex.go rfl rfl ?_ | refine Ex.gf rfl rfl (by assumption) (by rfl) (by first | rfl | assumption) ?_))
      refine Ex.ret rfl rfl rfl ?_
      exact k
    rw [if_neg (fun z => z ⟨c1, c2, i4.mp c4⟩)] at hr
    obtain ⟨ct, hk4⟩ := V.2.2.2.2.1
    obtain ⟨tl, ht⟩ := n4
    obtain ⟨t, t1, t2, t3, t4⟩ := ht p.toNatClampNeg (by omega)
    have eto : bo_at K.2.2.2.1 p = t := by
      have h1 := lst_at (xs := K.2.2.2.1) (p := p.toNatClampNeg) (v := t) (by omega) ep3 t1
      rw [← ep1] at h1
      exact h1
    (repeat (first | refine Ex.go rfl rfl ?_ | refine Ex.gf rfl rfl (by assumption) (by rfl) (by first | rfl | assumption) ?_))
    refine Ex.cv1 rfl rfl rfl hk4 (by rfl) (by decide) rfl ?_
    refine Cx.ratE hk4 eto ?_
    (repeat (first | refine Ex.go rfl rfl ?_ | refine Ex.gf rfl rfl (by assumption) (by rfl) (by first | rfl | assumption) ?_))
    refine Ex.br (fun c5 => ?_) (fun c5 => ?_); rotate_left
    · have c6 : 0 < t.toInt := Int32.lt_iff_toInt_lt.mp (Int32.not_le.mp c5)
      rw [if_pos (t4.mp c6)] at hr
      have k := k0 (by rw [hr]; decide)
      rw [hr] at k
      (repeat (first | refine Ex.go rfl rfl ?_ | refine Ex.gf rfl rfl (by assumption) (by rfl) (by first | rfl | assumption) ?_))
      refine Ex.ret rfl rfl rfl ?_
      exact k
    have c6 : ¬ exi (shdP lg (nI v') (nI p.toNatClampNeg)) E = true := fun z => by
      have h1 := Int32.le_iff_toInt_le.mp c5
      have h2 := t4.mpr z
      rw [show (0 : Int32).toInt = 0 from rfl] at h1
      omega
    rw [if_neg c6] at hr
    have hfl : ((acl lg E).map (fun q => nI (posn lg q))).length = (acl lg E).length := List.length_map ..
    (repeat (first | refine Ex.go rfl rfl ?_ | refine Ex.gf rfl rfl (by assumption) (by rfl) (by first | rfl | assumption) ?_))
    refine Ex.cv0 rfl rfl rfl C.1.1 (by rfl) (by decide) rfl ?_
    refine c_isFull C.1 (by rw [hfl]; exact hW.2.2.1) ?_
    rw [hfl]
    (repeat (first | refine Ex.go rfl rfl ?_ | refine Ex.gf rfl rfl (by assumption) (by rfl) (by first | rfl | assumption) ?_))
    refine Ex.brz (fun hf => ?_) (fun hf => ?_)
    · rw [if_pos hf] at hr
      have k := k0 (by rw [hr]; decide)
      rw [hr] at k
      (repeat (first | refine Ex.go rfl rfl ?_ | refine Ex.gf rfl rfl (by assumption) (by rfl) (by first | rfl | assumption) ?_))
      refine Ex.ret rfl rfl rfl ?_
      exact k
    rw [if_neg hf] at hr
    have hW2 := WF_N hW (show 3 < 12 by omega) hr
    have hil := WF_img hW2.2.2
    have eim : img (lgN lg E 3 (n6 v p sp we my 0)) (E + 1) = img lg E ++ (nI 3 :: (List.range (numc 3)).map (n6 v p sp we my 0)) := by
      show img (lgN lg E 3 (n6 v p sp we my 0)) E ++ (cod (lgN lg E 3 (n6 v p sp we my 0)) E :: (List.range (nums (cod (lgN lg E 3 (n6 v p sp we my 0)) E))).map (num (lgN lg E 3 (n6 v p sp we my 0)) E)) = _
      rw [lgE_img lgN_E E (Nat.le_refl E), lgN_cod]
      congr 2
      exact List.map_congr_left fun k hk => lgN_num (List.mem_range.mp hk)
    have enm : (List.range (numc 3)).map (n6 v p sp we my 0) = [v, p, sp, we, my] := by rw [show numc 3 = 5 by decide]; rfl
    rw [eim, enm] at hil
    simp at hil
    have hpl : (acl lg E).length < 2000 := by have := hW.2.2.1; omega
    have k := k1 hr
    (repeat (first | refine Ex.go rfl rfl ?_ | refine Ex.gf rfl rfl (by assumption) (by rfl) (by first | rfl | assumption) ?_))
    refine Ex.cv1 rfl rfl rfl C.1.1 (by rfl) (by decide) rfl ?_
    refine c_begin C.1 (by omega) (by rw [hfl]; exact hpl) (by rw [List.length_map]; exact hpl) (fun G1 R1 F1 => ?_)
    (repeat (first | refine Ex.go rfl rfl ?_ | refine Ex.gf rfl rfl (by assumption) (by rfl) (by first | rfl | assumption) ?_))
    refine Ex.rwadd R1 (by simp; omega) rfl rfl rfl (fun G2 R2 F2 => ?_)
    have F2 := F1.trans F2
    (repeat (first | refine Ex.go rfl rfl ?_ | refine Ex.gf rfl rfl (by assumption) (by rfl) (by first | rfl | assumption) ?_))
    refine Ex.rwadd R2 (by simp; omega) rfl rfl rfl (fun G3 R3 F3 => ?_)
    have F3 := F2.trans F3
    (repeat (first | refine Ex.go rfl rfl ?_ | refine Ex.gf rfl rfl (by assumption) (by rfl) (by first | rfl | assumption) ?_))
    refine Ex.rwadd R3 (by simp; omega) rfl rfl rfl (fun G4 R4 F4 => ?_)
    have F4 := F3.trans F4
    (repeat (first | refine Ex.go rfl rfl ?_ | refine Ex.gf rfl rfl (by assumption) (by rfl) (by first | rfl | assumption) ?_))
    refine Ex.rwadd R4 (by simp; omega) rfl rfl rfl (fun G5 R5 F5 => ?_)
    have F5 := F4.trans F5
    (repeat (first | refine Ex.go rfl rfl ?_ | refine Ex.gf rfl rfl (by assumption) (by rfl) (by first | rfl | assumption) ?_))
    refine Ex.rwadd R5 (by simp; omega) rfl rfl rfl (fun G6 R6 F6 => ?_)
    have F6 := F5.trans F6
    have h0 := R6.1
    have RR : RW G6 a (nI (vsl lg E).length, nI (rsl lg E).length, nI (osl lg E).length, tdy lg E, ke) (img lg E ++ (nI 3 :: (List.range (numc 3)).map (n6 v p sp we my 0))) ((acl lg E).map (fun q => nI (posn lg q)) ++ [nI (img lg E).length]) ((acl lg E).map (ent lg) ++ [tdy lg E]) (fun j => us[j]?) := by
      rw [enm, show img lg E ++ nI 3 :: [v, p, sp, we, my] = img lg E ++ [nI 3] ++ [v] ++ [p] ++ [sp] ++ [we] ++ [my] by simp]
      exact R6
    (repeat (first | refine Ex.go rfl rfl ?_ | refine Ex.gf rfl rfl (by assumption) (by rfl) (by first | rfl | assumption) ?_))
    refine Ex.cv0 rfl rfl rfl h0 (by rfl) (by decide) rfl ?_
    refine c_lastAct R6 (by rw [List.length_append]; simp) ?_
    rw [show nI (((acl lg E).map (fun q => nI (posn lg q)) ++ [nI (img lg E).length]).length - 1) = nI ((acl lg E).map (fun q => nI (posn lg q)) ++ [nI (img lg E).length]).length - 1 from (pk_sub (b := 1) (by rw [List.length_append]; simp)).symm]
    (repeat (first | refine Ex.go rfl rfl ?_ | refine Ex.gf rfl rfl (by assumption) (by rfl) (by first | rfl | assumption) ?_))
    refine Ex.cv2 rfl rfl rfl h0 (by rfl) (by decide) rfl ?_
    refine c_entered (c := 3) (nn := n6 v p sp we my 0) ha C hW (by omega) (by omega) hr hm RR F6 (fun G9 us' C9 F9 => ?_)
    have k := k G9 us' C9 F9
    (repeat (first | refine Ex.go rfl rfl ?_ | refine Ex.gf rfl rfl (by assumption) (by rfl) (by first | rfl | assumption) ?_))
    refine Ex.ret rfl rfl rfl ?_
    exact k
  (repeat (first | refine Ex.go rfl rfl ?_ | refine Ex.gf rfl rfl (by assumption) (by rfl) (by first | rfl | assumption) ?_))
  refine Ex.cv1 rfl rfl rfl hk1 (by rfl) (by decide) rfl ?_
  refine Cx.ratE hk1 eki ?_
  (repeat (first | refine Ex.go rfl rfl ?_ | refine Ex.gf rfl rfl (by assumption) (by rfl) (by first | rfl | assumption) ?_))
  refine Ex.br (fun ck2 => ?_) (fun ck2 => ?_)
  · (repeat (first | exact rest 1 (by rw [if_neg (show ¬ num lg (pat lg E v' p.toNatClampNeg) 1 = 2 from ck2)]; rfl) | refine Ex.go rfl rfl ?_ | refine Ex.gf rfl rfl (by assumption) (by rfl) (by first | rfl | assumption) ?_))
  · (repeat (first | exact rest 500 (by rw [if_pos (show num lg (pat lg E v' p.toNatClampNeg) 1 = 2 from Decidable.not_not.mp ck2)]; decide +kernel) | refine Ex.go rfl rfl ?_ | refine Ex.gf rfl rfl (by assumption) (by rfl) (by first | rfl | assumption) ?_))
theorem c_enterValve {v sg ps dy : Int32} (ha : a = 2 ∨ a = 7) (C : CR G a us lg E ke) (hW : WF lg E) (hm : G.length = 378 + 6 * m) (k0 : rfs lg E 8 (n6 v sg ps dy 0 0) < 0 → Q (some (.int (rfs lg E 8 (n6 v sg ps dy 0 0)))) G) (k1 : rfs lg E 8 (n6 v sg ps dy 0 0) = 0 → ∀ G' us', CR G' a us' (lgN lg E 8 (n6 v sg ps dy 0 0)) (E + 1) ke → FC a us G us' G' → Q (some (.int (ansI lg E 8 (n6 v sg ps dy 0 0)))) G') : Cx (d + 6) mX3_enterValve [.ref a, .int v, .int sg, .int ps, .int dy] G Q := by
  have hr : rfs lg E 8 (n6 v sg ps dy 0 0) = if ¬ (0 ≤ v.toInt ∧ v.toInt < (vsl lg E).length) then -1 else if ¬ (rng sg 1 10000 ∧ rng ps 1 100000 ∧ dok lg E v.toNatClampNeg dy) then -2 else if (wsl lg E v.toNatClampNeg).length = 6 then -4 else if (acl lg E).length = 2000 then -4 else 0 := rfl
  have hh0 := C.1.1
  refine Cx.body rfl rfl ?_
  (repeat (first | refine Ex.go rfl rfl ?_ | refine Ex.gf rfl rfl (by assumption) (by rfl) (by first | rfl | assumption) ?_))
  refine Ex.cv1 rfl rfl rfl C.1.1 (by rfl) (by decide) rfl ?_
  refine c_vesselAt C hW.2.1 (fun hno => ?_) (fun v' u ev evn hv hu => ?_)
  · rw [if_pos hno] at hr
    have k := k0 (by rw [hr]; decide)
    rw [hr] at k
    (repeat (first | refine Ex.go rfl rfl ?_ | refine Ex.gf rfl rfl (by assumption) (by rfl) (by first | rfl | assumption) ?_))
    refine Ex.ret rfl rfl rfl ?_
    exact k
  have hvl := sel_len E fun i => cod lg i == 1
  have hE6 : E ≤ 6000 := by have := acl_osl (lg := lg) (E := E); have := hW.2.2.1; have := hW.2.2.2; omega
  have hv31 : v' < 2 ^ 31 := by unfold vsl at hv; omega
  have hvi : 0 ≤ v.toInt ∧ v.toInt < (vsl lg E).length := by rw [ev, nI_toInt hv31]; omega
  rw [if_neg (fun z => z hvi), evn] at hr
  obtain ⟨x, K, V, L, nv⟩ := C.2.2.2.2.2 v' u hu
  obtain ⟨rfl, n1, n2, n3, n4, n5⟩ := nv hv
  have hV0 := V.1
  have hwv := wf_v hW.1 hv
  have hdk : ∀ x, dok lg E v' x ↔ ((num lg (vat lg E v') 3).toInt ≤ x.toInt ∧ x.toInt ≤ (tdy lg E).toInt) := fun x => by unfold dok rng; rw [hwv.2.2.2.2.2]
  obtain ⟨mu, emu⟩ := C.2.2.2.2.1 u (List.mem_of_getElem? hu)
  have eK : K.2.2.2.2.length = (wsl lg E v').length := by rw [n5, List.length_map]
  have hp24 := wsl_le hW.1 hE6 hv31
  (repeat (first | refine Ex.go rfl rfl ?_ | refine Ex.gf rfl rfl (by assumption) (by rfl) (by first | rfl | assumption) ?_))
  refine Ex.cs3 rfl rfl rfl rfl rfl rfl ?_
  refine c_withinP (lo := 1) (hi := 10000) (by decide +kernel) (by decide +kernel) (fun Pc1 dc1 ic1 => ?_)
  (repeat (first | refine Ex.go rfl rfl ?_ | refine Ex.gf rfl rfl (by assumption) (by rfl) (by first | rfl | assumption) ?_))
  first | (refine Ex.brz (fun c1 => ?_) (fun c1 => ?_); rotate_left) | (refine Ex.brn (fun c1 => ?_) (fun c1 => ?_); rotate_left)
  · rw [if_pos (fun q => c1 (ic1.mpr (q.1)))] at hr
    have k := k0 (by rw [hr]; decide)
    rw [hr] at k
    (repeat (first | refine Ex.go rfl rfl ?_ | refine Ex.gf rfl rfl (by assumption) (by rfl) (by first | rfl | assumption) ?_))
    refine Ex.ret rfl rfl rfl ?_
    exact k
  have c1 := ic1.mp c1
  (repeat (first | refine Ex.go rfl rfl ?_ | refine Ex.gf rfl rfl (by assumption) (by rfl) (by first | rfl | assumption) ?_))
  refine Ex.cs3 rfl rfl rfl rfl rfl rfl ?_
  refine c_withinP (lo := 1) (hi := 100000) (by decide +kernel) (by decide +kernel) (fun Pc2 dc2 ic2 => ?_)
  (repeat (first | refine Ex.go rfl rfl ?_ | refine Ex.gf rfl rfl (by assumption) (by rfl) (by first | rfl | assumption) ?_))
  first | (refine Ex.brz (fun c2 => ?_) (fun c2 => ?_); rotate_left) | (refine Ex.brn (fun c2 => ?_) (fun c2 => ?_); rotate_left)
  · rw [if_pos (fun q => c2 (ic2.mpr (q.2.1)))] at hr
    have k := k0 (by rw [hr]; decide)
    rw [hr] at k
    (repeat (first | refine Ex.go rfl rfl ?_ | refine Ex.gf rfl rfl (by assumption) (by rfl) (by first | rfl | assumption) ?_))
    refine Ex.ret rfl rfl rfl ?_
    exact k
  have c2 := ic2.mp c2
  (repeat (first | refine Ex.go rfl rfl ?_ | refine Ex.gf rfl rfl (by assumption) (by rfl) (by first | rfl | assumption) ?_))
  refine Ex.cs3 rfl rfl rfl rfl rfl rfl ?_
  refine c_withinP (lo := (num lg (vat lg E v') 3).toInt) (hi := (tdy lg E).toInt) rfl rfl (fun Pc3 dc3 ic3 => ?_)
  (repeat (first | refine Ex.go rfl rfl ?_ | refine Ex.gf rfl rfl (by assumption) (by rfl) (by first | rfl | assumption) ?_))
  first | (refine Ex.brz (fun c3 => ?_) (fun c3 => ?_); rotate_left) | (refine Ex.brn (fun c3 => ?_) (fun c3 => ?_); rotate_left)
  · rw [if_pos (fun q => c3 (ic3.mpr ((hdk _).mp (q.2.2))))] at hr
    have k := k0 (by rw [hr]; decide)
    rw [hr] at k
    (repeat (first | refine Ex.go rfl rfl ?_ | refine Ex.gf rfl rfl (by assumption) (by rfl) (by first | rfl | assumption) ?_))
    refine Ex.ret rfl rfl rfl ?_
    exact k
  have c3 := (hdk _).mpr (ic3.mp c3)
  rw [if_neg (fun z => z ⟨c1, c2, c3⟩)] at hr
  obtain ⟨ck, hk1⟩ := V.2.2.2.2.2
  (repeat (first | refine Ex.go rfl rfl ?_ | refine Ex.gf rfl rfl (by assumption) (by rfl) (by first | rfl | assumption) ?_))
  refine Ex.cv0 rfl rfl rfl hk1 (by rfl) (by decide) rfl ?_
  refine s_size hk1 ?_
  rw [eK]
  (repeat (first | refine Ex.go rfl rfl ?_ | refine Ex.gf rfl rfl (by assumption) (by rfl) (by first | rfl | assumption) ?_))
  refine Ex.br (fun c5 => ?_) (fun c5 => ?_)
  · have c6 : nI 6 ≤ nI (wsl lg E v').length := c5
    rw [nI_leI (by omega) (by omega)] at c6
    rw [if_pos (by omega)] at hr
    have k := k0 (by rw [hr]; decide)
    rw [hr] at k
    (repeat (first | refine Ex.go rfl rfl ?_ | refine Ex.gf rfl rfl (by assumption) (by rfl) (by first | rfl | assumption) ?_))
    refine Ex.ret rfl rfl rfl ?_
    exact k
  have c6 : ¬ (wsl lg E v').length = 6 := fun z => c5 (show nI 6 ≤ nI (wsl lg E v').length by rw [z]; exact Int32.le_refl _)
  rw [if_neg c6] at hr
  have hfl : ((acl lg E).map (fun q => nI (posn lg q))).length = (acl lg E).length := List.length_map ..
  (repeat (first | refine Ex.go rfl rfl ?_ | refine Ex.gf rfl rfl (by assumption) (by rfl) (by first | rfl | assumption) ?_))
  refine Ex.cv0 rfl rfl rfl C.1.1 (by rfl) (by decide) rfl ?_
  refine c_isFull C.1 (by rw [hfl]; exact hW.2.2.1) ?_
  rw [hfl]
  (repeat (first | refine Ex.go rfl rfl ?_ | refine Ex.gf rfl rfl (by assumption) (by rfl) (by first | rfl | assumption) ?_))
  refine Ex.brz (fun hf => ?_) (fun hf => ?_)
  · rw [if_pos hf] at hr
    have k := k0 (by rw [hr]; decide)
    rw [hr] at k
    (repeat (first | refine Ex.go rfl rfl ?_ | refine Ex.gf rfl rfl (by assumption) (by rfl) (by first | rfl | assumption) ?_))
    refine Ex.ret rfl rfl rfl ?_
    exact k
  rw [if_neg hf] at hr
  have hW2 := WF_N hW (show 8 < 12 by omega) hr
  have hil := WF_img hW2.2.2
  have eim : img (lgN lg E 8 (n6 v sg ps dy 0 0)) (E + 1) = img lg E ++ (nI 8 :: (List.range (numc 8)).map (n6 v sg ps dy 0 0)) := by
    show img (lgN lg E 8 (n6 v sg ps dy 0 0)) E ++ (cod (lgN lg E 8 (n6 v sg ps dy 0 0)) E :: (List.range (nums (cod (lgN lg E 8 (n6 v sg ps dy 0 0)) E))).map (num (lgN lg E 8 (n6 v sg ps dy 0 0)) E)) = _
    rw [lgE_img lgN_E E (Nat.le_refl E), lgN_cod]
    congr 2
    exact List.map_congr_left fun k hk => lgN_num (List.mem_range.mp hk)
  have enm : (List.range (numc 8)).map (n6 v sg ps dy 0 0) = [v, sg, ps, dy] := by rw [show numc 8 = 4 by decide]; rfl
  rw [eim, enm] at hil
  simp at hil
  have hpl : (acl lg E).length < 2000 := by have := hW.2.2.1; omega
  have k := k1 hr
  (repeat (first | refine Ex.go rfl rfl ?_ | refine Ex.gf rfl rfl (by assumption) (by rfl) (by first | rfl | assumption) ?_))
  refine Ex.cv1 rfl rfl rfl C.1.1 (by rfl) (by decide) rfl ?_
  refine c_begin C.1 (by omega) (by rw [hfl]; exact hpl) (by rw [List.length_map]; exact hpl) (fun G1 R1 F1 => ?_)
  (repeat (first | refine Ex.go rfl rfl ?_ | refine Ex.gf rfl rfl (by assumption) (by rfl) (by first | rfl | assumption) ?_))
  refine Ex.rwadd R1 (by simp; omega) rfl rfl rfl (fun G2 R2 F2 => ?_)
  have F2 := F1.trans F2
  (repeat (first | refine Ex.go rfl rfl ?_ | refine Ex.gf rfl rfl (by assumption) (by rfl) (by first | rfl | assumption) ?_))
  refine Ex.rwadd R2 (by simp; omega) rfl rfl rfl (fun G3 R3 F3 => ?_)
  have F3 := F2.trans F3
  (repeat (first | refine Ex.go rfl rfl ?_ | refine Ex.gf rfl rfl (by assumption) (by rfl) (by first | rfl | assumption) ?_))
  refine Ex.rwadd R3 (by simp; omega) rfl rfl rfl (fun G4 R4 F4 => ?_)
  have F4 := F3.trans F4
  (repeat (first | refine Ex.go rfl rfl ?_ | refine Ex.gf rfl rfl (by assumption) (by rfl) (by first | rfl | assumption) ?_))
  refine Ex.rwadd R4 (by simp; omega) rfl rfl rfl (fun G5 R5 F5 => ?_)
  have F5 := F4.trans F5
  have h0 := R5.1
  have RR : RW G5 a (nI (vsl lg E).length, nI (rsl lg E).length, nI (osl lg E).length, tdy lg E, ke) (img lg E ++ (nI 8 :: (List.range (numc 8)).map (n6 v sg ps dy 0 0))) ((acl lg E).map (fun q => nI (posn lg q)) ++ [nI (img lg E).length]) ((acl lg E).map (ent lg) ++ [tdy lg E]) (fun j => us[j]?) := by
    rw [enm, show img lg E ++ nI 8 :: [v, sg, ps, dy] = img lg E ++ [nI 8] ++ [v] ++ [sg] ++ [ps] ++ [dy] by simp]
    exact R5
  (repeat (first | refine Ex.go rfl rfl ?_ | refine Ex.gf rfl rfl (by assumption) (by rfl) (by first | rfl | assumption) ?_))
  refine Ex.cv0 rfl rfl rfl h0 (by rfl) (by decide) rfl ?_
  refine c_lastAct R5 (by rw [List.length_append]; simp) ?_
  rw [show nI (((acl lg E).map (fun q => nI (posn lg q)) ++ [nI (img lg E).length]).length - 1) = nI ((acl lg E).map (fun q => nI (posn lg q)) ++ [nI (img lg E).length]).length - 1 from (pk_sub (b := 1) (by rw [List.length_append]; simp)).symm]
  have hV9 : G5[u]? = _ := (F5.2 u (by omega)).trans hV0
  have hk9 : G5[u + 5]? = some (cR 6 ck K.2.2.2.2) := (F5.2 _ (by omega)).trans hk1
  (repeat (first | refine Ex.go rfl rfl ?_ | refine Ex.gf rfl rfl (by assumption) (by rfl) (by first | rfl | assumption) ?_))
  refine Ex.cv0 rfl rfl rfl hk9 (by rfl) (by decide) rfl ?_
  refine s_size hk9 ?_
  rw [eK]
  (repeat (first | refine Ex.go rfl rfl ?_ | refine Ex.gf rfl rfl (by assumption) (by rfl) (by first | rfl | assumption) ?_))
  refine Ex.cv2 rfl rfl rfl h0 (by rfl) (by decide) rfl ?_
  refine c_entered (c := 8) (nn := n6 v sg ps dy 0 0) ha C hW (by omega) (by omega) hr hm RR F5 (fun G9 us' C9 F9 => ?_)
  have k := k G9 us' C9 F9
  have ean : ansI lg E 8 (n6 v sg ps dy 0 0) = nI (wsl lg E v').length := by simp only [ansI]; show nI (wsl lg E v.toNatClampNeg).length = _; rw [evn]
  rw [ean] at k
  (repeat (first | refine Ex.go rfl rfl ?_ | refine Ex.gf rfl rfl (by assumption) (by rfl) (by first | rfl | assumption) ?_))
  refine Ex.ret rfl rfl rfl ?_
  exact k
theorem c_enterSet {v wv sg dy : Int32} (ha : a = 2 ∨ a = 7) (C : CR G a us lg E ke) (hW : WF lg E) (hm : G.length = 378 + 6 * m) (k0 : rfs lg E 9 (n6 v wv sg dy 0 0) < 0 → Q (some (.int (rfs lg E 9 (n6 v wv sg dy 0 0)))) G) (k1 : rfs lg E 9 (n6 v wv sg dy 0 0) = 0 → ∀ G' us', CR G' a us' (lgN lg E 9 (n6 v wv sg dy 0 0)) (E + 1) ke → FC a us G us' G' → Q (some (.int (ansI lg E 9 (n6 v wv sg dy 0 0)))) G') : Cx (d + 6) mX3_enterSet [.ref a, .int v, .int wv, .int sg, .int dy] G Q := by
  have hr : rfs lg E 9 (n6 v wv sg dy 0 0) = if ¬ (0 ≤ v.toInt ∧ v.toInt < (vsl lg E).length) then -1 else if ¬ (0 ≤ wv.toInt ∧ wv.toInt < (wsl lg E v.toNatClampNeg).length) then -1 else if ¬ (rng sg 1 10000 ∧ dok lg E v.toNatClampNeg dy ∧ dyy lg (wat lg E v.toNatClampNeg wv.toNatClampNeg) ≤ dy) then -2 else if (acl lg E).length = 2000 then -4 else 0 := rfl
  have hh0 := C.1.1
  refine Cx.body rfl rfl ?_
  (repeat (first | refine Ex.go rfl rfl ?_ | refine Ex.gf rfl rfl (by assumption) (by rfl) (by first | rfl | assumption) ?_))
  refine Ex.cv1 rfl rfl rfl C.1.1 (by rfl) (by decide) rfl ?_
  refine c_vesselAt C hW.2.1 (fun hno => ?_) (fun v' u ev evn hv hu => ?_)
  · rw [if_pos hno] at hr
    have k := k0 (by rw [hr]; decide)
    rw [hr] at k
    (repeat (first | refine Ex.go rfl rfl ?_ | refine Ex.gf rfl rfl (by assumption) (by rfl) (by first | rfl | assumption) ?_))
    refine Ex.ret rfl rfl rfl ?_
    exact k
  have hvl := sel_len E fun i => cod lg i == 1
  have hE6 : E ≤ 6000 := by have := acl_osl (lg := lg) (E := E); have := hW.2.2.1; have := hW.2.2.2; omega
  have hv31 : v' < 2 ^ 31 := by unfold vsl at hv; omega
  have hvi : 0 ≤ v.toInt ∧ v.toInt < (vsl lg E).length := by rw [ev, nI_toInt hv31]; omega
  rw [if_neg (fun z => z hvi), evn] at hr
  obtain ⟨x, K, V, L, nv⟩ := C.2.2.2.2.2 v' u hu
  obtain ⟨rfl, n1, n2, n3, n4, n5⟩ := nv hv
  have hV0 := V.1
  have hwv := wf_v hW.1 hv
  have hdk : ∀ x, dok lg E v' x ↔ ((num lg (vat lg E v') 3).toInt ≤ x.toInt ∧ x.toInt ≤ (tdy lg E).toInt) := fun x => by unfold dok rng; rw [hwv.2.2.2.2.2]
  obtain ⟨mu, emu⟩ := C.2.2.2.2.1 u (List.mem_of_getElem? hu)
  have eK : K.2.2.2.2.length = (wsl lg E v').length := by rw [n5, List.length_map]
  (repeat (first | refine Ex.go rfl rfl ?_ | refine Ex.gf rfl rfl (by assumption) (by rfl) (by first | rfl | assumption) ?_))
  refine Ex.cv1 rfl rfl rfl hV0 (by rfl) (by decide) rfl ?_
  refine c_hasValve V L ?_
  rw [eK]
  (repeat (first | refine Ex.go rfl rfl ?_ | refine Ex.gf rfl rfl (by assumption) (by rfl) (by first | rfl | assumption) ?_))
  first | (refine Ex.brz (fun hpp => ?_) (fun hpp => ?_); rotate_left) | (refine Ex.brn (fun hpp => ?_) (fun hpp => ?_); rotate_left)
  · rw [if_pos hpp] at hr
    have k := k0 (by rw [hr]; decide)
    rw [hr] at k
    (repeat (first | refine Ex.go rfl rfl ?_ | refine Ex.gf rfl rfl (by assumption) (by rfl) (by first | rfl | assumption) ?_))
    refine Ex.ret rfl rfl rfl ?_
    exact k
  rw [if_neg (fun z => z hpp)] at hr
  obtain ⟨ep1, ep2, ep3⟩ := nI_iof hpp.1
  have hpl' : wv.toNatClampNeg < (wsl lg E v').length := by omega
  (repeat (first | refine Ex.go rfl rfl ?_ | refine Ex.gf rfl rfl (by assumption) (by rfl) (by first | rfl | assumption) ?_))
  refine Ex.cs3 rfl rfl rfl rfl rfl rfl ?_
  refine c_withinP (lo := 1) (hi := 10000) (by decide +kernel) (by decide +kernel) (fun Pc1 dc1 ic1 => ?_)
  (repeat (first | refine Ex.go rfl rfl ?_ | refine Ex.gf rfl rfl (by assumption) (by rfl) (by first | rfl | assumption) ?_))
  first | (refine Ex.brz (fun c1 => ?_) (fun c1 => ?_); rotate_left) | (refine Ex.brn (fun c1 => ?_) (fun c1 => ?_); rotate_left)
  · rw [if_pos (fun q => c1 (ic1.mpr (q.1)))] at hr
    have k := k0 (by rw [hr]; decide)
    rw [hr] at k
    (repeat (first | refine Ex.go rfl rfl ?_ | refine Ex.gf rfl rfl (by assumption) (by rfl) (by first | rfl | assumption) ?_))
    refine Ex.ret rfl rfl rfl ?_
    exact k
  have c1 := ic1.mp c1
  obtain ⟨ck, hk1⟩ := V.2.2.2.2.2
  have eda : bo_at K.2.2.2.2 wv = dyy lg (wat lg E v' wv.toNatClampNeg) := by
    have h1 := lst_at (xs := K.2.2.2.2) (p := wv.toNatClampNeg) (v := dyy lg (wat lg E v' wv.toNatClampNeg)) (by omega) ep3 (by rw [n5, List.getElem?_map, wat_get hpl']; rfl)
    rw [← ep1] at h1
    exact h1
  -- a valve's day is not ahead of the vessel's
  have hge : (num lg (vat lg E v') 3).toInt ≤ (dyy lg (wat lg E v' wv.toNatClampNeg)).toInt := by
    obtain ⟨w1, hw1, ew1, w2⟩ := wf_c8 (hW.1 _ (wat_lt hpl')) (wat_cod hpl').1
    have hl2 := sel_len (wat lg E v' wv.toNatClampNeg) fun i => cod lg i == 1
    have hwl := wat_lt hpl'
    have e : w1 = v' := (nI_eq (by unfold vsl at hw1; omega) hv31).mp (ew1.symm.trans (wat_cod hpl').2)
    rw [e] at hw1 w2
    have h1 := w2.2.2.2.1.1
    rw [← w2.2.2.2.2.1, ← (vat_pre (E := E) (Nat.le_of_lt hwl) hw1).1, hwv.2.2.2.2.2] at h1
    exact h1
  (repeat (first | refine Ex.go rfl rfl ?_ | refine Ex.gf rfl rfl (by assumption) (by rfl) (by first | rfl | assumption) ?_))
  refine Ex.cv1 rfl rfl rfl hk1 (by rfl) (by decide) rfl ?_
  refine Cx.ratE hk1 eda ?_
  (repeat (first | refine Ex.go rfl rfl ?_ | refine Ex.gf rfl rfl (by assumption) (by rfl) (by first | rfl | assumption) ?_))
  refine Ex.cs3 rfl rfl rfl rfl rfl rfl ?_
  refine c_withinP (lo := (dyy lg (wat lg E v' wv.toNatClampNeg)).toInt) (hi := (tdy lg E).toInt) rfl rfl (fun P4 d4 i4 => ?_)
  (repeat (first | refine Ex.go rfl rfl ?_ | refine Ex.gf rfl rfl (by assumption) (by rfl) (by first | rfl | assumption) ?_))
  first | (refine Ex.brz (fun c4 => ?_) (fun c4 => ?_); rotate_left) | (refine Ex.brn (fun c4 => ?_) (fun c4 => ?_); rotate_left)
  · rw [if_pos (fun q => c4 (i4.mpr ⟨Int32.le_iff_toInt_le.mp q.2.2, q.2.1.2⟩))] at hr
    have k := k0 (by rw [hr]; decide)
    rw [hr] at k
    (repeat (first | refine Ex.go rfl rfl ?_ | refine Ex.gf rfl rfl (by assumption) (by rfl) (by first | rfl | assumption) ?_))
    refine Ex.ret rfl rfl rfl ?_
    exact k
  have c4 := i4.mp c4
  rw [if_neg (fun z => z ⟨c1, (hdk _).mpr ⟨by omega, c4.2⟩, Int32.le_iff_toInt_le.mpr c4.1⟩)] at hr
  have hfl : ((acl lg E).map (fun q => nI (posn lg q))).length = (acl lg E).length := List.length_map ..
  (repeat (first | refine Ex.go rfl rfl ?_ | refine Ex.gf rfl rfl (by assumption) (by rfl) (by first | rfl | assumption) ?_))
  refine Ex.cv0 rfl rfl rfl C.1.1 (by rfl) (by decide) rfl ?_
  refine c_isFull C.1 (by rw [hfl]; exact hW.2.2.1) ?_
  rw [hfl]
  (repeat (first | refine Ex.go rfl rfl ?_ | refine Ex.gf rfl rfl (by assumption) (by rfl) (by first | rfl | assumption) ?_))
  refine Ex.brz (fun hf => ?_) (fun hf => ?_)
  · rw [if_pos hf] at hr
    have k := k0 (by rw [hr]; decide)
    rw [hr] at k
    (repeat (first | refine Ex.go rfl rfl ?_ | refine Ex.gf rfl rfl (by assumption) (by rfl) (by first | rfl | assumption) ?_))
    refine Ex.ret rfl rfl rfl ?_
    exact k
  rw [if_neg hf] at hr
  have hW2 := WF_N hW (show 9 < 12 by omega) hr
  have hil := WF_img hW2.2.2
  have eim : img (lgN lg E 9 (n6 v wv sg dy 0 0)) (E + 1) = img lg E ++ (nI 9 :: (List.range (numc 9)).map (n6 v wv sg dy 0 0)) := by
    show img (lgN lg E 9 (n6 v wv sg dy 0 0)) E ++ (cod (lgN lg E 9 (n6 v wv sg dy 0 0)) E :: (List.range (nums (cod (lgN lg E 9 (n6 v wv sg dy 0 0)) E))).map (num (lgN lg E 9 (n6 v wv sg dy 0 0)) E)) = _
    rw [lgE_img lgN_E E (Nat.le_refl E), lgN_cod]
    congr 2
    exact List.map_congr_left fun k hk => lgN_num (List.mem_range.mp hk)
  have enm : (List.range (numc 9)).map (n6 v wv sg dy 0 0) = [v, wv, sg, dy] := by rw [show numc 9 = 4 by decide]; rfl
  rw [eim, enm] at hil
  simp at hil
  have hpl : (acl lg E).length < 2000 := by have := hW.2.2.1; omega
  have k := k1 hr
  (repeat (first | refine Ex.go rfl rfl ?_ | refine Ex.gf rfl rfl (by assumption) (by rfl) (by first | rfl | assumption) ?_))
  refine Ex.cv1 rfl rfl rfl C.1.1 (by rfl) (by decide) rfl ?_
  refine c_begin C.1 (by omega) (by rw [hfl]; exact hpl) (by rw [List.length_map]; exact hpl) (fun G1 R1 F1 => ?_)
  (repeat (first | refine Ex.go rfl rfl ?_ | refine Ex.gf rfl rfl (by assumption) (by rfl) (by first | rfl | assumption) ?_))
  refine Ex.rwadd R1 (by simp; omega) rfl rfl rfl (fun G2 R2 F2 => ?_)
  have F2 := F1.trans F2
  (repeat (first | refine Ex.go rfl rfl ?_ | refine Ex.gf rfl rfl (by assumption) (by rfl) (by first | rfl | assumption) ?_))
  refine Ex.rwadd R2 (by simp; omega) rfl rfl rfl (fun G3 R3 F3 => ?_)
  have F3 := F2.trans F3
  (repeat (first | refine Ex.go rfl rfl ?_ | refine Ex.gf rfl rfl (by assumption) (by rfl) (by first | rfl | assumption) ?_))
  refine Ex.rwadd R3 (by simp; omega) rfl rfl rfl (fun G4 R4 F4 => ?_)
  have F4 := F3.trans F4
  (repeat (first | refine Ex.go rfl rfl ?_ | refine Ex.gf rfl rfl (by assumption) (by rfl) (by first | rfl | assumption) ?_))
  refine Ex.rwadd R4 (by simp; omega) rfl rfl rfl (fun G5 R5 F5 => ?_)
  have F5 := F4.trans F5
  have h0 := R5.1
  have RR : RW G5 a (nI (vsl lg E).length, nI (rsl lg E).length, nI (osl lg E).length, tdy lg E, ke) (img lg E ++ (nI 9 :: (List.range (numc 9)).map (n6 v wv sg dy 0 0))) ((acl lg E).map (fun q => nI (posn lg q)) ++ [nI (img lg E).length]) ((acl lg E).map (ent lg) ++ [tdy lg E]) (fun j => us[j]?) := by
    rw [enm, show img lg E ++ nI 9 :: [v, wv, sg, dy] = img lg E ++ [nI 9] ++ [v] ++ [wv] ++ [sg] ++ [dy] by simp]
    exact R5
  (repeat (first | refine Ex.go rfl rfl ?_ | refine Ex.gf rfl rfl (by assumption) (by rfl) (by first | rfl | assumption) ?_))
  refine Ex.cv0 rfl rfl rfl h0 (by rfl) (by decide) rfl ?_
  refine c_lastAct R5 (by rw [List.length_append]; simp) ?_
  rw [show nI (((acl lg E).map (fun q => nI (posn lg q)) ++ [nI (img lg E).length]).length - 1) = nI ((acl lg E).map (fun q => nI (posn lg q)) ++ [nI (img lg E).length]).length - 1 from (pk_sub (b := 1) (by rw [List.length_append]; simp)).symm]
  (repeat (first | refine Ex.go rfl rfl ?_ | refine Ex.gf rfl rfl (by assumption) (by rfl) (by first | rfl | assumption) ?_))
  refine Ex.cv2 rfl rfl rfl h0 (by rfl) (by decide) rfl ?_
  refine c_entered (c := 9) (nn := n6 v wv sg dy 0 0) ha C hW (by omega) (by omega) hr hm RR F5 (fun G9 us' C9 F9 => ?_)
  have k := k G9 us' C9 F9
  (repeat (first | refine Ex.go rfl rfl ?_ | refine Ex.gf rfl rfl (by assumption) (by rfl) (by first | rfl | assumption) ?_))
  refine Ex.ret rfl rfl rfl ?_
  exact k
theorem c_enterPaper {v kd who fd dy : Int32} (ha : a = 2 ∨ a = 7) (C : CR G a us lg E ke) (hW : WF lg E) (hm : G.length = 378 + 6 * m) (k0 : rfs lg E 10 (n6 v kd who fd dy 0) < 0 → Q (some (.int (rfs lg E 10 (n6 v kd who fd dy 0)))) G) (k1 : rfs lg E 10 (n6 v kd who fd dy 0) = 0 → ∀ G' us', CR G' a us' (lgN lg E 10 (n6 v kd who fd dy 0)) (E + 1) ke → FC a us G us' G' → Q (some (.int (ansI lg E 10 (n6 v kd who fd dy 0)))) G') : Cx (d + 6) mX3_enterPaper [.ref a, .int v, .int kd, .int who, .int fd, .int dy] G Q := by
  have hr : rfs lg E 10 (n6 v kd who fd dy 0) = if ¬ (0 ≤ v.toInt ∧ v.toInt < (vsl lg E).length) then -1 else if ¬ (rng kd 0 5 ∧ rng who 0 999 ∧ rng fd 0 9999 ∧ dok lg E v.toNatClampNeg dy) then -2 else if (acl lg E).length = 2000 then -4 else 0 := rfl
  have hh0 := C.1.1
  refine Cx.body rfl rfl ?_
  (repeat (first | refine Ex.go rfl rfl ?_ | refine Ex.gf rfl rfl (by assumption) (by rfl) (by first | rfl | assumption) ?_))
  refine Ex.cv1 rfl rfl rfl C.1.1 (by rfl) (by decide) rfl ?_
  refine c_vesselAt C hW.2.1 (fun hno => ?_) (fun v' u ev evn hv hu => ?_)
  · rw [if_pos hno] at hr
    have k := k0 (by rw [hr]; decide)
    rw [hr] at k
    (repeat (first | refine Ex.go rfl rfl ?_ | refine Ex.gf rfl rfl (by assumption) (by rfl) (by first | rfl | assumption) ?_))
    refine Ex.ret rfl rfl rfl ?_
    exact k
  have hvl := sel_len E fun i => cod lg i == 1
  have hE6 : E ≤ 6000 := by have := acl_osl (lg := lg) (E := E); have := hW.2.2.1; have := hW.2.2.2; omega
  have hv31 : v' < 2 ^ 31 := by unfold vsl at hv; omega
  have hvi : 0 ≤ v.toInt ∧ v.toInt < (vsl lg E).length := by rw [ev, nI_toInt hv31]; omega
  rw [if_neg (fun z => z hvi), evn] at hr
  obtain ⟨x, K, V, L, nv⟩ := C.2.2.2.2.2 v' u hu
  obtain ⟨rfl, n1, n2, n3, n4, n5⟩ := nv hv
  have hV0 := V.1
  have hwv := wf_v hW.1 hv
  have hdk : ∀ x, dok lg E v' x ↔ ((num lg (vat lg E v') 3).toInt ≤ x.toInt ∧ x.toInt ≤ (tdy lg E).toInt) := fun x => by unfold dok rng; rw [hwv.2.2.2.2.2]
  obtain ⟨mu, emu⟩ := C.2.2.2.2.1 u (List.mem_of_getElem? hu)
  (repeat (first | refine Ex.go rfl rfl ?_ | refine Ex.gf rfl rfl (by assumption) (by rfl) (by first | rfl | assumption) ?_))
  refine Ex.cs3 rfl rfl rfl rfl rfl rfl ?_
  refine c_withinP (lo := 0) (hi := 5) (by decide +kernel) (by decide +kernel) (fun Pc1 dc1 ic1 => ?_)
  (repeat (first | refine Ex.go rfl rfl ?_ | refine Ex.gf rfl rfl (by assumption) (by rfl) (by first | rfl | assumption) ?_))
  first | (refine Ex.brz (fun c1 => ?_) (fun c1 => ?_); rotate_left) | (refine Ex.brn (fun c1 => ?_) (fun c1 => ?_); rotate_left)
  · rw [if_pos (fun q => c1 (ic1.mpr (q.1)))] at hr
    have k := k0 (by rw [hr]; decide)
    rw [hr] at k
    (repeat (first | refine Ex.go rfl rfl ?_ | refine Ex.gf rfl rfl (by assumption) (by rfl) (by first | rfl | assumption) ?_))
    refine Ex.ret rfl rfl rfl ?_
    exact k
  have c1 := ic1.mp c1
  (repeat (first | refine Ex.go rfl rfl ?_ | refine Ex.gf rfl rfl (by assumption) (by rfl) (by first | rfl | assumption) ?_))
  refine Ex.cs3 rfl rfl rfl rfl rfl rfl ?_
  refine c_withinP (lo := 0) (hi := 999) (by decide +kernel) (by decide +kernel) (fun Pc2 dc2 ic2 => ?_)
  (repeat (first | refine Ex.go rfl rfl ?_ | refine Ex.gf rfl rfl (by assumption) (by rfl) (by first | rfl | assumption) ?_))
  first | (refine Ex.brz (fun c2 => ?_) (fun c2 => ?_); rotate_left) | (refine Ex.brn (fun c2 => ?_) (fun c2 => ?_); rotate_left)
  · rw [if_pos (fun q => c2 (ic2.mpr (q.2.1)))] at hr
    have k := k0 (by rw [hr]; decide)
    rw [hr] at k
    (repeat (first | refine Ex.go rfl rfl ?_ | refine Ex.gf rfl rfl (by assumption) (by rfl) (by first | rfl | assumption) ?_))
    refine Ex.ret rfl rfl rfl ?_
    exact k
  have c2 := ic2.mp c2
  (repeat (first | refine Ex.go rfl rfl ?_ | refine Ex.gf rfl rfl (by assumption) (by rfl) (by first | rfl | assumption) ?_))
  refine Ex.cs3 rfl rfl rfl rfl rfl rfl ?_
  refine c_withinP (lo := 0) (hi := 9999) (by decide +kernel) (by decide +kernel) (fun Pc4 dc4 ic4 => ?_)
  (repeat (first | refine Ex.go rfl rfl ?_ | refine Ex.gf rfl rfl (by assumption) (by rfl) (by first | rfl | assumption) ?_))
  first | (refine Ex.brz (fun c4 => ?_) (fun c4 => ?_); rotate_left) | (refine Ex.brn (fun c4 => ?_) (fun c4 => ?_); rotate_left)
  · rw [if_pos (fun q => c4 (ic4.mpr (q.2.2.1)))] at hr
    have k := k0 (by rw [hr]; decide)
    rw [hr] at k
    (repeat (first | refine Ex.go rfl rfl ?_ | refine Ex.gf rfl rfl (by assumption) (by rfl) (by first | rfl | assumption) ?_))
    refine Ex.ret rfl rfl rfl ?_
    exact k
  have c4 := ic4.mp c4
  (repeat (first | refine Ex.go rfl rfl ?_ | refine Ex.gf rfl rfl (by assumption) (by rfl) (by first | rfl | assumption) ?_))
  refine Ex.cs3 rfl rfl rfl rfl rfl rfl ?_
  refine c_withinP (lo := (num lg (vat lg E v') 3).toInt) (hi := (tdy lg E).toInt) rfl rfl (fun Pc3 dc3 ic3 => ?_)
  (repeat (first | refine Ex.go rfl rfl ?_ | refine Ex.gf rfl rfl (by assumption) (by rfl) (by first | rfl | assumption) ?_))
  first | (refine Ex.brz (fun c3 => ?_) (fun c3 => ?_); rotate_left) | (refine Ex.brn (fun c3 => ?_) (fun c3 => ?_); rotate_left)
  · rw [if_pos (fun q => c3 (ic3.mpr ((hdk _).mp (q.2.2.2))))] at hr
    have k := k0 (by rw [hr]; decide)
    rw [hr] at k
    (repeat (first | refine Ex.go rfl rfl ?_ | refine Ex.gf rfl rfl (by assumption) (by rfl) (by first | rfl | assumption) ?_))
    refine Ex.ret rfl rfl rfl ?_
    exact k
  have c3 := (hdk _).mpr (ic3.mp c3)
  rw [if_neg (fun z => z ⟨c1, c2, c4, c3⟩)] at hr
  have hfl : ((acl lg E).map (fun q => nI (posn lg q))).length = (acl lg E).length := List.length_map ..
  (repeat (first | refine Ex.go rfl rfl ?_ | refine Ex.gf rfl rfl (by assumption) (by rfl) (by first | rfl | assumption) ?_))
  refine Ex.cv0 rfl rfl rfl C.1.1 (by rfl) (by decide) rfl ?_
  refine c_isFull C.1 (by rw [hfl]; exact hW.2.2.1) ?_
  rw [hfl]
  (repeat (first | refine Ex.go rfl rfl ?_ | refine Ex.gf rfl rfl (by assumption) (by rfl) (by first | rfl | assumption) ?_))
  refine Ex.brz (fun hf => ?_) (fun hf => ?_)
  · rw [if_pos hf] at hr
    have k := k0 (by rw [hr]; decide)
    rw [hr] at k
    (repeat (first | refine Ex.go rfl rfl ?_ | refine Ex.gf rfl rfl (by assumption) (by rfl) (by first | rfl | assumption) ?_))
    refine Ex.ret rfl rfl rfl ?_
    exact k
  rw [if_neg hf] at hr
  have hW2 := WF_N hW (show 10 < 12 by omega) hr
  have hil := WF_img hW2.2.2
  have eim : img (lgN lg E 10 (n6 v kd who fd dy 0)) (E + 1) = img lg E ++ (nI 10 :: (List.range (numc 10)).map (n6 v kd who fd dy 0)) := by
    show img (lgN lg E 10 (n6 v kd who fd dy 0)) E ++ (cod (lgN lg E 10 (n6 v kd who fd dy 0)) E :: (List.range (nums (cod (lgN lg E 10 (n6 v kd who fd dy 0)) E))).map (num (lgN lg E 10 (n6 v kd who fd dy 0)) E)) = _
    rw [lgE_img lgN_E E (Nat.le_refl E), lgN_cod]
    congr 2
    exact List.map_congr_left fun k hk => lgN_num (List.mem_range.mp hk)
  have enm : (List.range (numc 10)).map (n6 v kd who fd dy 0) = [v, kd, who, fd, dy] := by rw [show numc 10 = 5 by decide]; rfl
  rw [eim, enm] at hil
  simp at hil
  have hpl : (acl lg E).length < 2000 := by have := hW.2.2.1; omega
  have k := k1 hr
  (repeat (first | refine Ex.go rfl rfl ?_ | refine Ex.gf rfl rfl (by assumption) (by rfl) (by first | rfl | assumption) ?_))
  refine Ex.cv1 rfl rfl rfl C.1.1 (by rfl) (by decide) rfl ?_
  refine c_begin C.1 (by omega) (by rw [hfl]; exact hpl) (by rw [List.length_map]; exact hpl) (fun G1 R1 F1 => ?_)
  (repeat (first | refine Ex.go rfl rfl ?_ | refine Ex.gf rfl rfl (by assumption) (by rfl) (by first | rfl | assumption) ?_))
  refine Ex.rwadd R1 (by simp; omega) rfl rfl rfl (fun G2 R2 F2 => ?_)
  have F2 := F1.trans F2
  (repeat (first | refine Ex.go rfl rfl ?_ | refine Ex.gf rfl rfl (by assumption) (by rfl) (by first | rfl | assumption) ?_))
  refine Ex.rwadd R2 (by simp; omega) rfl rfl rfl (fun G3 R3 F3 => ?_)
  have F3 := F2.trans F3
  (repeat (first | refine Ex.go rfl rfl ?_ | refine Ex.gf rfl rfl (by assumption) (by rfl) (by first | rfl | assumption) ?_))
  refine Ex.rwadd R3 (by simp; omega) rfl rfl rfl (fun G4 R4 F4 => ?_)
  have F4 := F3.trans F4
  (repeat (first | refine Ex.go rfl rfl ?_ | refine Ex.gf rfl rfl (by assumption) (by rfl) (by first | rfl | assumption) ?_))
  refine Ex.rwadd R4 (by simp; omega) rfl rfl rfl (fun G5 R5 F5 => ?_)
  have F5 := F4.trans F5
  (repeat (first | refine Ex.go rfl rfl ?_ | refine Ex.gf rfl rfl (by assumption) (by rfl) (by first | rfl | assumption) ?_))
  refine Ex.rwadd R5 (by simp; omega) rfl rfl rfl (fun G6 R6 F6 => ?_)
  have F6 := F5.trans F6
  have h0 := R6.1
  have RR : RW G6 a (nI (vsl lg E).length, nI (rsl lg E).length, nI (osl lg E).length, tdy lg E, ke) (img lg E ++ (nI 10 :: (List.range (numc 10)).map (n6 v kd who fd dy 0))) ((acl lg E).map (fun q => nI (posn lg q)) ++ [nI (img lg E).length]) ((acl lg E).map (ent lg) ++ [tdy lg E]) (fun j => us[j]?) := by
    rw [enm, show img lg E ++ nI 10 :: [v, kd, who, fd, dy] = img lg E ++ [nI 10] ++ [v] ++ [kd] ++ [who] ++ [fd] ++ [dy] by simp]
    exact R6
  (repeat (first | refine Ex.go rfl rfl ?_ | refine Ex.gf rfl rfl (by assumption) (by rfl) (by first | rfl | assumption) ?_))
  refine Ex.cv0 rfl rfl rfl h0 (by rfl) (by decide) rfl ?_
  refine c_lastAct R6 (by rw [List.length_append]; simp) ?_
  rw [show nI (((acl lg E).map (fun q => nI (posn lg q)) ++ [nI (img lg E).length]).length - 1) = nI ((acl lg E).map (fun q => nI (posn lg q)) ++ [nI (img lg E).length]).length - 1 from (pk_sub (b := 1) (by rw [List.length_append]; simp)).symm]
  have hV9 : G6[u]? = _ := (F6.2 u (by omega)).trans hV0
  (repeat (first | refine Ex.go rfl rfl ?_ | refine Ex.gf rfl rfl (by assumption) (by rfl) (by first | rfl | assumption) ?_))
  refine Ex.cv2 rfl rfl rfl h0 (by rfl) (by decide) rfl ?_
  refine c_entered (c := 10) (nn := n6 v kd who fd dy 0) ha C hW (by omega) (by omega) hr hm RR F6 (fun G9 us' C9 F9 => ?_)
  have k := k G9 us' C9 F9
  have ean : ansI lg E 10 (n6 v kd who fd dy 0) = nI (qsl lg E v').length + 1 := by simp only [ansI]; show nI ((qsl lg E v.toNatClampNeg).length + 1) = _; rw [evn, nI_1]
  rw [ean] at k
  (repeat (first | refine Ex.go rfl rfl ?_ | refine Ex.gf rfl rfl (by assumption) (by rfl) (by first | rfl | assumption) ?_))
  refine Ex.ret rfl rfl rfl ?_
  exact k
theorem c_enterRule {kd yg od : Int32} (ha : a = 2 ∨ a = 7) (C : CR G a us lg E ke) (hW : WF lg E) (hm : G.length = 378 + 6 * m) (k0 : rfs lg E 11 (n6 kd yg od 0 0 0) < 0 → Q (some (.int (rfs lg E 11 (n6 kd yg od 0 0 0)))) G) (k1 : rfs lg E 11 (n6 kd yg od 0 0 0) = 0 → ∀ G' us', CR G' a us' (lgN lg E 11 (n6 kd yg od 0 0 0)) (E + 1) ke → FC a us G us' G' → Q (some (.int (ansI lg E 11 (n6 kd yg od 0 0 0)))) G') : Cx (d + 6) mX3_enterRule [.ref a, .int kd, .int yg, .int od] G Q := by
  have hr : rfs lg E 11 (n6 kd yg od 0 0 0) = if ¬ (rng kd 0 2 ∧ rng yg 1 4000 ∧ rng od 1 4000) then -2 else if (acl lg E).length = 2000 then -4 else 0 := rfl
  have hh0 := C.1.1
  refine Cx.body rfl rfl ?_
  (repeat (first | refine Ex.go rfl rfl ?_ | refine Ex.gf rfl rfl (by assumption) (by rfl) (by first | rfl | assumption) ?_))
  refine Ex.cs3 rfl rfl rfl rfl rfl rfl ?_
  refine c_withinP (lo := 0) (hi := 2) (by decide +kernel) (by decide +kernel) (fun Pc1 dc1 ic1 => ?_)
  (repeat (first | refine Ex.go rfl rfl ?_ | refine Ex.gf rfl rfl (by assumption) (by rfl) (by first | rfl | assumption) ?_))
  first | (refine Ex.brz (fun c1 => ?_) (fun c1 => ?_); rotate_left) | (refine Ex.brn (fun c1 => ?_) (fun c1 => ?_); rotate_left)
  · rw [if_pos (fun q => c1 (ic1.mpr (q.1)))] at hr
    have k := k0 (by rw [hr]; decide)
    rw [hr] at k
    (repeat (first | refine Ex.go rfl rfl ?_ | refine Ex.gf rfl rfl (by assumption) (by rfl) (by first | rfl | assumption) ?_))
    refine Ex.ret rfl rfl rfl ?_
    exact k
  have c1 := ic1.mp c1
  (repeat (first | refine Ex.go rfl rfl ?_ | refine Ex.gf rfl rfl (by assumption) (by rfl) (by first | rfl | assumption) ?_))
  refine Ex.cs3 rfl rfl rfl rfl rfl rfl ?_
  refine c_withinP (lo := 1) (hi := 4000) (by decide +kernel) (by decide +kernel) (fun Pc2 dc2 ic2 => ?_)
  (repeat (first | refine Ex.go rfl rfl ?_ | refine Ex.gf rfl rfl (by assumption) (by rfl) (by first | rfl | assumption) ?_))
  first | (refine Ex.brz (fun c2 => ?_) (fun c2 => ?_); rotate_left) | (refine Ex.brn (fun c2 => ?_) (fun c2 => ?_); rotate_left)
  · rw [if_pos (fun q => c2 (ic2.mpr (q.2.1)))] at hr
    have k := k0 (by rw [hr]; decide)
    rw [hr] at k
    (repeat (first | refine Ex.go rfl rfl ?_ | refine Ex.gf rfl rfl (by assumption) (by rfl) (by first | rfl | assumption) ?_))
    refine Ex.ret rfl rfl rfl ?_
    exact k
  have c2 := ic2.mp c2
  (repeat (first | refine Ex.go rfl rfl ?_ | refine Ex.gf rfl rfl (by assumption) (by rfl) (by first | rfl | assumption) ?_))
  refine Ex.cs3 rfl rfl rfl rfl rfl rfl ?_
  refine c_withinP (lo := 1) (hi := 4000) (by decide +kernel) (by decide +kernel) (fun Pc3 dc3 ic3 => ?_)
  (repeat (first | refine Ex.go rfl rfl ?_ | refine Ex.gf rfl rfl (by assumption) (by rfl) (by first | rfl | assumption) ?_))
  first | (refine Ex.brz (fun c3 => ?_) (fun c3 => ?_); rotate_left) | (refine Ex.brn (fun c3 => ?_) (fun c3 => ?_); rotate_left)
  · rw [if_pos (fun q => c3 (ic3.mpr (q.2.2)))] at hr
    have k := k0 (by rw [hr]; decide)
    rw [hr] at k
    (repeat (first | refine Ex.go rfl rfl ?_ | refine Ex.gf rfl rfl (by assumption) (by rfl) (by first | rfl | assumption) ?_))
    refine Ex.ret rfl rfl rfl ?_
    exact k
  have c3 := ic3.mp c3
  rw [if_neg (fun z => z ⟨c1, c2, c3⟩)] at hr
  have hfl : ((acl lg E).map (fun q => nI (posn lg q))).length = (acl lg E).length := List.length_map ..
  (repeat (first | refine Ex.go rfl rfl ?_ | refine Ex.gf rfl rfl (by assumption) (by rfl) (by first | rfl | assumption) ?_))
  refine Ex.cv0 rfl rfl rfl C.1.1 (by rfl) (by decide) rfl ?_
  refine c_isFull C.1 (by rw [hfl]; exact hW.2.2.1) ?_
  rw [hfl]
  (repeat (first | refine Ex.go rfl rfl ?_ | refine Ex.gf rfl rfl (by assumption) (by rfl) (by first | rfl | assumption) ?_))
  refine Ex.brz (fun hf => ?_) (fun hf => ?_)
  · rw [if_pos hf] at hr
    have k := k0 (by rw [hr]; decide)
    rw [hr] at k
    (repeat (first | refine Ex.go rfl rfl ?_ | refine Ex.gf rfl rfl (by assumption) (by rfl) (by first | rfl | assumption) ?_))
    refine Ex.ret rfl rfl rfl ?_
    exact k
  rw [if_neg hf] at hr
  have hW2 := WF_N hW (show 11 < 12 by omega) hr
  have hil := WF_img hW2.2.2
  have eim : img (lgN lg E 11 (n6 kd yg od 0 0 0)) (E + 1) = img lg E ++ (nI 11 :: (List.range (numc 11)).map (n6 kd yg od 0 0 0)) := by
    show img (lgN lg E 11 (n6 kd yg od 0 0 0)) E ++ (cod (lgN lg E 11 (n6 kd yg od 0 0 0)) E :: (List.range (nums (cod (lgN lg E 11 (n6 kd yg od 0 0 0)) E))).map (num (lgN lg E 11 (n6 kd yg od 0 0 0)) E)) = _
    rw [lgE_img lgN_E E (Nat.le_refl E), lgN_cod]
    congr 2
    exact List.map_congr_left fun k hk => lgN_num (List.mem_range.mp hk)
  have enm : (List.range (numc 11)).map (n6 kd yg od 0 0 0) = [kd, yg, od] := by rw [show numc 11 = 3 by decide]; rfl
  rw [eim, enm] at hil
  simp at hil
  have hpl : (acl lg E).length < 2000 := by have := hW.2.2.1; omega
  have k := k1 hr
  (repeat (first | refine Ex.go rfl rfl ?_ | refine Ex.gf rfl rfl (by assumption) (by rfl) (by first | rfl | assumption) ?_))
  refine Ex.cv1 rfl rfl rfl C.1.1 (by rfl) (by decide) rfl ?_
  refine c_begin C.1 (by omega) (by rw [hfl]; exact hpl) (by rw [List.length_map]; exact hpl) (fun G1 R1 F1 => ?_)
  (repeat (first | refine Ex.go rfl rfl ?_ | refine Ex.gf rfl rfl (by assumption) (by rfl) (by first | rfl | assumption) ?_))
  refine Ex.rwadd R1 (by simp; omega) rfl rfl rfl (fun G2 R2 F2 => ?_)
  have F2 := F1.trans F2
  (repeat (first | refine Ex.go rfl rfl ?_ | refine Ex.gf rfl rfl (by assumption) (by rfl) (by first | rfl | assumption) ?_))
  refine Ex.rwadd R2 (by simp; omega) rfl rfl rfl (fun G3 R3 F3 => ?_)
  have F3 := F2.trans F3
  (repeat (first | refine Ex.go rfl rfl ?_ | refine Ex.gf rfl rfl (by assumption) (by rfl) (by first | rfl | assumption) ?_))
  refine Ex.rwadd R3 (by simp; omega) rfl rfl rfl (fun G4 R4 F4 => ?_)
  have F4 := F3.trans F4
  have h0 := R4.1
  have RR : RW G4 a (nI (vsl lg E).length, nI (rsl lg E).length, nI (osl lg E).length, tdy lg E, ke) (img lg E ++ (nI 11 :: (List.range (numc 11)).map (n6 kd yg od 0 0 0))) ((acl lg E).map (fun q => nI (posn lg q)) ++ [nI (img lg E).length]) ((acl lg E).map (ent lg) ++ [tdy lg E]) (fun j => us[j]?) := by
    rw [enm, show img lg E ++ nI 11 :: [kd, yg, od] = img lg E ++ [nI 11] ++ [kd] ++ [yg] ++ [od] by simp]
    exact R4
  (repeat (first | refine Ex.go rfl rfl ?_ | refine Ex.gf rfl rfl (by assumption) (by rfl) (by first | rfl | assumption) ?_))
  refine Ex.cv0 rfl rfl rfl h0 (by rfl) (by decide) rfl ?_
  refine c_lastAct R4 (by rw [List.length_append]; simp) ?_
  rw [show nI (((acl lg E).map (fun q => nI (posn lg q)) ++ [nI (img lg E).length]).length - 1) = nI ((acl lg E).map (fun q => nI (posn lg q)) ++ [nI (img lg E).length]).length - 1 from (pk_sub (b := 1) (by rw [List.length_append]; simp)).symm]
  (repeat (first | refine Ex.go rfl rfl ?_ | refine Ex.gf rfl rfl (by assumption) (by rfl) (by first | rfl | assumption) ?_))
  refine Ex.cv2 rfl rfl rfl h0 (by rfl) (by decide) rfl ?_
  refine c_entered (c := 11) (nn := n6 kd yg od 0 0 0) ha C hW (by omega) (by omega) hr hm RR F4 (fun G9 us' C9 F9 => ?_)
  have k := k G9 us' C9 F9
  have ean : ansI lg E 11 (n6 kd yg od 0 0 0) = nI (rsl lg E).length + 1 := by simp only [ansI]; exact (nI_1 _).symm
  rw [ean] at k
  (repeat (first | refine Ex.go rfl rfl ?_ | refine Ex.gf rfl rfl (by assumption) (by rfl) (by first | rfl | assumption) ?_))
  refine Ex.ret rfl rfl rfl ?_
  exact k
end CE

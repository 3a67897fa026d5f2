/-! copyOf, add; a call of any depth. -/
def bp_yC : MethodName := ⟨"java/util/Arrays", "copyOf", "([II)[I"⟩
def bp_wC : List Cond := Cond.code bp_yC prog_18_method_123_code 3 (some (.array .int)) :: bo_W
def bp_mC : bo_M := (13, bp_yC, prog_18_method_123_code, 3, some (.array .int), bo_no, false, 9, 2)
def bp_PcC (X : bo_X) (q n0 : Nat) (f : Nat → Int32) (n : Int32) (sz : Nat) : Array Value → State → Prop := va_Pc [.ref q, .int n] (fun U => U.heap.size = sz ∧ va_at X.1 bo_Cls (q, .inl (bo_cI X, n0, .inl f)) U.heap ∧ va_K X.1 bo_Cls [] U ∧ ArrOfT U (bo_cI X) .int ∧ va_RA U (bo_cI X) .int)
theorem bp_copy (X : bo_X) (l : Launch) {q n0 N : Nat} {f : Nat → Int32} {n : Int32} (hN : n.toNatClampNeg = N) (hn0 : 0 ≤ n) (hlt : n0 < N) (hle : N ≤ 40000) (sz : Nat) : Met l bp_yC bp_wC (bo_rm 1 1 N) (bp_PcC X q n0 f n sz) (va_Qr (fun _ : Unit => True) (fun _ r t => r = sz ∧ va_at X.1 bo_Cls (q, .inl (bo_cI X, n0, .inl f)) t.heap ∧ va_at X.1 bo_Cls (r, .inl (bo_cI X, N, .inl (va_cpy f (fun _ => 0) 0 0 n0))) t.heap) (fun z => z = q ∨ sz ≤ z)) 1 N (fun z => z = q ∨ sz ≤ z) := by
  refine va_MetF (cc := prog_18_method_123_code) (maxL := 3) (ret := some (.array .int)) (by decide +kernel) rfl ?_
  intro p e s mm args below meth c s₁ B hml hv
  obtain ⟨rfl, hsz, hat, hK, hAr, hRA⟩ := hv
  have hx := B.exec
  have hb : c.code = bo_cc bp_mC := B.bytes
  have hr := B.returns
  have hts0 := atoms_spec (ws := bp_wC) B.pre
  have hts : ∀ w ∈ bo_W, w.before ([Value.ref q, Value.int n] : List Value).toArray s = true := fun w hw => hts0 w (List.mem_cons_of_mem _ hw)
  have hown : s.vm.findClass "java/util/Arrays" = some mm.cls := findClass_of_methodNamed B.named
  have hlocks := B.notSynchronized
  have hql : q < s.heap.size := hat.lt
  have hnN := bp_nat hn0
  have hN2 : n = Int32.ofNat N := by
    apply Int32.toInt_inj.mp
    rw [hnN, hN]
    exact (nI_toInt (by omega)).symm
  have hn0e : (Int32.ofNat n0).toInt = (n0 : Int) := nI_toInt (by omega)
  have hn0c : (Int32.ofNat n0).toNatClampNeg = n0 := nI_clamp (by omega)
  subst hsz
  have hS : va_S (fun z : Nat => z = q ∨ s.heap.size ≤ z) s.heap s.heap [] := va_S.rf
  have hK1 : va_K X.1 bo_Cls [(bo_cI X, .int)] s := ⟨hK.1, fun k x hx => by
    have hz : k < 1 := (List.getElem?_eq_some_iff.mp hx).1
    rw [show k = 0 by omega] at hx
    cases hx
    exact ⟨hAr, hRA⟩⟩
  have hl := lv_entry ([.ref q, .int n]) (n := 3) (Nat.le_of_ble_eq_true rfl)
  rw [lg_entry_eq]
  generalize (lg_sl ([.ref q, .int n]) ++ List.replicate (3 - (lg_sl ([.ref q, .int n])).length) Slot.unset).toArray = ls at hl ⊢
  have hl : lv_has ls 3 [(0, .ref q), (1, .int n)] := hl
  refine lv_iload_n hx hb (by decide +kernel : decode (bo_cc bp_mC) 0 = .ok (.iload_n 1, 1)) rfl (lv_at hl 1 rfl) ?_
  refine lv_aload_n hx hb (by decide +kernel : decode (bo_cc bp_mC) 1 = .ok (.aload_n 0, 1)) rfl (lv_at hl 0 rfl) ?_
  refine va_alen (D := X.1) (cl := bo_Cls) (ws := [(q, .inl (bo_cI X, n0, .inl f))]) hx hb hK1 (bo_P1 hat) 0 0 rfl rfl rfl (by decide +kernel : decode (bo_cc bp_mC) 2 = .ok (.arraylength, 1)) ?_
  refine lv_icmp_ne (tgt := 14) hx hb (by decide +kernel : decode (bo_cc bp_mC) 3 = .ok (.if_icmp .ne 11, 3)) (by decide) (fun _ => ?_) (fun z => absurd (congrArg Int32.toInt z) (by rw [hnN, hn0e]; omega))
  refine lv_iload_n hx hb (by decide +kernel : decode (bo_cc bp_mC) 14 = .ok (.iload_n 1, 1)) rfl (lv_at hl 1 rfl) ?_
  refine br_newa (D := X.1) (cl := bo_Cls) hx hb (hts _ bo_w_arr) hRA (Int32.not_lt.mpr hn0) (by omega) (Nat.le_refl 1) (by show 0 + n.toNatClampNeg ≤ N; omega) (by decide +kernel : decode (bo_cc bp_mC) 15 = .ok (.newarray .int, 2)) fun H1 f1 f2 f3 => ?_
  rw [hN] at f1 ⊢
  have hat1 := hat.kept (f3 _ hql)
  refine lv_astore_n (lv' := [(2, .ref s.heap.size), (0, .ref q), (1, .int n)]) hx hb (by decide +kernel : decode (bo_cc bp_mC) 17 = .ok (.astore_n 2, 1)) rfl hl (by decide) rfl (fun ls hl => ?_)
  refine lv_aload_n hx hb (by decide +kernel : decode (bo_cc bp_mC) 18 = .ok (.aload_n 0, 1)) rfl (lv_at hl 1 rfl) ?_
  refine lv_iconst (v := 0) hx hb (by decide +kernel : decode (bo_cc bp_mC) 19 = .ok (.iconst 0, 1)) (by decide) ?_
  refine lv_aload_n hx hb (by decide +kernel : decode (bo_cc bp_mC) 20 = .ok (.aload_n 2, 1)) rfl (lv_at hl 0 rfl) ?_
  refine lv_iconst (v := 0) hx hb (by decide +kernel : decode (bo_cc bp_mC) 21 = .ok (.iconst 0, 1)) (by decide) ?_
  refine lv_aload_n hx hb (by decide +kernel : decode (bo_cc bp_mC) 22 = .ok (.aload_n 0, 1)) rfl (lv_at hl 1 rfl) ?_
  refine va_alen (D := X.1) (cl := bo_Cls) (ws := [(q, .inl (bo_cI X, n0, .inl f))]) hx hb hK1 (bo_P1 hat1) 0 0 rfl rfl rfl (by decide +kernel : decode (bo_cc bp_mC) 23 = .ok (.arraylength, 1)) ?_
  refine lv_iload_n hx hb (by decide +kernel : decode (bo_cc bp_mC) 24 = .ok (.iload_n 1, 1)) rfl (lv_at hl 2 rfl) ?_
  refine va_mmin hx hb (hml.trans hl.1.symm) hown (hts _ bo_w_mml) (hts _ bo_w_mms) (hts _ bo_w_mmi) (hts _ bo_w_mmc) (Nat.le_refl 1) (by show 4 + 13 ≤ 46; omega) (Nat.le_refl 1) (by show 0 + N ≤ N; omega) (by decide +kernel : decode (bo_cc bp_mC) 25 = .ok (.invokestatic 304, 3)) ?_
  have hmin : (if n < Int32.ofNat n0 then n else Int32.ofNat n0) = Int32.ofNat n0 := if_neg fun z => by
    have := Int32.lt_iff_toInt_lt.mp z
    rw [hnN, hn0e] at this
    omega
  rw [hmin]
  have hP : va_P X.1 bo_Cls [(q, .inl (bo_cI X, n0, .inl f)), (s.heap.size, .inl (bo_cI X, N, .inl (fun _ => 0)))] H1 := by
    intro k x hx
    match k, hx with
    | 0, hx => cases hx; exact hat1
    | 1, hx => cases hx; exact f1
  have hD : va_D (fun z : Nat => z = q ∨ s.heap.size ≤ z) [(q, .inl (bo_cI X, n0, .inl f)), (s.heap.size, .inl (bo_cI X, N, .inl (fun _ => 0)))] := by
    refine ⟨fun i j a b hi hj hab => ?_, fun k x hx => ?_⟩
    · match i, j, hi, hj with
      | 0, 0, _, _ => rfl
      | 1, 1, _, _ => rfl
      | 0, 1, hi, hj => cases hi; cases hj; exact absurd hab (by show ¬ q = s.heap.size; omega)
      | 1, 0, hi, hj => cases hi; cases hj; exact absurd hab (by show ¬ s.heap.size = q; omega)
    · match k, hx with
      | 0, hx => cases hx; exact Or.inl rfl
      | 1, hx => cases hx; exact Or.inr (Nat.le_refl _)
  have hS1 : va_S (fun z : Nat => z = q ∨ s.heap.size ≤ z) s.heap H1 [] := ⟨by omega, fun z hz _ => f3 z hz, fun q hq => by cases hq⟩
  refine va_copyi (ty := .int) hx hb (hml.trans hl.1.symm) hown (hts _ bo_w_acl) (hts _ bo_w_acn) (hts _ bo_w_acs) (hts _ bo_w_aci) hK1 hP hD hS1 0 1 0 0 rfl rfl rfl rfl rfl (by decide) (by decide) (fun z => by have := Int32.lt_iff_toInt_lt.mp z; rw [hn0e] at this; have e : (0 : Int32).toInt = 0 := rfl; omega) (by rw [hn0c]; show 0 + n0 ≤ n0; omega) (by rw [hn0c]; show 0 + n0 ≤ N; omega) (fun i _ => rfl) (Nat.le_refl 1) (by show 0 + (nativeFrameWords "java/lang/System" "arraycopy" 5 + 11) ≤ 46; decide +kernel) (by decide +kernel : decode (bo_cc bp_mC) 28 = .ok (.invokestatic 150, 3)) fun H2 locs2 hP2 hD2 hS2 => ?_
  rw [hn0c] at hP2
  refine lv_aload_n hx hb (by decide +kernel : decode (bo_cc bp_mC) 31 = .ok (.aload_n 2, 1)) rfl (lv_at hl 0 rfl) ?_
  refine W.widen (k := 1) (n := N) (by omega) (by omega) ?_
  exact W.aret hx hb hr (Or.inr ⟨_, rfl⟩) (Or.inr ⟨_, rfl⟩) (fun t ht hW => ⟨⟨(), s.heap.size, rfl, trivial, rfl, by rw [ht]; exact hP2 0 _ rfl, by rw [ht]; exact hP2 1 _ rfl⟩, by unfold va_F; rw [ht]; exact ⟨hS2.1, hS2.2.1⟩⟩) hS2.2.2 (by decide +kernel : decode (bo_cc bp_mC) 32 = .ok (.areturn, 1))
theorem bp_add (X : bo_X) (d : Nat) {a L cap : Nat} {v : Int32} {xs : List Int32} {G : bo_G} (hw : G[a]? = some (cR L cap xs)) : bo_Met X (d + 2) mX4_add [.ref a, .int v] G (some (.ref a)) (G.set a (cR L (bo_cap L cap xs.length) (bo_add L xs v))) := by
  refine bo_enter moX4_add rfl fun p l e R s mm args below meth c Q ad0 C hwh hroom hret => ?_
  obtain ⟨hx, hb, hml, hown, hts, hini, hOK⟩ := id C
  obtain ⟨hfr, hlo⟩ := hwh
  intro H locs ls ad pa h1 h2 h3 h4 h5 h6 h7 h8
  obtain ⟨hok, hobj, hA1, hA2, f, harr, hf⟩ := (h1.2.1 a _ hw).1
  have hobj : va_at X.1 bo_Cls (ad a, .inr (4, [.int (Int32.ofNat L), .ref (pa a), .int (Int32.ofNat xs.length)])) H := hobj
  have harr : va_at X.1 bo_Cls (pa a, .inl (bo_cI X, cap, .inl f)) H := harr
  have hf : ∀ j, j < xs.length → f j = xs.getD j 0 := hf
  have hL : L ≤ 40000 := hok.2.1
  have hlc : xs.length ≤ cap := hok.2.2.1
  have hcl : cap ≤ L := hok.2.2.2.1
  have hc1 : 1 ≤ cap := hok.2.2.2.2
  have g2 : lv_has ls 2 [(0, .ref (ad a)), (1, .int v)] := h2
  have hap : pa a ≠ ad a := h1.2.2.2.2 a a _ hw rfl (bo_lt hw)
  have hiL : (Int32.ofNat L).toInt = (L : Int) := nI_toInt (by omega)
  have hin : (Int32.ofNat xs.length).toInt = (xs.length : Int) := nI_toInt (by omega)
  have hic : (Int32.ofNat cap).toInt = (cap : Int) := nI_toInt (by omega)
  have hrk : bo_rk G.length (.ref a) := bo_lt hw
  have hcost := bo_sum_set (f := bo_wC) G a _ (cR L (bo_cap L cap xs.length) (bo_add L xs v)) hw
  have hcostS := bo_sum_set (f := bo_wS) G a _ (cR L (bo_cap L cap xs.length) (bo_add L xs v)) hw
  have eC : bo_uC (G.set a (cR L (bo_cap L cap xs.length) (bo_add L xs v))) + (1 + cap) = bo_uC G + (1 + bo_cap L cap xs.length) := hcost
  have eS : bo_uS (G.set a (cR L (bo_cap L cap xs.length) (bo_add L xs v))) + (3 + 2 * cap + (if L ≤ cap then L else 0)) = bo_uS G + (3 + 2 * bo_cap L cap xs.length + (if L ≤ bo_cap L cap xs.length then L else 0)) := hcostS
  have hcapm : cap ≤ bo_cap L cap xs.length := by unfold bo_cap; split <;> omega
  have hmono : bo_uS G ≤ bo_uS (G.set a (cR L (bo_cap L cap xs.length) (bo_add L xs v))) := by
    by_cases z1 : L ≤ cap
    · rw [if_pos z1, if_pos (by omega)] at eS; omega
    · rw [if_neg z1] at eS; omega
  -- the end: a return of the object
  have done : ∀ (pc : Nat) (H4 : Heap) (locs4 : List Loc) (cells slots : Nat) (pa' : Nat → Nat), bo_cd mX4_add pc = some (.areturn, pc + 1, 0, 0) → bo_Rel X ad pa' s H4 (G.set a (cR L (bo_cap L cap xs.length) (bo_add L xs v))) → (∀ q ∈ locs4, bo_Ad X q.base) → cells ≤ bo_uC (G.set a (cR L (bo_cap L cap xs.length) (bo_add L xs v))) - bo_uC G → slots ≤ bo_uS (G.set a (cR L (bo_cap L cap xs.length) (bo_add L xs v))) - bo_uS G → W p l e R s mm args below meth c H4 locs4 cells slots Q (F0 mm pc ls [.ref (ad a)]) := by
    intro pc H4 locs4 cells slots pa' hcd hR4 hl4 k1 k2
    refine W.widen k1 k2 ?_
    have hk := hret pc _ _ [.ref a] hcd rfl H4 locs4 ls ad pa' hR4 h2 (by show bo_rl (G.set a _).length _ _; rw [List.length_set]; exact h3.cons hrk) hl4 h5 (by show _ ≤ (G.set a _).length; rw [List.length_set]; exact h6) (by show _ ≤ bo_uC (G.set a _); omega) hmono
    exact hk
  -- from 50 on, the ints in a row at q with room
  have tail : ∀ (H2 : Heap) (locs2 : List Loc) (cells slots q : Nat) (f2 : Nat → Int32), bo_U X s H2 → va_at X.1 bo_Cls (ad a, .inr (4, [.int (Int32.ofNat L), .ref q, .int (Int32.ofNat xs.length)])) H2 → va_at X.1 bo_Cls (q, .inl (bo_cI X, bo_cap L cap xs.length, .inl f2)) H2 → q ≠ ad a → bo_Ad X q → xs.length < bo_cap L cap xs.length → bo_cap L cap xs.length ≤ L → (∀ q ∈ locs2, bo_Ad X q.base) → (∀ (H4 : Heap) (locs4 : List Loc), va_at X.1 bo_Cls (ad a, .inr (4, [.int (Int32.ofNat L), .ref q, .int (Int32.ofNat (xs.length + 1))])) H4 → va_at X.1 bo_Cls (q, .inl (bo_cI X, bo_cap L cap xs.length, .inl (upd f2 xs.length v))) H4 → H4.size = H2.size → (∀ z, z ≠ ad a → z ≠ q → H4[z]? = H2[z]?) → (∀ q ∈ locs4, bo_Ad X q.base) → W p l e R s mm args below meth c H4 locs4 cells slots Q (F0 mm 90 ls [.ref (ad a)])) → W p l e R s mm args below meth c H2 locs2 cells slots Q (F0 mm 50 ls []) := by
    intro H2 locs2 cells slots q f2 hU2 ho2 ha2 hqa hAq hlt hle2 hl2 cls
    generalize hcap2 : bo_cap L cap xs.length = cap2 at *
    have hic2 : (Int32.ofNat cap2).toInt = (cap2 : Int) := nI_toInt (by omega)
    refine lv_aload_n hx hb (by decide +kernel : decode (bo_cc mX4_add) 50 = .ok (.aload_n 0, 1)) rfl (lv_at g2 0 rfl) ?_
    refine bp_gf C (bo_fko 4 17 (4, 2) rfl) (by decide +kernel : decode (bo_cc mX4_add) 51 = .ok (.getfield 17, 3)) hU2 ho2 rfl ?_
    refine lv_if_lt (tgt := 89) hx hb (by decide +kernel : decode (bo_cc mX4_add) 54 = .ok (.ifCond .lt 35, 3)) (by decide) (fun z => absurd (Int32.lt_iff_toInt_lt.mp z) (by rw [hin]; show ¬ (xs.length : Int) < 0; omega)) (fun _ => ?_)
    refine lv_aload_n hx hb (by decide +kernel : decode (bo_cc mX4_add) 57 = .ok (.aload_n 0, 1)) rfl (lv_at g2 0 rfl) ?_
    refine bp_gf C (bo_fko 4 17 (4, 2) rfl) (by decide +kernel : decode (bo_cc mX4_add) 58 = .ok (.getfield 17, 3)) hU2 ho2 rfl ?_
    refine lv_aload_n hx hb (by decide +kernel : decode (bo_cc mX4_add) 61 = .ok (.aload_n 0, 1)) rfl (lv_at g2 0 rfl) ?_
    refine bp_gf C (bo_fko 4 13 (4, 1) rfl) (by decide +kernel : decode (bo_cc mX4_add) 62 = .ok (.getfield 13, 3)) hU2 ho2 rfl ?_
    refine va_alen (D := X.1) (cl := bo_Cls) (ws := [(q, .inl (bo_cI X, cap2, .inl f2))]) hx hb (bo_K1 hU2) (bo_P1 ha2) 0 0 rfl rfl rfl (by decide +kernel : decode (bo_cc mX4_add) 65 = .ok (.arraylength, 1)) ?_
    refine lv_icmp_ge (tgt := 89) hx hb (by decide +kernel : decode (bo_cc mX4_add) 66 = .ok (.if_icmp .ge 23, 3)) (by decide) (fun z => absurd (Int32.le_iff_toInt_le.mp z) (by rw [hin, hic2]; omega)) (fun _ => ?_)
    refine lv_aload_n hx hb (by decide +kernel : decode (bo_cc mX4_add) 69 = .ok (.aload_n 0, 1)) rfl (lv_at g2 0 rfl) ?_
    refine bp_gf C (bo_fko 4 13 (4, 1) rfl) (by decide +kernel : decode (bo_cc mX4_add) 70 = .ok (.getfield 13, 3)) hU2 ho2 rfl ?_
    refine lv_aload_n hx hb (by decide +kernel : decode (bo_cc mX4_add) 73 = .ok (.aload_n 0, 1)) rfl (lv_at g2 0 rfl) ?_
    refine bp_gf C (bo_fko 4 17 (4, 2) rfl) (by decide +kernel : decode (bo_cc mX4_add) 74 = .ok (.getfield 17, 3)) hU2 ho2 rfl ?_
    refine lv_iload_n hx hb (by decide +kernel : decode (bo_cc mX4_add) 77 = .ok (.iload_n 1, 1)) rfl (lv_at g2 1 rfl) ?_
    have hnc : (Int32.ofNat xs.length).toNatClampNeg = xs.length := nI_clamp (by omega)
    refine br_iast (A := bo_Ad X) hx hb hU2.2.1.1 ha2 (bo_vpin ⟨Int32.le_iff_toInt_le.mpr (by rw [hin]; show (0 : Int) ≤ _; omega), by rw [hnc]; exact hlt⟩) hAq hl2 (by decide +kernel : decode (bo_cc mX4_add) 78 = .ok (.iastore, 1)) fun H3 locs3 e1 e2 e3 e4 => ?_
    rw [hnc] at e1
    have hU3 : bo_U X s H3 := hU2.kept (by omega) fun z _ hz => e3 z fun y => hz (by rw [y]; exact hAq)
    have ho3 := ho2.kept (e3 _ (Ne.symm hqa))
    refine lv_aload_n hx hb (by decide +kernel : decode (bo_cc mX4_add) 79 = .ok (.aload_n 0, 1)) rfl (lv_at g2 0 rfl) ?_
    refine lv_dup hx hb (by decide +kernel : decode (bo_cc mX4_add) 80 = .ok (.dup, 1)) rfl ?_
    refine bp_gf C (bo_fko 4 17 (4, 2) rfl) (by decide +kernel : decode (bo_cc mX4_add) 81 = .ok (.getfield 17, 3)) hU3 ho3 rfl ?_
    refine lv_iconst (v := 1) hx hb (by decide +kernel : decode (bo_cc mX4_add) 84 = .ok (.iconst 1, 1)) (by decide) ?_
    refine lv_iadd hx hb (by decide +kernel : decode (bo_cc mX4_add) 85 = .ok (.iadd, 1)) ?_
    rw [show Int32.ofNat xs.length + 1 = Int32.ofNat (xs.length + 1) from nI_1 _]
    refine bp_pf C rfl (bo_fko 4 17 (4, 2) rfl) (by decide +kernel : decode (bo_cc mX4_add) 86 = .ok (.putfield 17, 3)) hU3 ho3 (Or.inl rfl) rfl rfl (Nat.le_refl 3) hA1 e4 fun H4 locs4 k1 k2 k3 k4 => ?_
    refine lv_aload_n hx hb (by decide +kernel : decode (bo_cc mX4_add) 89 = .ok (.aload_n 0, 1)) rfl (lv_at g2 0 rfl) ?_
    exact cls H4 locs4 k1 (e1.kept (k3 _ hqa)) (by omega) (fun z z1 z2 => by rw [k3 z z1, e3 z z2]) k4
  have pre : ∀ (f2 : Nat → Int32), (∀ j, j < xs.length → f2 j = xs.getD j 0) → ∀ j, j < (xs ++ [v]).length → upd f2 xs.length v j = (xs ++ [v]).getD j 0 := by
    intro f2 hf2 j hj
    rw [List.length_append] at hj
    rw [List.getD_eq_getElem?_getD]
    by_cases hjn : j = xs.length
    · subst hjn
      rw [List.getElem?_append_right (Nat.le_refl _)]
      simp [upd]
    · have hj2 : j < xs.length := by simp at hj; omega
      rw [List.getElem?_append_left hj2]
      have : upd f2 xs.length v j = f2 j := if_neg hjn
      rw [this, hf2 j hj2, List.getD_eq_getElem?_getD]
  show W p l e R s mm args below meth c H locs (bo_uC G - bo_uC G) (bo_uS G - bo_uS G) Q (F0 mm 0 ls [])
  refine lv_aload_n hx hb (by decide +kernel : decode (bo_cc mX4_add) 0 = .ok (.aload_n 0, 1)) rfl (lv_at g2 0 rfl) ?_
  refine bp_gf C (bo_fko 4 17 (4, 2) rfl) (by decide +kernel : decode (bo_cc mX4_add) 1 = .ok (.getfield 17, 3)) h1.1 hobj rfl ?_
  refine lv_aload_n hx hb (by decide +kernel : decode (bo_cc mX4_add) 4 = .ok (.aload_n 0, 1)) rfl (lv_at g2 0 rfl) ?_
  refine bp_gf C (bo_fko 4 7 (4, 0) rfl) (by decide +kernel : decode (bo_cc mX4_add) 5 = .ok (.getfield 7, 3)) h1.1 hobj rfl ?_
  refine lv_icmp_lt (tgt := 13) hx hb (by decide +kernel : decode (bo_cc mX4_add) 8 = .ok (.if_icmp .lt 5, 3)) (by decide) (fun q => ?_) (fun q => ?_)
  · have hlt : xs.length < L := by have := Int32.lt_iff_toInt_lt.mp q; rw [hiL, hin] at this; omega
    have hadd : bo_add L xs v = xs ++ [v] := if_pos hlt
    refine lv_aload_n hx hb (by decide +kernel : decode (bo_cc mX4_add) 13 = .ok (.aload_n 0, 1)) rfl (lv_at g2 0 rfl) ?_
    refine bp_gf C (bo_fko 4 17 (4, 2) rfl) (by decide +kernel : decode (bo_cc mX4_add) 14 = .ok (.getfield 17, 3)) h1.1 hobj rfl ?_
    refine lv_aload_n hx hb (by decide +kernel : decode (bo_cc mX4_add) 17 = .ok (.aload_n 0, 1)) rfl (lv_at g2 0 rfl) ?_
    refine bp_gf C (bo_fko 4 13 (4, 1) rfl) (by decide +kernel : decode (bo_cc mX4_add) 18 = .ok (.getfield 13, 3)) h1.1 hobj rfl ?_
    refine va_alen (D := X.1) (cl := bo_Cls) (ws := [(pa a, .inl (bo_cI X, cap, .inl f))]) hx hb (bo_K1 h1.1) (bo_P1 harr) 0 0 rfl rfl rfl (by decide +kernel : decode (bo_cc mX4_add) 21 = .ok (.arraylength, 1)) ?_
    refine lv_icmp_lt (tgt := 50) hx hb (by decide +kernel : decode (bo_cc mX4_add) 22 = .ok (.if_icmp .lt 28, 3)) (by decide) (fun q2 => ?_) (fun q2 => ?_)
    · have hlt2 : xs.length < cap := by have := Int32.lt_iff_toInt_lt.mp q2; rw [hic, hin] at this; omega
      have hcap : bo_cap L cap xs.length = cap := if_neg (by omega)
      refine tail H locs _ _ (pa a) f h1.1 hobj (by rw [hcap]; exact harr) hap hA2 (by omega) (by omega) h4 fun H4 locs4 k1 k2 k3 k4 k5 => ?_
      rw [hcap] at k2
      refine done 90 H4 locs4 _ _ pa rfl ?_ k5 (by omega) (by omega)
      rw [hcap, hadd]
      refine h1.upd hw (c1 := cR L cap (xs ++ [v])) ⟨⟨hok.1, hok.2.1, by show (xs ++ [v]).length ≤ cap; simp; omega, hok.2.2.2⟩, ?_, hA1, hA2, _, k2, pre f hf⟩ trivial rfl hA1 (fun _ => hA2) k3 (fun z z1 z2 => k4 z z1 (z2 rfl))
      show va_at _ _ (ad a, .inr (4, [_, _, .int (Int32.ofNat (xs ++ [v]).length)])) _
      rw [List.length_append]
      exact k1
    · have hge : cap ≤ xs.length := by
        have this : ¬ (Int32.ofNat xs.length).toInt < (Int32.ofNat cap).toInt := fun z => q2 (Int32.lt_iff_toInt_lt.mpr z)
        rw [hic, hin] at this; omega
      have hcap : bo_cap L cap xs.length = min L (cap * 2) := if_pos ⟨hlt, hge⟩
      refine lv_aload_n hx hb (by decide +kernel : decode (bo_cc mX4_add) 25 = .ok (.aload_n 0, 1)) rfl (lv_at g2 0 rfl) ?_
      refine lv_aload_n hx hb (by decide +kernel : decode (bo_cc mX4_add) 26 = .ok (.aload_n 0, 1)) rfl (lv_at g2 0 rfl) ?_
      refine bp_gf C (bo_fko 4 13 (4, 1) rfl) (by decide +kernel : decode (bo_cc mX4_add) 27 = .ok (.getfield 13, 3)) h1.1 hobj rfl ?_
      refine lv_aload_n hx hb (by decide +kernel : decode (bo_cc mX4_add) 30 = .ok (.aload_n 0, 1)) rfl (lv_at g2 0 rfl) ?_
      refine bp_gf C (bo_fko 4 7 (4, 0) rfl) (by decide +kernel : decode (bo_cc mX4_add) 31 = .ok (.getfield 7, 3)) h1.1 hobj rfl ?_
      refine lv_aload_n hx hb (by decide +kernel : decode (bo_cc mX4_add) 34 = .ok (.aload_n 0, 1)) rfl (lv_at g2 0 rfl) ?_
      refine bp_gf C (bo_fko 4 13 (4, 1) rfl) (by decide +kernel : decode (bo_cc mX4_add) 35 = .ok (.getfield 13, 3)) h1.1 hobj rfl ?_
      refine va_alen (D := X.1) (cl := bo_Cls) (ws := [(pa a, .inl (bo_cI X, cap, .inl f))]) hx hb (bo_K1 h1.1) (bo_P1 harr) 0 0 rfl rfl rfl (by decide +kernel : decode (bo_cc mX4_add) 38 = .ok (.arraylength, 1)) ?_
      refine lv_iconst (v := 2) hx hb (by decide +kernel : decode (bo_cc mX4_add) 39 = .ok (.iconst 2, 1)) (by decide) ?_
      refine lv_imul hx hb (by decide +kernel : decode (bo_cc mX4_add) 40 = .ok (.imul, 1)) ?_
      rw [show Int32.ofNat cap * 2 = Int32.ofNat (cap * 2) from pk_mul cap 2]
      refine va_mmin hx hb (hml.trans g2.1.symm) hown (hts _ bo_w_mm4) (hts _ bo_w_mms) (hts _ bo_w_mmi) (hts _ bo_w_mmc) (by omega) (by show 2 + 13 ≤ _; omega) (by omega) (by omega) (by decide +kernel : decode (bo_cc mX4_add) 41 = .ok (.invokestatic 20, 3)) ?_
      have hi2 : (Int32.ofNat (cap * 2)).toInt = ((cap * 2 : Nat) : Int) := nI_toInt (by omega)
      have hmin : (if Int32.ofNat (cap * 2) < Int32.ofNat L then Int32.ofNat (cap * 2) else Int32.ofNat L) = Int32.ofNat (min L (cap * 2)) := by
        by_cases z : Int32.ofNat (cap * 2) < Int32.ofNat L
        · rw [if_pos z]
          have := Int32.lt_iff_toInt_lt.mp z
          rw [hi2, hiL] at this
          rw [Nat.min_eq_right (by omega)]
        · rw [if_neg z]
          have this : ¬ (Int32.ofNat (cap * 2)).toInt < (Int32.ofNat L).toInt := fun y => z (Int32.lt_iff_toInt_lt.mpr y)
          rw [hi2, hiL] at this
          rw [Nat.min_eq_left (by omega)]
      rw [hmin]
      generalize hM : min L (cap * 2) = M at *
      have hMc : (Int32.ofNat M).toNatClampNeg = M := nI_clamp (by omega)
      have hMi : (Int32.ofNat M).toInt = (M : Int) := nI_toInt (by omega)
      have hfr2 : bo_uC (G.set a (cR L (bo_cap L cap xs.length) (bo_add L xs v))) - bo_uC G ≤ R.cells ∧ bo_uS (G.set a (cR L (bo_cap L cap xs.length) (bo_add L xs v))) - bo_uS G ≤ R.slots := hroom
      have hMS : M ≤ bo_uS (G.set a (cR L (bo_cap L cap xs.length) (bo_add L xs v))) - bo_uS G := by
        by_cases zz : L ≤ bo_cap L cap xs.length
        · rw [if_neg (show ¬ L ≤ cap by omega), if_pos zz] at eS; omega
        · rw [if_neg (show ¬ L ≤ cap by omega), if_neg zz] at eS; omega
      have blind : FrameBlind (bp_PcC X (pa a) cap f (Int32.ofNat M) H.size) := by
        intro aa U g mk hq
        obtain ⟨q1, q2, q3, q4, q5, q6⟩ := hq
        exact ⟨q1, q2, q3, va_K.moved (u := U) (U := U.calling g mk aa) (Vm.Alike.refl U.vm) q4, arrOfT_moved (u := U) (E := U.calling g mk aa) (Vm.Alike.refl U.vm) q5, va_RA.moved (u := U) (U := U.calling g mk aa) (Vm.Alike.refl U.vm) q6⟩
      have hgood : GoodIn bo_W bp_wC := fun w hw' => by
        have hW : w ∈ bo_W := by
          rcases List.mem_cons.mp hw' with rfl | h
          · exact bo_w_cpc
          · exact h
        exact ⟨hW, good_of_word (List.mem_filter.mp hW).2⟩
      refine va_callr (va_runS (As := [.ref (pa a), .int (Int32.ofNat M)]) (rest := [.ref (ad a)]) ⟨hx, hb, hml, hown, hts⟩ (bp_copy X l hMc (Int32.le_iff_toInt_le.mpr (by rw [hMi]; show (0 : Int) ≤ _; omega)) (by omega) (by omega) H.size) ⟨callB_of 2 hts hgood rfl rfl rfl (hts _ bo_w_cpi) (hts _ bo_w_cpl) ⟨by decide +kernel, by decide +kernel, by decide +kernel⟩ ⟨by show 1 + 1 ≤ _; omega, by show 8 + (3 + 11) + 46 * 1 ≤ _; omega⟩, hts _ bo_w_cps⟩ ⟨blind, fun U hU hW => ⟨rfl, by rw [hU], by rw [hU]; exact harr, va_K.moved hW.alike h1.1.1, arrOfT_moved hW.alike h1.1.2.1.1, h1.1.2.1.2.moved hW.alike⟩⟩ rfl rfl g2.1 rfl (lv_room (by show 1 + 0 ≤ 8; omega)) (by decide +kernel : decode (bo_cc mX4_add) 44 = .ok (.invokestatic 26, 3)) ⟨by omega, by omega⟩) (A0 := bo_Ad X) (H0 := H) ⟨Nat.le_refl _, fun _ _ _ => rfl, h4⟩ (fun q hq hz => ?_) (fun q hz => ?_) fun u ra t H2 locs2 ht hal hu hB hz1 hs1 hS2 => ?_
      · rcases hz with rfl | hz
        · exact hA2
        · exact absurd hz (by omega)
      · rcases hz with rfl | hz
        · exact hA2
        · exact Nat.le_trans h1.1.2.2.2.2.2.1 hz
      obtain ⟨rfl, b1, b2⟩ := hB
      rw [ht] at b1 b2
      have hsm : ∀ z, z < H.size → H2[z]? = H[z]? := fun z hz => by
        by_cases hzp : z = pa a
        · rw [hzp]
          have e1 : H[pa a]? = some _ := harr
          have e2 : H2[pa a]? = some _ := b1
          rw [e1, e2]
        · exact hs1 z hz (fun y => y.elim hzp (fun y => by omega))
      have hU2 : bo_U X s H2 := h1.1.kept hz1 fun z hz _ => hsm z hz
      have hra : ad a < H.size := hobj.lt
      refine bp_pf C rfl (bo_fko 4 13 (4, 1) rfl) (by decide +kernel : decode (bo_cc mX4_add) 47 = .ok (.putfield 13, 3)) hU2 (hobj.kept (hsm _ hra)) (Or.inl rfl) rfl rfl (by show 1 < 3; omega) hA1 hS2.2.2 fun H3 locs3 e1 e2 e3 e4 => ?_
      have hU3 : bo_U X s H3 := hU2.kept (by omega) fun z _ hz => e3 z fun y => hz (by rw [y]; exact hA1)
      have hne : H.size ≠ ad a := by omega
      have hAn : bo_Ad X H.size := h1.1.2.2.2.2.2.1
      refine tail H3 locs3 _ _ H.size (va_cpy f (fun _ => 0) 0 0 cap) hU3 e1 (by rw [hcap]; exact b2.kept (e3 _ hne)) hne hAn (by omega) (by omega) e4 fun H4 locs4 k1 k2 k3 k4 k5 => ?_
      rw [hcap] at k2
      refine done 90 H4 locs4 _ _ (bo_ad pa a H.size) rfl ?_ k5 (by omega) (by omega)
      rw [hcap, hadd]
      refine h1.row (q := H.size) hw (c1 := cR L M (xs ++ [v])) ⟨⟨hok.1, hok.2.1, by show (xs ++ [v]).length ≤ M; simp; omega, by show M ≤ L; omega, by show 1 ≤ M; omega⟩, ?_, hA1, by rw [bo_ad_self]; exact hAn, upd (va_cpy f (fun _ => 0) 0 0 cap) xs.length v, by rw [bo_ad_self]; exact k2, pre _ fun j hj => ?_⟩ trivial rfl hA1 (Nat.le_refl _) (by omega) (fun z hz hza => by rw [k4 z hza (by omega), e3 z hza, hsm z hz])
      · show va_at _ _ (ad a, .inr (4, [_, .ref (bo_ad pa a H.size a), .int (Int32.ofNat (xs ++ [v]).length)])) _
        rw [List.length_append, bo_ad_self]
        exact k1
      · have : va_cpy f (fun _ => 0) 0 0 cap j = f j := by
          unfold va_cpy
          rw [if_pos (by omega)]
          simp
        rw [this]
        exact hf j hj
  · have hge : L ≤ xs.length := by
      have this : ¬ (Int32.ofNat xs.length).toInt < (Int32.ofNat L).toInt := fun z => q (Int32.lt_iff_toInt_lt.mpr z)
      rw [hiL, hin] at this; omega
    have hadd : bo_add L xs v = xs := if_neg (by omega)
    have hcap : bo_cap L cap xs.length = cap := if_neg (by omega)
    refine lv_aload_n hx hb (by decide +kernel : decode (bo_cc mX4_add) 11 = .ok (.aload_n 0, 1)) rfl (lv_at g2 0 rfl) ?_
    refine done 12 H locs _ _ pa rfl ?_ h4 (by omega) (by omega)
    rw [hcap, hadd]
    exact h1.upd hw (c1 := cR L cap xs) (h1.2.1 a _ hw).1 trivial rfl hA1 (fun _ => hA2) rfl (fun _ _ _ => rfl)

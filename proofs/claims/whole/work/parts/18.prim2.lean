/-! put, init, lengthOf, copyOf, add. -/
theorem bp_setRow {G : bo_G} {a L cap : Nat} {xs ys : List Int32} (hw : G[a]? = some (cR L cap xs)) : bo_uC (G.set a (cR L cap ys)) = bo_uC G ∧ bo_uS (G.set a (cR L cap ys)) = bo_uS G := by
  have h1 := bo_sum_set (f := bo_wC) G a _ (cR L cap ys) hw
  have h2 := bo_sum_set (f := bo_wS) G a _ (cR L cap ys) hw
  unfold bo_uC bo_uS
  simp only [bo_wC, bo_wS] at h1 h2
  omega
theorem bp_put (X : bo_X) (d : Nat) {a : Nat} {i v : Int32} {L cap : Nat} {xs : List Int32} {G : bo_G} (hw : G[a]? = some (cR L cap xs)) : bo_Met X d mX4_put [.ref a, .int i, .int v] G none (G.set a (cR L cap (bo_put xs i v))) := by
  refine bo_enter moX4_put rfl fun p l e R s mm args below meth c Q ad0 C hwh hroom hret => ?_
  obtain ⟨hx, hb, hml, hown, hts, hini, hOK⟩ := id C
  intro H locs ls ad pa h1 h2 h3 h4 h5 h6 h7 h8
  obtain ⟨hok, hobj, hA1, hA2, f, harr, hf⟩ := (h1.2.1 a _ hw).1
  have hobj : va_at X.1 bo_Cls (ad a, .inr (4, [.int (Int32.ofNat L), .ref (pa a), .int (Int32.ofNat xs.length)])) H := hobj
  have harr : va_at X.1 bo_Cls (pa a, .inl (bo_cI X, cap, .inl f)) H := harr
  have hf : ∀ j, j < xs.length → f j = xs.getD j 0 := hf
  have hL : L ≤ 40000 := hok.2.1
  have hlc : xs.length ≤ cap := hok.2.2.1
  have hcl : cap ≤ L := hok.2.2.2.1
  have g2 : lv_has ls 3 [(0, .ref (ad a)), (1, .int i), (2, .int v)] := h2
  obtain ⟨eC, eS⟩ := bp_setRow (ys := bo_put xs i v) hw
  have hap : pa a ≠ ad a := h1.2.2.2.2 a a _ hw rfl (bo_lt hw)
  have hpl : (bo_put xs i v).length = xs.length := by unfold bo_put; split <;> simp
  have fin : ∀ (H1 : Heap) (locs1 : List Loc), (∀ q ∈ locs1, bo_Ad X q.base) → H1.size = H.size → (∀ q, q ≠ pa a → H1[q]? = H[q]?) → (∃ f1, va_at X.1 bo_Cls (pa a, .inl (bo_cI X, cap, .inl f1)) H1 ∧ ∀ j, j < xs.length → f1 j = (bo_put xs i v).getD j 0) → W p l e R s mm args below meth c H1 locs1 (bo_uC G - bo_uC G) (bo_uS G - bo_uS G) Q (F0 mm 28 ls []) := by
    intro H1 locs1 hl1 hz hs ⟨f1, hf1, hf2⟩
    have hk := hret 28 (.return_, 29, 0, 0) _ [] rfl rfl H1 locs1 ls ad pa (h1.upd hw (c1 := cR L cap (bo_put xs i v)) ⟨⟨hok.1, hok.2.1, by show (bo_put xs i v).length ≤ cap; rw [hpl]; exact hlc, hok.2.2.2⟩, by show va_at _ _ (ad a, .inr (4, [_, _, .int (Int32.ofNat (bo_put xs i v).length)])) _; rw [hpl]; exact hobj.kept (hs _ (Ne.symm hap)), hA1, hA2, f1, hf1, fun j hj => hf2 j (by have hj' : j < (bo_put xs i v).length := hj; rw [hpl] at hj'; exact hj')⟩ trivial rfl hA1 (fun _ => hA2) hz (fun q _ hq => hs q (hq rfl))) h2 (by show bo_rl (G.set a _).length _ _; rw [List.length_set]; exact h3) hl1 h5 (by show _ ≤ (G.set a _).length; rw [List.length_set]; exact h6) (by show _ ≤ bo_uC (G.set a _); rw [eC]; exact Nat.le_refl _) (by show _ ≤ bo_uS (G.set a _); rw [eS]; exact Nat.le_refl _)
    dsimp only at hk
    rw [eC, eS] at hk
    exact hk
  have out : bo_put xs i v = xs → W p l e R s mm args below meth c H locs (bo_uC G - bo_uC G) (bo_uS G - bo_uS G) Q (F0 mm 28 ls []) := fun hr => fin H locs h4 rfl (fun _ _ => rfl) ⟨f, harr, by rw [hr]; exact hf⟩
  show W p l e R s mm args below meth c H locs (bo_uC G - bo_uC G) (bo_uS G - bo_uS G) Q (F0 mm 0 ls [])
  refine lv_iload_n hx hb (by decide +kernel : decode (bo_cc mX4_put) 0 = .ok (.iload_n 1, 1)) rfl (lv_at g2 1 rfl) ?_
  refine lv_if_lt (tgt := 28) hx hb (by decide +kernel : decode (bo_cc mX4_put) 1 = .ok (.ifCond .lt 27, 3)) (by decide) (fun q => out (if_neg (fun z => absurd q (Int32.not_lt.mpr z)))) (fun q => ?_)
  refine lv_iload_n hx hb (by decide +kernel : decode (bo_cc mX4_put) 4 = .ok (.iload_n 1, 1)) rfl (lv_at g2 1 rfl) ?_
  refine lv_aload_n hx hb (by decide +kernel : decode (bo_cc mX4_put) 5 = .ok (.aload_n 0, 1)) rfl (lv_at g2 0 rfl) ?_
  refine bp_gf C (bo_fko 4 17 (4, 2) rfl) (by decide +kernel : decode (bo_cc mX4_put) 6 = .ok (.getfield 17, 3)) h1.1 hobj rfl ?_
  refine lv_icmp_ge (tgt := 28) hx hb (by decide +kernel : decode (bo_cc mX4_put) 9 = .ok (.if_icmp .ge 19, 3)) (by decide) (fun q2 => out ?_) (fun q2 => ?_)
  · obtain ⟨z1, z2⟩ := bp_ge (by omega) q2
    unfold bo_put
    rw [if_pos z1]
    exact List.set_eq_of_length_le z2
  obtain ⟨z1, z2⟩ := bp_lt (by omega) q q2
  refine lv_iload_n hx hb (by decide +kernel : decode (bo_cc mX4_put) 12 = .ok (.iload_n 1, 1)) rfl (lv_at g2 1 rfl) ?_
  refine lv_aload_n hx hb (by decide +kernel : decode (bo_cc mX4_put) 13 = .ok (.aload_n 0, 1)) rfl (lv_at g2 0 rfl) ?_
  refine bp_gf C (bo_fko 4 13 (4, 1) rfl) (by decide +kernel : decode (bo_cc mX4_put) 14 = .ok (.getfield 13, 3)) h1.1 hobj rfl ?_
  refine va_alen (D := X.1) (cl := bo_Cls) (ws := [(pa a, .inl (bo_cI X, cap, .inl f))]) hx hb (bo_K1 h1.1) (bo_P1 harr) 0 0 rfl rfl rfl (by decide +kernel : decode (bo_cc mX4_put) 17 = .ok (.arraylength, 1)) ?_
  refine lv_icmp_ge (tgt := 28) hx hb (by decide +kernel : decode (bo_cc mX4_put) 18 = .ok (.if_icmp .ge 10, 3)) (by decide) (fun q3 => ?_) (fun q3 => ?_)
  · have := (bp_ge (n := cap) (by omega) q3).2
    omega
  refine lv_aload_n hx hb (by decide +kernel : decode (bo_cc mX4_put) 21 = .ok (.aload_n 0, 1)) rfl (lv_at g2 0 rfl) ?_
  refine bp_gf C (bo_fko 4 13 (4, 1) rfl) (by decide +kernel : decode (bo_cc mX4_put) 22 = .ok (.getfield 13, 3)) h1.1 hobj rfl ?_
  refine lv_iload_n hx hb (by decide +kernel : decode (bo_cc mX4_put) 25 = .ok (.iload_n 1, 1)) rfl (lv_at g2 1 rfl) ?_
  refine lv_iload_n hx hb (by decide +kernel : decode (bo_cc mX4_put) 26 = .ok (.iload_n 2, 1)) rfl (lv_at g2 2 rfl) ?_
  refine br_iast (A := bo_Ad X) hx hb h1.1.2.1.1 harr (bo_vpin ⟨z1, by omega⟩) hA2 h4 (by decide +kernel : decode (bo_cc mX4_put) 27 = .ok (.iastore, 1)) fun H1 locs1 e1 e2 e3 e4 => ?_
  refine fin H1 locs1 e4 e2 e3 ⟨_, e1, fun j hj => ?_⟩
  unfold bo_put
  rw [if_pos z1, List.getD_eq_getElem?_getD, List.getElem?_set]
  by_cases hji : i.toNatClampNeg = j
  · subst hji
    rw [if_pos rfl, if_pos z2]
    simp [upd]
  · rw [if_neg hji]
    have : upd f i.toNatClampNeg v j = f j := if_neg (fun z => hji z.symm)
    rw [this, hf j hj, List.getD_eq_getElem?_getD]
theorem bp_init (X : bo_X) (d : Nat) {a : Nat} {n : Int32} {G : bo_G} (hw : G[a]? = some (cO 4 (bo_df 4))) (hn1 : 1 ≤ n) (hn2 : n ≤ 40000) : bo_Met X (d + 1) mX4_init [.ref a, .int n] G none (G.set a (cR n.toNatClampNeg (min n.toNatClampNeg 16) [])) := by
  refine bo_enter moX4_init rfl fun p l e R s mm args below meth c Q ad0 C hwh hroom hret => ?_
  obtain ⟨hx, hb, hml, hown, hts, hini, hOK⟩ := id C
  obtain ⟨hfr, hlo⟩ := hwh
  intro H locs ls ad pa h1 h2 h3 h4 h5 h6 h7 h8
  obtain ⟨hobj, hA1⟩ := (h1.2.1 a _ hw).1
  have hobj : va_at X.1 bo_Cls (ad a, .inr (4, [.int 0, .null, .int 0])) H := hobj
  have g2 : lv_has ls 2 [(0, .ref (ad a)), (1, .int n)] := h2
  have hN1 : (1 : Int) ≤ n.toInt := Int32.le_iff_toInt_le.mp hn1
  have hN2 : n.toInt ≤ 40000 := Int32.le_iff_toInt_le.mp hn2
  have hn0 : 0 ≤ n := Int32.le_iff_toInt_le.mpr (by show (0 : Int) ≤ n.toInt; omega)
  have hNn := bp_nat hn0
  generalize hK : n.toNatClampNeg = K at hNn ⊢ hret hroom
  have hcost : bo_uC (G.set a (cR K (min K 16) [])) = bo_uC G + min K 16 ∧ bo_uS (G.set a (cR K (min K 16) [])) = bo_uS G + (2 * min K 16 + (if K ≤ min K 16 then K else 0)) := by
    have t1 := bo_sum_set (f := bo_wC) G a _ (cR K (min K 16) []) hw
    have t2 := bo_sum_set (f := bo_wS) G a _ (cR K (min K 16) []) hw
    unfold bo_uC bo_uS
    simp only [bo_wC, bo_wS, bo_N] at t1 t2
    omega
  obtain ⟨eC, eS⟩ := hcost
  rw [eC, eS] at hroom
  show W p l e R s mm args below meth c H locs (bo_uC G - bo_uC G) (bo_uS G - bo_uS G) Q (F0 mm 0 ls [])
  refine lv_aload_n hx hb (by decide +kernel : decode (bo_cc mX4_init) 0 = .ok (.aload_n 0, 1)) rfl (lv_at g2 0 rfl) ?_
  refine W.objInit hx hb hown (hts _ (bo_lko 4 1 (5, mX4_size) rfl)) (hts _ bo_w_oi) (hts _ bo_w_oc) rfl (g2.1.trans hml.symm) rfl (by decide +kernel : decode (bo_cc mX4_init) 1 = .ok (.invokespecial 1, 3)) (by omega) (by show 2 * 0 + 0 + 12 ≤ _; omega) ?_
  refine W.eq (g2 := F0 mm 4 ls []) rfl ?_
  refine lv_aload_n hx hb (by decide +kernel : decode (bo_cc mX4_init) 4 = .ok (.aload_n 0, 1)) rfl (lv_at g2 0 rfl) ?_
  refine lv_iload_n hx hb (by decide +kernel : decode (bo_cc mX4_init) 5 = .ok (.iload_n 1, 1)) rfl (lv_at g2 1 rfl) ?_
  refine bp_pf C rfl (bo_fko 4 7 (4, 0) rfl) (by decide +kernel : decode (bo_cc mX4_init) 6 = .ok (.putfield 7, 3)) h1.1 hobj (Or.inr rfl) rfl rfl (by decide) hA1 h4 fun H1 locs1 e1 e2 e3 e4 => ?_
  have hU1 : bo_U X s H1 := h1.1.kept (by omega) fun q _ hq => e3 q fun z => hq (by rw [z]; exact hA1)
  refine lv_aload_n hx hb (by decide +kernel : decode (bo_cc mX4_init) 9 = .ok (.aload_n 0, 1)) rfl (lv_at g2 0 rfl) ?_
  have mk : ∀ k : Int32, k.toNatClampNeg = min K 16 → 0 ≤ k → W p l e R s mm args below meth c H1 locs1 (bo_uC G - bo_uC G) (bo_uS G - bo_uS G) Q (F0 mm 26 ls [.int k, .ref (ad a)]) := by
    intro k hk hk0
    refine br_newa (D := X.1) (cl := bo_Cls) hx hb (hts _ bo_w_arr) hU1.2.1.2 (Int32.not_lt.mpr hk0) (by omega) (by omega) (by rw [hk]; omega) (by decide +kernel : decode (bo_cc mX4_init) 26 = .ok (.newarray .int, 2)) fun H2 f1 f2 f3 => ?_
    rw [hk] at f1 ⊢
    have hU2 : bo_U X s H2 := hU1.kept (by omega) fun q hq _ => f3 q hq
    have hlt : ad a < H1.size := e1.lt
    refine bp_pf C rfl (bo_fko 4 13 (4, 1) rfl) (by decide +kernel : decode (bo_cc mX4_init) 28 = .ok (.putfield 13, 3)) hU2 (e1.kept (f3 _ hlt)) (Or.inl rfl) rfl rfl (by show 1 < 3; omega) hA1 e4 fun H3 locs3 g1' g2' g3' g4' => ?_
    have hU3 : bo_U X s H3 := hU2.kept (by omega) fun q _ hq => g3' q fun z => hq (by rw [z]; exact hA1)
    refine lv_aload_n hx hb (by decide +kernel : decode (bo_cc mX4_init) 31 = .ok (.aload_n 0, 1)) rfl (lv_at g2 0 rfl) ?_
    refine lv_iconst (v := 0) hx hb (by decide +kernel : decode (bo_cc mX4_init) 32 = .ok (.iconst 0, 1)) (by decide) ?_
    refine bp_pf C rfl (bo_fko 4 17 (4, 2) rfl) (by decide +kernel : decode (bo_cc mX4_init) 33 = .ok (.putfield 17, 3)) hU3 g1' (Or.inl rfl) rfl rfl (by show 2 < 3; omega) hA1 g4' fun H4 locs4 k1 k2 k3 k4 => ?_
    refine W.widen (k := bo_uC (G.set a (cR K (min K 16) [])) - bo_uC G) (n := bo_uS (G.set a (cR K (min K 16) [])) - bo_uS G) (by omega) (by omega) ?_
    have hne : H1.size ≠ ad a := by omega
    have hsame : ∀ z, z < H.size → z ≠ ad a → H4[z]? = H[z]? := fun z hz hza => by
      rw [k3 z hza, g3' z hza, f3 z (by omega), e3 z hza]
    have hbase : bo_Ad X H1.size := by have := hU1.2.2.2.2.2.1; exact this
    have hk1 : n = Int32.ofNat K := by
      apply Int32.toInt_inj.mp
      rw [hNn]
      exact (nI_toInt (by omega)).symm
    have hrel := h1.row (q := H1.size) hw (c1 := cR K (min K 16) []) ⟨⟨by show 1 ≤ K; omega, by show K ≤ 40000; omega, Nat.zero_le _, by show min K 16 ≤ K; omega, by show 1 ≤ min K 16; omega⟩, by
        show va_at _ _ (ad a, .inr (4, [.int (Int32.ofNat K), .ref (bo_ad pa a H1.size a), .int (Int32.ofNat 0)])) _
        rw [bo_ad_self, ← hk1]
        exact k1, hA1, by rw [bo_ad_self]; exact hbase, fun _ => 0, by
        rw [bo_ad_self]
        exact (f1.kept ((k3 _ hne).trans (g3' _ hne))), fun j hj => by cases hj⟩ trivial rfl hA1 (by omega) (by omega) hsame
    have hk := hret 36 (.return_, 37, 0, 0) _ [] rfl rfl H4 locs4 ls ad _ hrel h2 (by show bo_rl (G.set a _).length _ _; rw [List.length_set]; exact h3) k4 h5 (by show _ ≤ (G.set a _).length; rw [List.length_set]; exact h6) (by show _ ≤ bo_uC (G.set a _); omega) (by show _ ≤ bo_uS (G.set a _); omega)
    exact hk
  have hb16 : W p l e R s mm args below meth c H1 locs1 (bo_uC G - bo_uC G) (bo_uS G - bo_uS G) Q (F0 mm 26 ls [.int 16, .ref (ad a)]) → W p l e R s mm args below meth c H1 locs1 (bo_uC G - bo_uC G) (bo_uS G - bo_uS G) Q (F0 mm 24 ls [.ref (ad a)]) := fun k => lv_bipush hx hb (by decide +kernel : decode (bo_cc mX4_init) 24 = .ok (.bipush 16, 2)) rfl k
  refine lv_iload_n hx hb (by decide +kernel : decode (bo_cc mX4_init) 10 = .ok (.iload_n 1, 1)) rfl (lv_at g2 1 rfl) ?_
  refine lv_if_le (tgt := 24) hx hb (by decide +kernel : decode (bo_cc mX4_init) 11 = .ok (.ifCond .le 13, 3)) (by decide) (fun q => ?_) (fun q => ?_)
  · have : n.toInt ≤ 0 := Int32.le_iff_toInt_le.mp q
    omega
  refine lv_iload_n hx hb (by decide +kernel : decode (bo_cc mX4_init) 14 = .ok (.iload_n 1, 1)) rfl (lv_at g2 1 rfl) ?_
  refine lv_bipush (v := 16) hx hb (by decide +kernel : decode (bo_cc mX4_init) 15 = .ok (.bipush 16, 2)) rfl ?_
  refine lv_icmp_ge (tgt := 24) hx hb (by decide +kernel : decode (bo_cc mX4_init) 17 = .ok (.if_icmp .ge 7, 3)) (by decide) (fun q => hb16 (mk 16 ?_ (by decide))) (fun q => ?_)
  · have : (16 : Int) ≤ n.toInt := Int32.le_iff_toInt_le.mp q
    show 16 = min K 16
    omega
  · have : ¬ (16 : Int) ≤ n.toInt := fun z => q (Int32.le_iff_toInt_le.mpr z)
    refine lv_iload_n hx hb (by decide +kernel : decode (bo_cc mX4_init) 20 = .ok (.iload_n 1, 1)) rfl (lv_at g2 1 rfl) ?_
    refine lv_goto (tgt := 26) hx hb (by decide +kernel : decode (bo_cc mX4_init) 21 = .ok (.goto 5, 3)) (by decide) ?_
    exact mk n (by omega) hn0
theorem bp_len (X : bo_X) (d : Nat) {k : Int32} {G : bo_G} : bo_Met X d mX3_lengthOf [.int k] G (some (.int (if 0 ≤ k ∧ k < 12 then bo_LEN k.toNatClampNeg else 0))) G := by
  refine bo_enter moX3_lengthOf rfl fun p l e R s mm args below meth c Q ad0 C hwh hroom hret => ?_
  obtain ⟨hx, hb, hml, hown, hts, hini, hOK⟩ := id C
  intro H locs ls ad pa h1 h2 h3 h4 h5 h6 h7 h8
  have g2 : lv_has ls 1 [(0, .int k)] := h2
  obtain ⟨-, -, -, hZ, ⟨cell, t1, t2, t3, t4, t5, t6, t7⟩, -⟩ := h1.1
  have fin : ∀ r : Int32, (if 0 ≤ k ∧ k < 12 then bo_LEN k.toNatClampNeg else 0) = r → W p l e R s mm args below meth c H locs (bo_uC G - bo_uC G) (bo_uS G - bo_uS G) Q (F0 mm 21 ls [.int r]) := fun r hr => by
    rw [← hr]
    exact hret 21 (.ireturn, 22, 0, 0) _ [.int (if 0 ≤ k ∧ k < 12 then bo_LEN k.toNatClampNeg else 0)] rfl rfl H locs ls ad pa h1 h2 (h3.cons trivial) h4 h5 h6 h7 h8
  have out : ¬ (0 ≤ k ∧ k < 12) → W p l e R s mm args below meth c H locs (bo_uC G - bo_uC G) (bo_uS G - bo_uS G) Q (F0 mm 20 ls []) := fun hr => lv_iconst (v := 0) hx hb (by decide +kernel : decode (bo_cc mX3_lengthOf) 20 = .ok (.iconst 0, 1)) (by decide) (fin 0 (if_neg hr))
  have gets : ∀ (pc : Nat) (rest : List Value), decode (bo_cc mX3_lengthOf) pc = .ok (.getstatic 136, 3) → W p l e R s mm args below meth c H locs (bo_uC G - bo_uC G) (bo_uS G - bo_uS G) Q (F0 mm (pc + 3) ls (.ref X.2.2.2 :: rest)) → W p l e R s mm args below meth c H locs (bo_uC G - bo_uC G) (bo_uS G - bo_uS G) Q (F0 mm pc ls rest) := by
    intro pc rest hd k1
    obtain ⟨cf, kf, fi, f, aa, cl, y1, y2, y3, y4, y5, y6, y7, y8⟩ := hZ
    exact W.gets hx hb hown (hts _ bo_w_lf) y1 y2 y3 y4 y5 (fun e => by rw [e] at y6; cases y6) y7 rfl hd k1
  show W p l e R s mm args below meth c H locs (bo_uC G - bo_uC G) (bo_uS G - bo_uS G) Q (F0 mm 0 ls [])
  refine lv_iload_n hx hb (by decide +kernel : decode (bo_cc mX3_lengthOf) 0 = .ok (.iload_n 0, 1)) rfl (lv_at g2 0 rfl) ?_
  refine lv_if_lt (tgt := 20) hx hb (by decide +kernel : decode (bo_cc mX3_lengthOf) 1 = .ok (.ifCond .lt 19, 3)) (by decide) (fun q => out (fun z => absurd q (Int32.not_lt.mpr z.1))) (fun q => ?_)
  have q0 := Int32.not_lt.mp q
  refine lv_iload_n hx hb (by decide +kernel : decode (bo_cc mX3_lengthOf) 4 = .ok (.iload_n 0, 1)) rfl (lv_at g2 0 rfl) ?_
  refine gets 5 _ (by decide +kernel : decode (bo_cc mX3_lengthOf) 5 = .ok (.getstatic 136, 3)) ?_
  refine W.alen (n := 12) hx hb t1 t2 t5 rfl rfl (by decide +kernel : decode (bo_cc mX3_lengthOf) 8 = .ok (.arraylength, 1)) ?_
  refine W.eq (g2 := F0 mm 9 ls [.int 12, .int k]) rfl ?_
  refine lv_icmp_ge (tgt := 20) hx hb (by decide +kernel : decode (bo_cc mX3_lengthOf) 9 = .ok (.if_icmp .ge 11, 3)) (by decide) (fun q2 => out (fun z => absurd z.2 (Int32.not_lt.mpr q2))) (fun q2 => ?_)
  have q3 := Int32.not_le.mp q2
  refine gets 12 _ (by decide +kernel : decode (bo_cc mX3_lengthOf) 12 = .ok (.getstatic 136, 3)) ?_
  refine lv_iload_n hx hb (by decide +kernel : decode (bo_cc mX3_lengthOf) 15 = .ok (.iload_n 0, 1)) rfl (lv_at g2 0 rfl) ?_
  have hlt : k.toNatClampNeg < 12 := by
    have e1 : k.toInt < 12 := Int32.lt_iff_toInt_lt.mp q3
    have e2 := bp_nat q0
    omega
  refine W.iald (v := .int (bo_LEN k.toNatClampNeg)) hx hb t1 t2 t3 (fun z => z.elim (fun z => absurd z q) (fun z => by omega)) (t6 _ hlt) rfl rfl (by decide +kernel : decode (bo_cc mX3_lengthOf) 16 = .ok (.iaload, 1)) ?_
  refine W.eq (g2 := F0 mm 17 ls [.int (bo_LEN k.toNatClampNeg)]) rfl ?_
  refine lv_goto (tgt := 21) hx hb (by decide +kernel : decode (bo_cc mX3_lengthOf) 17 = .ok (.goto 4, 3)) (by decide) ?_
  exact fin _ (if_pos ⟨q0, q3⟩)

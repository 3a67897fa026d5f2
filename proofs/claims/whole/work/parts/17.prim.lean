/-! What Row's own methods and Roll.lengthOf are on the machine. -/
theorem bp_nat {i : Int32} (h : 0 ≤ i) : i.toInt = (i.toNatClampNeg : Int) := by
  have h0 : (0 : Int) ≤ i.toInt := Int32.le_iff_toInt_le.mp h
  show i.toInt = ((i.toInt.toNat : Nat) : Int)
  omega
theorem bp_ge {n : Nat} (hn : n < 2 ^ 31) {i : Int32} (h : Int32.ofNat n ≤ i) : 0 ≤ i ∧ n ≤ i.toNatClampNeg := by
  have h1 := Int32.le_iff_toInt_le.mp h
  have h2 : (Int32.ofNat n).toInt = (n : Int) := nI_toInt hn
  rw [h2] at h1
  have h0 : 0 ≤ i := Int32.le_iff_toInt_le.mpr (by show (0 : Int) ≤ i.toInt; omega)
  refine ⟨h0, ?_⟩
  have := bp_nat h0
  omega
theorem bp_lt {n : Nat} (hn : n < 2 ^ 31) {i : Int32} (h0 : ¬ i < 0) (h : ¬ Int32.ofNat n ≤ i) : 0 ≤ i ∧ i.toNatClampNeg < n := by
  have h0 := Int32.not_lt.mp h0
  refine ⟨h0, ?_⟩
  have h1 : ¬ (Int32.ofNat n).toInt ≤ i.toInt := fun q => h (Int32.le_iff_toInt_le.mpr q)
  have h2 : (Int32.ofNat n).toInt = (n : Int) := nI_toInt hn
  rw [h2] at h1
  have := bp_nat h0
  omega
/-- a cell becomes a Row whose ints stand in a new row, or goes over to a new one -/
theorem bo_Rel.row {X : bo_X} {ad pa : Nat → Nat} {U : State} {H H1 : Heap} {G : bo_G} {i q : Nat} {c0 c1 : bo_C} (h : bo_Rel X ad pa U H G) (hi : G[i]? = some c0) (h1 : bo_rc X ad (bo_ad pa i q) U H1 i c1) (h2 : bo_rkc G.length c1) (hr : bo_isR c1 = true) (hA : bo_Ad X (ad i)) (hq : H.size ≤ q) (hz : H.size ≤ H1.size) (hs : ∀ z, z < H.size → z ≠ ad i → H1[z]? = H[z]?) : bo_Rel X ad (bo_ad pa i q) U H1 (G.set i c1) := by
  obtain ⟨e1, e2, e3, e4, e5⟩ := h
  have hlt := bo_lt hi
  have hget : ∀ (j : Nat) (c : bo_C), (G.set i c1)[j]? = some c → (j = i ∧ c = c1) ∨ (j ≠ i ∧ G[j]? = some c) := by
    intro j c hj
    by_cases hji : j = i
    · subst hji
      rw [List.getElem?_set_self hlt] at hj
      exact Or.inl ⟨rfl, (Option.some.inj hj).symm⟩
    · rw [List.getElem?_set_ne (Ne.symm hji)] at hj
      exact Or.inr ⟨hji, hj⟩
  have hpa : ∀ j, j ≠ i → bo_ad pa i q j = pa j := fun j hj => if_neg hj
  have hpi : bo_ad pa i q i = q := if_pos rfl
  have had : ∀ j, j < G.length → ad j < H.size := fun j hj => (e2 j _ (List.getElem?_eq_getElem hj)).1.lt
  refine ⟨e1.kept hz (fun a ha hn => hs a ha (fun z => hn (by rw [z]; exact hA))), ?_, ?_, ?_, ?_⟩
  · intro j c hj
    rw [List.length_set]
    rcases hget j c hj with ⟨rfl, rfl⟩ | ⟨hne, hj'⟩
    · exact ⟨h1, h2⟩
    · have k1 := (e2 j c hj').1
      have k2 : bo_rc X ad (bo_ad pa i q) U H j c := k1.named (e2 j c hj').2 (bo_lt hj') (fun _ _ => rfl) (fun _ => hpa j hne)
      refine ⟨k2.kept (hs _ k1.lt (fun z => hne (e3 j i (bo_lt hj') hlt z))) (fun hc => ?_), (e2 j c hj').2⟩
      rw [hpa j hne]
      exact hs _ (k1.ltp hc) (fun z => e5 j i c hj' hc hlt z)
  · intro j k hj hk
    rw [List.length_set] at hj hk
    exact e3 j k hj hk
  · intro j k c d hj hk hc hd hjk
    rcases hget j c hj with ⟨rfl, rfl⟩ | ⟨hne, hj'⟩ <;> rcases hget k d hk with ⟨rfl, rfl⟩ | ⟨hne2, hk'⟩
    · rfl
    · rw [hpi, hpa k hne2] at hjk
      have := (e2 k d hk').1.ltp hd
      omega
    · rw [hpi, hpa j hne] at hjk
      have := (e2 j c hj').1.ltp hc
      omega
    · rw [hpa j hne, hpa k hne2] at hjk
      exact e4 j k c d hj' hk' hc hd hjk
  · intro j k c hj hc hk hjk
    rw [List.length_set] at hk
    rcases hget j c hj with ⟨rfl, rfl⟩ | ⟨hne, hj'⟩
    · rw [hpi] at hjk
      have := had k hk
      omega
    · rw [hpa j hne] at hjk
      exact e5 j k c hj' hc hk hjk
section BP
variable {p : Program} {l : Launch} {e : Env} {R : Room} {s : State} {mm : MethodId} {args : Array Value} {below : List Frame} {meth : Method} {c : Code} {Q : State → Prop} {H : Heap} {locs : List Loc} {ls : Array Slot} {cells slots : Nat} {rest : List Value}
variable {X : bo_X} {m : bo_M}
theorem bp_gf {pc k : Nat} {ck : Nat × Nat} (C : bo_Cx p s mm args meth c m) (hf : bo_Fk (bo_o m) k ck) (hd : decode (bo_cc m) pc = .ok (.getfield k, 3)) (hU : bo_U X s H) {aa : Nat} {fs : List Value} {v : Value} (hat : va_at X.1 bo_Cls (aa, .inr (ck.1, fs)) H) (hv : fs[ck.2]? = some v) (k1 : W p l e R s mm args below meth c H locs cells slots Q (F0 mm (pc + 3) ls (v :: rest))) : W p l e R s mm args below meth c H locs cells slots Q (F0 mm pc ls (.ref aa :: rest)) := by
  obtain ⟨hx, hb, hml, hown, hts, hini, hOK⟩ := C
  obtain ⟨⟨hc12, hkN⟩, hlink⟩ := hf
  have hsame : ∀ x, s.fieldFound? (bo_T ck.1 ck.2).1 (bo_T ck.1 ck.2).2.1 (bo_T ck.1 ck.2).2.2.1 = some x → s.fieldFound? (bo_R ck.1) (bo_T ck.1 ck.2).2.1 (bo_T ck.1 ck.2).2.2.1 = some x := fun x hx => by rw [← bo_decl ck.1 hc12 ck.2 hkN]; exact hx
  rcases hlink with hl | ⟨-, hl⟩
  · exact va_get (D := X.1) (cl := bo_Cls) (tys := []) (ws := [(aa, .inr (ck.1, fs))]) hx hb hts (bo_lay ck.1 hc12) hown hU.1 (bo_P1 hat) 0 rfl (bo_clok ck.1 hc12) ck.2 hkN (hts _ hl) hsame hv hd k1
  · exact va_getN (D := X.1) (cl := bo_Cls) (tys := []) (ws := [(aa, .inr (ck.1, fs))]) hx hb hts (bo_lay ck.1 hc12) hown hU.1 (bo_P1 hat) 0 rfl (bo_clok ck.1 hc12) ck.2 hkN (va_Nw.use rfl (hU.2.2.2.2.2.2.1 _ hl)) hsame hv hd k1
/-- a field of a Row is written -/
theorem bp_pf {pc k : Nat} {ck : Nat × Nat} (C : bo_Cx p s mm args meth c m) (ho : bo_o m = ck.1) (hf : bo_Fk (bo_o m) k ck) (hd : decode (bo_cc m) pc = .ok (.putfield k, 3)) (hU : bo_U X s H) {aa : Nat} {fs : List Value} {v : Value} (hat : va_at X.1 bo_Cls (aa, .inr (ck.1, fs)) H) (hfin : (bo_T ck.1 ck.2).2.2.2 = false ∨ bo_in m = true) (hn : narrow (bo_ty ck.1 ck.2) v = v) (hfit : fits (bo_ty ck.1 ck.2) v = true) (hl : ck.2 < fs.length) (hA : bo_Ad X aa) (hloc : ∀ q ∈ locs, bo_Ad X q.base)
    (kk : ∀ (H1 : Heap) (locs1 : List Loc), va_at X.1 bo_Cls (aa, .inr (ck.1, fs.set ck.2 v)) H1 → H1.size = H.size → (∀ q, q ≠ aa → H1[q]? = H[q]?) → (∀ q ∈ locs1, bo_Ad X q.base) → W p l e R s mm args below meth c H1 locs1 cells slots Q (F0 mm (pc + 3) ls rest)) : W p l e R s mm args below meth c H locs cells slots Q (F0 mm pc ls (v :: .ref aa :: rest)) := by
  obtain ⟨hx, hb, hml, hown, hts, hini, hOK⟩ := C
  obtain ⟨⟨hc12, hkN⟩, hlink⟩ := hf
  have hsame : ∀ x, s.fieldFound? (bo_T ck.1 ck.2).1 (bo_T ck.1 ck.2).2.1 (bo_T ck.1 ck.2).2.2.1 = some x → s.fieldFound? (bo_R ck.1) (bo_T ck.1 ck.2).2.1 (bo_T ck.1 ck.2).2.2.1 = some x := fun x hx => by rw [← bo_decl ck.1 hc12 ck.2 hkN]; exact hx
  have hlk := hlink.resolve_right (fun q => by have := q.1; rw [ho] at this; simp at this)
  exact br_put (A := bo_Ad X) (ci := ck.1) (C := bo_R ck.1) (T := bo_T ck.1) (N := bo_N ck.1) hx hb hts (bo_lay ck.1 hc12) (bo_ty ck.1) (bo_tyok ck.1 hc12) (bo_nmok ck.1 hc12) hown hU.1 hat (bo_clok ck.1 hc12) ck.2 hkN (hts _ hlk) hsame (hfin.imp id fun z => ⟨hini z, by rw [ho]; exact bo_decl ck.1 hc12 ck.2 hkN⟩) hn hfit hl hA hloc hd kk
end BP
theorem bp_at (X : bo_X) (d : Nat) {a : Nat} {i : Int32} {L cap : Nat} {xs : List Int32} {G : bo_G} (hw : G[a]? = some (cR L cap xs)) : bo_Met X d mX4_at [.ref a, .int i] G (some (.int (bo_at xs i))) G := by
  refine bo_enter moX4_at rfl fun p l e R s mm args below meth c Q ad0 C hwh hroom hret => ?_
  obtain ⟨hx, hb, hml, hown, hts, hini, hOK⟩ := id C
  intro H locs ls ad pa h1 h2 h3 h4 h5 h6 h7 h8
  obtain ⟨hok, hobj, hA1, hA2, f, harr, hf⟩ := (h1.2.1 a _ hw).1
  have hobj : va_at X.1 bo_Cls (ad a, .inr (4, [.int (Int32.ofNat L), .ref (pa a), .int (Int32.ofNat xs.length)])) H := hobj
  have harr : va_at X.1 bo_Cls (pa a, .inl (bo_cI X, cap, .inl f)) H := harr
  have hf : ∀ j, j < xs.length → f j = xs.getD j 0 := hf
  have hL : L ≤ 40000 := hok.2.1
  have hlc : xs.length ≤ cap := hok.2.2.1
  have hcl : cap ≤ L := hok.2.2.2.1
  have g2 : lv_has ls 2 [(0, .ref (ad a)), (1, .int i)] := h2
  have fin : ∀ r : Int32, bo_at xs i = r → W p l e R s mm args below meth c H locs (bo_uC G - bo_uC G) (bo_uS G - bo_uS G) Q (F0 mm 31 ls [.int r]) := fun r hr => by
    subst hr
    exact hret 31 (.ireturn, 32, 0, 0) _ [.int (bo_at xs i)] rfl rfl H locs ls ad pa h1 h2 (h3.cons trivial) h4 h5 h6 h7 h8
  have out : bo_at xs i = 0 → W p l e R s mm args below meth c H locs (bo_uC G - bo_uC G) (bo_uS G - bo_uS G) Q (F0 mm 30 ls []) := fun hr => lv_iconst (v := 0) hx hb (by decide +kernel : decode (bo_cc mX4_at) 30 = .ok (.iconst 0, 1)) (by decide) (fin 0 hr)
  show W p l e R s mm args below meth c H locs (bo_uC G - bo_uC G) (bo_uS G - bo_uS G) Q (F0 mm 0 ls [])
  refine lv_iload_n hx hb (by decide +kernel : decode (bo_cc mX4_at) 0 = .ok (.iload_n 1, 1)) rfl (lv_at g2 1 rfl) ?_
  refine lv_if_lt (tgt := 30) hx hb (by decide +kernel : decode (bo_cc mX4_at) 1 = .ok (.ifCond .lt 29, 3)) (by decide) (fun q => out (if_neg (fun z => absurd q (Int32.not_lt.mpr z)))) (fun q => ?_)
  refine lv_iload_n hx hb (by decide +kernel : decode (bo_cc mX4_at) 4 = .ok (.iload_n 1, 1)) rfl (lv_at g2 1 rfl) ?_
  refine lv_aload_n hx hb (by decide +kernel : decode (bo_cc mX4_at) 5 = .ok (.aload_n 0, 1)) rfl (lv_at g2 0 rfl) ?_
  refine bp_gf C (bo_fko 4 17 (4, 2) rfl) (by decide +kernel : decode (bo_cc mX4_at) 6 = .ok (.getfield 17, 3)) h1.1 hobj rfl ?_
  refine lv_icmp_ge (tgt := 30) hx hb (by decide +kernel : decode (bo_cc mX4_at) 9 = .ok (.if_icmp .ge 21, 3)) (by decide) (fun q2 => out ?_) (fun q2 => ?_)
  · obtain ⟨z1, z2⟩ := bp_ge (by omega) q2
    unfold bo_at
    rw [if_pos z1, List.getD_eq_getElem?_getD, List.getElem?_eq_none z2]
    rfl
  obtain ⟨z1, z2⟩ := bp_lt (by omega) q q2
  refine lv_iload_n hx hb (by decide +kernel : decode (bo_cc mX4_at) 12 = .ok (.iload_n 1, 1)) rfl (lv_at g2 1 rfl) ?_
  refine lv_aload_n hx hb (by decide +kernel : decode (bo_cc mX4_at) 13 = .ok (.aload_n 0, 1)) rfl (lv_at g2 0 rfl) ?_
  refine bp_gf C (bo_fko 4 13 (4, 1) rfl) (by decide +kernel : decode (bo_cc mX4_at) 14 = .ok (.getfield 13, 3)) h1.1 hobj rfl ?_
  refine va_alen (D := X.1) (cl := bo_Cls) (ws := [(pa a, .inl (bo_cI X, cap, .inl f))]) hx hb (bo_K1 h1.1) (bo_P1 harr) 0 0 rfl rfl rfl (by decide +kernel : decode (bo_cc mX4_at) 17 = .ok (.arraylength, 1)) ?_
  refine lv_icmp_ge (tgt := 30) hx hb (by decide +kernel : decode (bo_cc mX4_at) 18 = .ok (.if_icmp .ge 12, 3)) (by decide) (fun q3 => ?_) (fun q3 => ?_)
  · have := (bp_ge (n := cap) (by omega) q3).2
    omega
  refine lv_aload_n hx hb (by decide +kernel : decode (bo_cc mX4_at) 21 = .ok (.aload_n 0, 1)) rfl (lv_at g2 0 rfl) ?_
  refine bp_gf C (bo_fko 4 13 (4, 1) rfl) (by decide +kernel : decode (bo_cc mX4_at) 22 = .ok (.getfield 13, 3)) h1.1 hobj rfl ?_
  refine lv_iload_n hx hb (by decide +kernel : decode (bo_cc mX4_at) 25 = .ok (.iload_n 1, 1)) rfl (lv_at g2 1 rfl) ?_
  refine va_iald (D := X.1) (cl := bo_Cls) (ws := [(pa a, .inl (bo_cI X, cap, .inl f))]) hx hb (bo_K1 h1.1) (bo_P1 harr) 0 0 rfl rfl (bo_vpin ⟨z1, by omega⟩) (by decide +kernel : decode (bo_cc mX4_at) 26 = .ok (.iaload, 1)) ?_
  refine lv_goto (tgt := 31) hx hb (by decide +kernel : decode (bo_cc mX4_at) 27 = .ok (.goto 4, 3)) (by decide) ?_
  refine fin _ ?_
  unfold bo_at
  rw [if_pos z1]
  exact (hf _ z2).symm

/-! The class's own queries. -/
abbrev mainC (b : Nat) (st rs : Int32) : bo_C := cO 10 [.ref b, .ref (9 - b), .ref 12, .ref 358, .ref 360, .ref 361, .ref 363, .int st, .int rs]
def BQ (G : bo_G) (b : Nat) (us : List Nat) (lg : Nat → Int32) (E : Nat) (ke : Int32) : Prop := (b = 2 ∨ b = 7) ∧ (∃ st rs, G[1]? = some (mainC b st rs)) ∧ CR G b us lg E ke ∧ WF lg E ∧ VI G
abbrev inP (lg : Nat → Int32) (E : Nat) (v x y : Int32) : Prop := (0 ≤ v.toInt ∧ v.toInt < (vsl lg E).length) ∧ (0 ≤ x.toInt ∧ x.toInt ≤ 40000) ∧ (0 ≤ y.toInt ∧ y.toInt ≤ 40000)
section BQs
variable {d b : Nat} {G G1 : bo_G} {Q : Option Value → bo_G → Prop} {us : List Nat} {lg : Nat → Int32} {E : Nat} {ke : Int32} {v p s w x y : Int32}
theorem VI.g12 (h : VI G) : ∃ fs, G[12]? = some (cO 9 fs) := by
  obtain ⟨pc, ro, ve, kn, th, sf, mk, st, ss, ds, ps, bu, ow, so, sd, td, md, tm, gs, ys, os, h0, -⟩ := h
  exact ⟨_, h0⟩
theorem BQ.E6 (h : BQ G b us lg E ke) : E ≤ 6000 := by
  have hW := h.2.2.2.1
  have := acl_osl (lg := lg) (E := E)
  have := hW.2.2.1
  have := hW.2.2.2
  omega
theorem BQ.vl (h : BQ G b us lg E ke) : (vsl lg E).length ≤ 30 := h.2.2.2.1.2.1
theorem BQ.fw (h : BQ G b us lg E ke) (F : FW G G1) (hI : VI G1) : BQ G1 b us lg E ke := by
  obtain ⟨h1, ⟨st, rs, h2⟩, h3, h4, -⟩ := h
  exact ⟨h1, ⟨st, rs, by rw [F.2 1 (by omega)]; exact h2⟩, h3.fw h1 F, h4, hI⟩
theorem q_asked (h : BQ G b us lg E ke) (k : ∀ (P : Prop) (_ : Decidable P), (P ↔ inP lg E v x y) → Q (some (.int (bo_b P))) G) : Cx (d + 1) mX10_asked [.ref 1, .int v, .int x, .int y] G Q := by
  obtain ⟨hb, ⟨st, rs, g1⟩, C, hW, -⟩ := h
  have r0 := C.1.1
  have hvl := hW.2.1
  have e0 : (nI (vsl lg E).length - 1).toInt = ((vsl lg E).length : Int) - 1 := n_m1 (by omega)
  have kn : ¬ inP lg E v x y → Q (some (.int 0)) G := fun hno => by
    have := k (inP lg E v x y) inferInstance Iff.rfl
    rw [bo_b_f hno] at this
    exact this
  refine Cx.body rfl rfl ?_
  (repeat (first | refine Ex.go rfl rfl ?_ | refine Ex.gf rfl rfl (by assumption) (by rfl) (by first | rfl | assumption) ?_))
  refine Ex.cv0 rfl rfl rfl r0 (by rfl) (by decide) rfl ?_
  refine c_vesselCount C ?_
  (repeat (first | refine Ex.go rfl rfl ?_ | refine Ex.gf rfl rfl (by assumption) (by rfl) (by first | rfl | assumption) ?_))
  refine Ex.cs3 rfl rfl rfl rfl rfl rfl ?_
  refine c_withinP (lo := 0) (hi := ((vsl lg E).length : Int) - 1) rfl e0 (fun P1 d1 i1 => ?_)
  (repeat (first | refine Ex.go rfl rfl ?_ | refine Ex.gf rfl rfl (by assumption) (by rfl) (by first | rfl | assumption) ?_))
  first | (refine Ex.brz (fun c1 => ?_) (fun c1 => ?_); rotate_left) | (refine Ex.brn (fun c1 => ?_) (fun c1 => ?_); rotate_left)
  · have k := kn fun z => c1 (i1.mpr ⟨z.1.1, by have := z.1.2; omega⟩)
    (repeat (first | refine Ex.go rfl rfl ?_ | refine Ex.gf rfl rfl (by assumption) (by rfl) (by first | rfl | assumption) ?_))
    refine Ex.retz rfl rfl rfl (Or.inl rfl) ?_
    exact k
  have c1' := i1.mp c1
  (repeat (first | refine Ex.go rfl rfl ?_ | refine Ex.gf rfl rfl (by assumption) (by rfl) (by first | rfl | assumption) ?_))
  refine Ex.cs3 rfl rfl rfl rfl rfl rfl ?_
  refine c_withinP (lo := 0) (hi := 40000) rfl (by decide +kernel) (fun P2 d2 i2 => ?_)
  (repeat (first | refine Ex.go rfl rfl ?_ | refine Ex.gf rfl rfl (by assumption) (by rfl) (by first | rfl | assumption) ?_))
  first | (refine Ex.brz (fun c2 => ?_) (fun c2 => ?_); rotate_left) | (refine Ex.brn (fun c2 => ?_) (fun c2 => ?_); rotate_left)
  · have k := kn fun z => c2 (i2.mpr z.2.1)
    (repeat (first | refine Ex.go rfl rfl ?_ | refine Ex.gf rfl rfl (by assumption) (by rfl) (by first | rfl | assumption) ?_))
    refine Ex.retz rfl rfl rfl (Or.inl rfl) ?_
    exact k
  have c2' := i2.mp c2
  (repeat (first | refine Ex.go rfl rfl ?_ | refine Ex.gf rfl rfl (by assumption) (by rfl) (by first | rfl | assumption) ?_))
  refine Ex.cs3 rfl rfl rfl rfl rfl rfl ?_
  refine c_withinP (lo := 0) (hi := 40000) rfl (by decide +kernel) (fun P3 d3 i3 => ?_)
  (repeat (first | refine Ex.go rfl rfl ?_ | refine Ex.gf rfl rfl (by assumption) (by rfl) (by first | rfl | assumption) ?_))
  first | (refine Ex.brz (fun c3 => ?_) (fun c3 => ?_); rotate_left) | (refine Ex.brn (fun c3 => ?_) (fun c3 => ?_); rotate_left)
  · have k := kn fun z => c3 (i3.mpr z.2.2)
    (repeat (first | refine Ex.go rfl rfl ?_ | refine Ex.gf rfl rfl (by assumption) (by rfl) (by first | rfl | assumption) ?_))
    refine Ex.retz rfl rfl rfl (Or.inl rfl) ?_
    exact k
  have c3' := i3.mp c3
  have k := k True inferInstance ⟨fun _ => ⟨⟨c1'.1, by omega⟩, c2', c3'⟩, fun _ => trivial⟩
  rw [bo_b_t trivial] at k
  (repeat (first | refine Ex.go rfl rfl ?_ | refine Ex.gf rfl rfl (by assumption) (by rfl) (by first | rfl | assumption) ?_))
  refine Ex.retz rfl rfl rfl (Or.inr rfl) ?_
  exact k
theorem in_nat (h : BQ G b us lg E ke) (hi : inP lg E v x y) : ∃ v' : Nat, v = nI v' ∧ v.toNatClampNeg = v' ∧ v' < (vsl lg E).length ∧ v' < 2 ^ 31 := by
  obtain ⟨e1, e2, e3⟩ := nI_iof hi.1.1
  exact ⟨v.toNatClampNeg, e1, rfl, by have := hi.1.2; omega, e3⟩
theorem ask_in (h : askP lg E v x y) : inP lg E v x y := ⟨h.2.2.1, h.1, h.2.1⟩
/-- the view opened for a vessel that there is -/
theorem q_open (h : BQ G b us lg E ke) (hi : inP lg E v x y) (k0 : ¬ askP lg E v x y → ∀ G' v', v = nI v' → VN0 G' v' b y → FW G G' → Q (some (.int 0)) G') (k1 : askP lg E v x y → ∀ G' st v', v = nI v' → VO G' lg E v' b x y st → vfP lg E v' x y → FW G G' → Q (some (.int 1)) G') : Cx (d + 6) mX9_open [.ref 12, .ref b, .int v, .int x, .int y] G Q := by
  obtain ⟨v', ev, evn, hv, hv31⟩ := in_nat h hi
  have hE := h.E6
  obtain ⟨hb, hm, C, hW, hI⟩ := h
  have ea : askP lg E v x y ↔ (ent lg (vat lg E v') ≤ y ∧ dyy lg (vat lg E v') ≤ x) := by
    unfold askP
    rw [evn]
    exact ⟨fun z => z.2.2.2, fun z => ⟨hi.2.1, hi.2.2, hi.1, z⟩⟩
  rw [ev]
  refine v_open hb C hW hv hI (fun hno G' hN F => k0 (fun z => hno (ea.mp z)) G' v' ev hN F) (fun hyes G' st hO F => k1 (ea.mpr hyes) G' st v' ev hO ?_ F)
  have hask := ea.mpr hyes
  rw [ev] at hask
  exact ask_vf hW.1 hE hv31 hask
theorem q_opened (h : BQ G b us lg E ke) (k0 : ¬ askP lg E v x y → ∀ G', VI G' → FW G G' → Q (some (.int 0)) G') (k1 : askP lg E v x y → ∀ G' st v', v = nI v' → VO G' lg E v' b x y st → vfP lg E v' x y → FW G G' → Q (some (.int 1)) G') : Cx (d + 7) mX10_opened [.ref 1, .int v, .int x, .int y] G Q := by
  have hh := h
  obtain ⟨hb, ⟨st, rs, g1⟩, C, hW, hI⟩ := h
  obtain ⟨f12, g12⟩ := hI.g12
  refine Cx.body rfl rfl ?_
  (repeat (first | refine Ex.go rfl rfl ?_ | refine Ex.gf rfl rfl (by assumption) (by rfl) (by first | rfl | assumption) ?_))
  refine Ex.cv3 rfl rfl rfl g1 (by rfl) (by decide) rfl ?_
  refine q_asked hh (fun P dP iP => ?_)
  (repeat (first | refine Ex.go rfl rfl ?_ | refine Ex.gf rfl rfl (by assumption) (by rfl) (by first | rfl | assumption) ?_))
  first | (refine Ex.brz (fun c1 => ?_) (fun c1 => ?_); rotate_left) | (refine Ex.brn (fun c1 => ?_) (fun c1 => ?_); rotate_left)
  · have k := k0 (fun z => c1 (iP.mpr (ask_in z))) G hh.2.2.2.2 (FW.rfl' G)
    (repeat (first | refine Ex.go rfl rfl ?_ | refine Ex.gf rfl rfl (by assumption) (by rfl) (by first | rfl | assumption) ?_))
    refine Ex.retz rfl rfl rfl (Or.inl rfl) ?_
    exact k
  have hi := iP.mp c1
  (repeat (first | refine Ex.go rfl rfl ?_ | refine Ex.gf rfl rfl (by assumption) (by rfl) (by first | rfl | assumption) ?_))
  refine Ex.cv4 rfl rfl rfl g12 (by rfl) (by decide) rfl ?_
  refine q_open hh hi (fun hno G' v' _ hN F => ?_) (fun hyes G' st v' ev hO V F => ?_)
  · have k := k0 hno G' hN.2 F
    (repeat (first | refine Ex.go rfl rfl ?_ | refine Ex.gf rfl rfl (by assumption) (by rfl) (by first | rfl | assumption) ?_))
    try (first | refine Ex.le0 ?_ | refine Ex.ln0 ?_)
    (repeat (first | refine Ex.go rfl rfl ?_ | refine Ex.gf rfl rfl (by assumption) (by rfl) (by first | rfl | assumption) ?_))
    refine Ex.retz rfl rfl rfl (Or.inl rfl) ?_
    exact k
  · have k := k1 hyes G' st v' ev hO V F
    (repeat (first | refine Ex.go rfl rfl ?_ | refine Ex.gf rfl rfl (by assumption) (by rfl) (by first | rfl | assumption) ?_))
    try (first | refine Ex.le0 ?_ | refine Ex.ln0 ?_)
    (repeat (first | refine Ex.go rfl rfl ?_ | refine Ex.gf rfl rfl (by assumption) (by rfl) (by first | rfl | assumption) ?_))
    refine Ex.retz rfl rfl rfl (Or.inr rfl) ?_
    exact k
theorem q_partOn (h : BQ G b us lg E ke) (k0 : ¬ knP lg E v p x y → ∀ G', VI G' → FW G G' → Q (some .null) G') (k1 : knP lg E v p x y → ∀ G' st v' p', v = nI v' → p = nI p' → p.toNatClampNeg = p' → VO G' lg E v' b x y st → vfP lg E v' x y → p' < (psl lg (knC lg y E) v').length → FW G G' → Q (some (.ref (22 + 14 * p'))) G') : Cx (d + 7) mX10_partOn [.ref 1, .int v, .int p, .int x, .int y] G Q := by
  have hh := h
  obtain ⟨hb, ⟨st, rs, g1⟩, C, hW, hI⟩ := h
  obtain ⟨f12, g12⟩ := hI.g12
  refine Cx.body rfl rfl ?_
  (repeat (first | refine Ex.go rfl rfl ?_ | refine Ex.gf rfl rfl (by assumption) (by rfl) (by first | rfl | assumption) ?_))
  refine Ex.cv3 rfl rfl rfl g1 (by rfl) (by decide) rfl ?_
  refine q_asked hh (fun P dP iP => ?_)
  (repeat (first | refine Ex.go rfl rfl ?_ | refine Ex.gf rfl rfl (by assumption) (by rfl) (by first | rfl | assumption) ?_))
  first | (refine Ex.brz (fun c1 => ?_) (fun c1 => ?_); rotate_left) | (refine Ex.brn (fun c1 => ?_) (fun c1 => ?_); rotate_left)
  · have k := k0 (fun z => c1 (iP.mpr (ask_in z.1))) G hh.2.2.2.2 (FW.rfl' G)
    (repeat (first | refine Ex.go rfl rfl ?_ | refine Ex.gf rfl rfl (by assumption) (by rfl) (by first | rfl | assumption) ?_))
    refine Ex.ret rfl rfl rfl ?_
    exact k
  have hi := iP.mp c1
  (repeat (first | refine Ex.go rfl rfl ?_ | refine Ex.gf rfl rfl (by assumption) (by rfl) (by first | rfl | assumption) ?_))
  refine Ex.cv4 rfl rfl rfl g12 (by rfl) (by decide) rfl ?_
  refine q_open hh hi (fun hno G' v' _ hN F => ?_) (fun hyes G' st' v' ev hO V F => ?_)
  · have k := k0 (fun z => hno z.1) G' hN.2 F
    (repeat (first | refine Ex.go rfl rfl ?_ | refine Ex.gf rfl rfl (by assumption) (by rfl) (by first | rfl | assumption) ?_))
    try (first | refine Ex.le0 ?_ | refine Ex.ln0 ?_)
    (repeat (first | refine Ex.go rfl rfl ?_ | refine Ex.gf rfl rfl (by assumption) (by rfl) (by first | rfl | assumption) ?_))
    refine Ex.ret rfl rfl rfl ?_
    exact k
  · have g12' := hO.1.1.1
    have g1' : G'[1]? = some (mainC b st rs) := by rw [F.2 1 (by omega)]; exact g1
    have h24 := vf_24 V
    (repeat (first | refine Ex.go rfl rfl ?_ | refine Ex.gf rfl rfl (by assumption) (by rfl) (by first | rfl | assumption) ?_))
    try (first | refine Ex.le0 ?_ | refine Ex.ln0 ?_)
    (repeat (first | refine Ex.go rfl rfl ?_ | refine Ex.gf rfl rfl (by assumption) (by rfl) (by first | rfl | assumption) ?_))
    refine Ex.cv1 rfl rfl rfl g12' (by rfl) (by decide) rfl ?_
    have kni : ∀ {p' : Nat}, p = nI p' → p' ≤ 30 → (knP lg E v p x y ↔ p' < (psl lg (knC lg y E) v').length) := fun {p'} e1 e2 => by
      rw [ev, e1]
      exact kn_iff V.1 V.2.1 V.2.2.1 V.2.2.2.2.2.2.2 e2
    refine v_partAt g12' hO.1.1.2.1 rfl h24 (fun hno => ?_) (fun p' ep epn hp' => ?_)
    · have k := k0 (fun z => hno (by
        have h0 := z.2.1.1
        obtain ⟨e1, e2, e3⟩ := nI_iof h0
        have hl := psl_le V.1 V.2.1 V.2.2.1
        have evn : v.toNatClampNeg = v' := by rw [ev]; exact nI_clamp V.2.2.1
        have h2 := z.2.1.2
        rw [evn] at h2
        have h3 := (kni (p' := p.toNatClampNeg) e1 (by omega)).mp z
        exact ⟨h0, by omega⟩)) G' (hO.vi V.1 V.2.1 V.2.2.1) F
      (repeat (first | refine Ex.go rfl rfl ?_ | refine Ex.gf rfl rfl (by assumption) (by rfl) (by first | rfl | assumption) ?_))
      refine Ex.ret rfl rfl rfl ?_
      exact k
    · have k := k1 ((kni ep (by omega)).mpr hp') G' st' v' p' ev ep epn hO V hp' F
      (repeat (first | refine Ex.go rfl rfl ?_ | refine Ex.gf rfl rfl (by assumption) (by rfl) (by first | rfl | assumption) ?_))
      refine Ex.ret rfl rfl rfl ?_
      exact k
end BQs

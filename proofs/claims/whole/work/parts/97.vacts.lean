/-! The class's view: the acts are read, the first time. -/
section VA
variable {d a v n E : Nat} {G G1 : bo_G} {Q : Option Value → bo_G → Prop} {us : List Nat} {lg : Nat → Int32} {ke x y sf mk st bu ow : Int32}
theorem CR.fw (C : CR G a us lg E ke) (ha : a = 2 ∨ a = 7) (F : FW G G1) : CR G1 a us lg E ke := by
  refine ⟨C.1.of fun j h1 h2 => F.2 j (by omega), C.2.of fun u hu j h1 h2 => ?_⟩
  obtain ⟨m, hm⟩ := C.2.2.2.2.1 u hu
  exact F.2 j (by omega)
theorem acl_get (hn : n ≤ E) {i : Nat} (hi : i < n) (hc : ¬ cod lg i = 0) : (acl lg E)[(acl lg i).length]? = some i ∧ (acl lg i).length < (acl lg n).length ∧ acl lg (i + 1) = acl lg i ++ [i] := by
  have e3 : acl lg (i + 1) = acl lg i ++ [i] := by rw [acl_s, if_neg hc]
  obtain ⟨rr, hrr⟩ := sel_pre (P := fun i => !(cod lg i == 0)) (show i + 1 ≤ E by omega)
  have hrr : acl lg E = acl lg (i + 1) ++ rr := hrr
  obtain ⟨r2, hr2⟩ := sel_pre (P := fun i => !(cod lg i == 0)) (show i + 1 ≤ n by omega)
  have hr2 : acl lg n = acl lg (i + 1) ++ r2 := hr2
  refine ⟨?_, ?_, e3⟩
  · rw [hrr, e3, List.append_assoc, List.getElem?_append_right (Nat.le_refl _), Nat.sub_self]; rfl
  · rw [hr2, e3]; simp
theorem v_acts1 (ha : a = 2 ∨ a = 7) (C : CR G a us lg E ke) (hW : WF lg E) (hn : n ≤ E) (he : ∀ i, i < n → ent lg i ≤ y) (hv31 : v < 2 ^ 31) (hbu : bu = dyy lg (vat lg E v)) (k : ∀ G', V1 G' lg n v a x y sf mk bu ow → FW G G' → ∀ b, Ex (d + 5) mX9_readActs (168, [(0, .ref 12), (1, .ref a), (2, .int bu), (3, .int x), (4, .ref (a + 1)), (5, .int (nI (acl lg n).length)), (6, .int b)], [], G') Q) : ∀ (e i : Nat) (b : Int32) (G1 : bo_G), i + e = n → b = nI (acl lg i).length → V1 G1 lg i v a x y sf mk bu ow → FW G G1 → Ex (d + 5) mX9_readActs (19, [(0, .ref 12), (1, .ref a), (2, .int bu), (3, .int x), (4, .ref (a + 1)), (5, .int (nI (acl lg n).length)), (6, .int b)], [], G1) Q := by
  have hE6 : E ≤ 6000 := by have := acl_osl (lg := lg) (E := E); have := hW.2.2.1; have := hW.2.2.2; omega
  have h4 := WF_img hW
  have hal : ∀ i, (acl lg i).length ≤ i := fun i => sel_len i fun i => !(cod lg i == 0)
  intro e
  induction e with
  | zero =>
    intro i b G1 hi hb h1 F
    have hin : i = n := by omega
    rw [hin] at h1 hb
    have k := k G1 h1 F b
    subst hb
    (repeat (first | refine Ex.go rfl rfl ?_ | refine Ex.gf rfl rfl (by assumption) (by rfl) (by first | rfl | assumption) ?_))
    refine Ex.br (fun c1 => ?_) (fun c1 => ?_); rotate_left
    · exact absurd (Int32.le_refl _) c1
    (repeat (first | exact k | refine Ex.go rfl rfl ?_ | refine Ex.gf rfl rfl (by assumption) (by rfl) (by first | rfl | assumption) ?_))
  | succ e ih =>
    intro i b G1 hi hb h1 F
    by_cases hc0 : cod lg i = 0
    · have e3 : acl lg (i + 1) = acl lg i := by rw [acl_s, if_pos hc0, List.append_nil]
      exact ih (i + 1) b G1 (by omega) (by rw [e3]; exact hb) (V1_skip h1 (by rw [hc0]; decide) fun z => by have := z.1.1; rw [hc0] at this; exact absurd this (by decide)) F
    · obtain ⟨hk, hlt, e3⟩ := acl_get hn (show i < n by omega) hc0
      have hiE : i < E := by omega
      have hei := he i (by omega)
      have hwi := hW.1 i hiE
      have C1 := C.fw ha F
      have hr0 := C1.1.1
      obtain ⟨cap, hr⟩ := C1.1.2.1
      obtain ⟨st, hX, hS⟩ := id h1
      have g0 := hX.1
      have g18 := hX.2.2.2.2.1
      have := hal i
      have := hal n
      obtain ⟨c, hc12, hcc⟩ := cod_nat hwi
      have eN : nI 0 < nI 1 := by decide
      have next : ∀ G2, V1 G2 lg (i + 1) v a x y sf mk bu ow → FW G1 G2 → Ex (d + 5) mX9_readActs (162, [(0, .ref 12), (1, .ref a), (2, .int bu), (3, .int x), (4, .ref (a + 1)), (5, .int (nI (acl lg n).length)), (6, .int (nI (acl lg i).length)), (7, .int (nI (posn lg i))), (8, .int (cod lg i))], [], G2) Q := by
        intro G2 h2 F2
        have nx := ih (i + 1) (nI (acl lg i).length + 1) G2 (by omega) (by rw [e3, List.length_append]; exact nI_1 _) h2 (F.trans F2)
        (repeat (first | exact nx | refine Ex.go rfl rfl ?_ | refine Ex.gf rfl rfl (by assumption) (by rfl) (by first | rfl | assumption) ?_))
      subst hb
      (repeat (first | refine Ex.go rfl rfl ?_ | refine Ex.gf rfl rfl (by assumption) (by rfl) (by first | rfl | assumption) ?_))
      refine Ex.br (fun c1 => ?_) (fun c1 => ?_)
      · have c2 := (n_ge (a := (acl lg i).length) (b := (acl lg n).length) (by omega) (by omega)).mp c1
        omega
      (repeat (first | refine Ex.go rfl rfl ?_ | refine Ex.gf rfl rfl (by assumption) (by rfl) (by first | rfl | assumption) ?_))
      refine Ex.cv1 rfl rfl rfl hr0 (by rfl) (by decide) rfl ?_
      refine c_placeOf C1 hE6 hk ?_
      (repeat (first | refine Ex.go rfl rfl ?_ | refine Ex.gf rfl rfl (by assumption) (by rfl) (by first | rfl | assumption) ?_))
      refine Ex.cv1 rfl rfl rfl hr (by rfl) (by decide) rfl ?_
      refine Cx.ratE hr (im_c hiE h4) ?_
      (repeat (first | refine Ex.go rfl rfl ?_ | refine Ex.gf rfl rfl (by assumption) (by rfl) (by first | rfl | assumption) ?_))
      refine Ex.br (fun b11 => ?_) (fun b11 => ?_); rotate_left
      · have hc : cod lg i = 11 := Decidable.not_not.mp b11
        have hnum : nums (cod lg i) = 3 := by rw [hc]; decide
        (repeat (first | refine Ex.go rfl rfl ?_ | refine Ex.gf rfl rfl (by assumption) (by rfl) (by first | rfl | assumption) ?_))
        refine Ex.cv1 rfl rfl rfl hr (by rfl) (by decide) rfl ?_
        refine Cx.ratE hr (im_n hiE h4 (j := 0) (by omega)) ?_
        (repeat (first | refine Ex.go rfl rfl ?_ | refine Ex.gf rfl rfl (by assumption) (by rfl) (by first | rfl | assumption) ?_))
        refine Ex.cv1 rfl rfl rfl hr (by rfl) (by decide) rfl ?_
        refine Cx.ratE hr (im_n hiE h4 (j := 1) (by omega)) ?_
        (repeat (first | refine Ex.go rfl rfl ?_ | refine Ex.gf rfl rfl (by assumption) (by rfl) (by first | rfl | assumption) ?_))
        refine Ex.cv1 rfl rfl rfl hr (by rfl) (by decide) rfl ?_
        refine Cx.ratE hr (im_n hiE h4 (j := 2) (by omega)) ?_
        (repeat (first | refine Ex.go rfl rfl ?_ | refine Ex.gf rfl rfl (by assumption) (by rfl) (by first | rfl | assumption) ?_))
        refine Ex.cv3 rfl rfl rfl g18 (by rfl) (by decide) rfl ?_
        refine pw_rule hX.2.2.2.2 (fun G' hP F2 => ?_)
        have k2 := next G' (V1_11 hX hS hwi hei hc F2 hP) F2.fw2
        (repeat (first | exact k2 | refine Ex.go rfl rfl ?_ | refine Ex.gf rfl rfl (by assumption) (by rfl) (by first | rfl | assumption) ?_))
      have n11 : ¬ c = 11 := fun z => b11 (by rw [hcc, z]; rfl)
      (repeat (first | refine Ex.go rfl rfl ?_ | refine Ex.gf rfl rfl (by assumption) (by rfl) (by first | rfl | assumption) ?_))
      refine Ex.br (fun b1 => ?_) (fun b1 => ?_)
      · have hc : cod lg i = 1 := b1
        have k2 := next G1 (V1_skip h1 b11 fun z => by have := z.1.1; rw [hc] at this; exact absurd this (by decide)) (FW.rfl' G1)
        (repeat (first | exact k2 | refine Ex.go rfl rfl ?_ | refine Ex.gf rfl rfl (by assumption) (by rfl) (by first | rfl | assumption) ?_))
      have n1 : ¬ cod lg i = 1 := b1
      (repeat (first | refine Ex.go rfl rfl ?_ | refine Ex.gf rfl rfl (by assumption) (by rfl) (by first | rfl | assumption) ?_))
      refine Ex.cv1 rfl rfl rfl hr (by rfl) (by decide) rfl ?_
      refine Cx.ratE hr (im_n hiE h4 (j := 0) (nums_pos _)) ?_
      (repeat (first | refine Ex.go rfl rfl ?_ | refine Ex.gf rfl rfl (by assumption) (by rfl) (by first | rfl | assumption) ?_))
      refine Ex.br (fun b2 => ?_) (fun b2 => ?_); rotate_left
      · have n2 : ¬ num lg i 0 = nI v := b2
        have k2 := next G1 (V1_skip h1 b11 fun z => n2 z.2) (FW.rfl' G1)
        (repeat (first | exact k2 | refine Ex.go rfl rfl ?_ | refine Ex.gf rfl rfl (by assumption) (by rfl) (by first | rfl | assumption) ?_))
      have h0 : num lg i 0 = nI v := b2
      (repeat (first | refine Ex.go rfl rfl ?_ | refine Ex.gf rfl rfl (by assumption) (by rfl) (by first | rfl | assumption) ?_))
      refine Ex.br (fun b3 => ?_) (fun b3 => ?_); rotate_left
      · have hc : cod lg i = 2 := Decidable.not_not.mp b3
        (repeat (first | refine Ex.go rfl rfl ?_ | refine Ex.gf rfl rfl (by assumption) (by rfl) (by first | rfl | assumption) ?_))
        refine Ex.cv4 rfl rfl rfl g0 (by rfl) (by decide) rfl ?_
        refine v_ap2 h1 hW.1 hiE hE6 h4 hr (by omega) hv31 hbu h0 hc (fun G' hV F2 => ?_)
        have k2 := next G' hV F2
        (repeat (first | exact k2 | refine Ex.go rfl rfl ?_ | refine Ex.gf rfl rfl (by assumption) (by rfl) (by first | rfl | assumption) ?_))
      have n2 : ¬ cod lg i = 2 := b3
      (repeat (first | refine Ex.go rfl rfl ?_ | refine Ex.gf rfl rfl (by assumption) (by rfl) (by first | rfl | assumption) ?_))
      refine Ex.br (fun b4 => ?_) (fun b4 => ?_)
      · have b5 : (7 : Int) < (cod lg i).toInt := Int32.lt_iff_toInt_lt.mp b4
        rw [hcc, nI_toInt (by omega)] at b5
        (repeat (first | refine Ex.go rfl rfl ?_ | refine Ex.gf rfl rfl (by assumption) (by rfl) (by first | rfl | assumption) ?_))
        refine Ex.cv3 rfl rfl rfl g0 (by rfl) (by decide) rfl ?_
        rcases (show c = 8 ∨ c = 9 ∨ c = 10 by omega) with q | q | q
        · refine v_av8 h1 hW.1 hiE hE6 h4 hr (by omega) hv31 h0 (by rw [hcc, q]; rfl) (fun G' hV F2 => ?_)
          have k2 := next G' hV F2
          (repeat (first | exact k2 | refine Ex.go rfl rfl ?_ | refine Ex.gf rfl rfl (by assumption) (by rfl) (by first | rfl | assumption) ?_))
        · refine v_av9 h1 hW.1 hiE hE6 h4 hr (by omega) hv31 hei h0 (by rw [hcc, q]; rfl) (fun G' hV F2 => ?_)
          have k2 := next G' hV F2
          (repeat (first | exact k2 | refine Ex.go rfl rfl ?_ | refine Ex.gf rfl rfl (by assumption) (by rfl) (by first | rfl | assumption) ?_))
        · refine v_av10 h1 hW.1 hiE hE6 h4 hr (by omega) hv31 hei hbu h0 (by rw [hcc, q]; rfl) (fun G' hV F2 => ?_)
          have k2 := next G' hV F2
          (repeat (first | exact k2 | refine Ex.go rfl rfl ?_ | refine Ex.gf rfl rfl (by assumption) (by rfl) (by first | rfl | assumption) ?_))
      · have b5 : (cod lg i).toInt ≤ (7 : Int) := Int32.le_iff_toInt_le.mp (Int32.not_lt.mp b4)
        rw [hcc, nI_toInt (by omega)] at b5
        have m0 : ¬ c = 0 := fun z => hc0 (by rw [hcc, z]; rfl)
        have m1 : ¬ c = 1 := fun z => n1 (by rw [hcc, z]; rfl)
        have m2 : ¬ c = 2 := fun z => n2 (by rw [hcc, z]; rfl)
        have hc5 : cod lg i = 3 ∨ cod lg i = 4 ∨ cod lg i = 5 ∨ cod lg i = 6 ∨ cod lg i = 7 := by
          rw [hcc]
          rcases (show c = 3 ∨ c = 4 ∨ c = 5 ∨ c = 6 ∨ c = 7 by omega) with q | q | q | q | q <;> subst q
          · exact Or.inl rfl
          · exact Or.inr (Or.inl rfl)
          · exact Or.inr (Or.inr (Or.inl rfl))
          · exact Or.inr (Or.inr (Or.inr (Or.inl rfl)))
          · exact Or.inr (Or.inr (Or.inr (Or.inr rfl)))
        (repeat (first | refine Ex.go rfl rfl ?_ | refine Ex.gf rfl rfl (by assumption) (by rfl) (by first | rfl | assumption) ?_))
        refine Ex.cv4 rfl rfl rfl g0 (by rfl) (by decide) rfl ?_
        refine v_actPart h1 hW.1 hiE hE6 h4 hr (by omega) hv31 hei h0 hc5 (fun G' hV F2 => ?_)
        have k2 := next G' hV F2
        (repeat (first | exact k2 | refine Ex.go rfl rfl ?_ | refine Ex.gf rfl rfl (by assumption) (by rfl) (by first | rfl | assumption) ?_))
end VA

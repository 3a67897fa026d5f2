/-! The class's view: its cells. -/
section LIT
variable {d : Nat} {m : bo_M} {tg nx : Nat} {lv : bo_LV} {st : List Value} {G : bo_G} {Q : Option Value → bo_G → Prop}
theorem Ex.le1 (k : Ex d m (nx, lv, st, G) Q) : Ex d m (bif bo_c1 ClassFile.Cond.eq 1 then tg else nx, lv, st, G) Q := by
  have e : bo_c1 ClassFile.Cond.eq 1 = false := by decide
  rw [e]; exact k
theorem Ex.le0 (k : Ex d m (tg, lv, st, G) Q) : Ex d m (bif bo_c1 ClassFile.Cond.eq 0 then tg else nx, lv, st, G) Q := by
  have e : bo_c1 ClassFile.Cond.eq 0 = true := by decide
  rw [e]; exact k
theorem Ex.ln1 (k : Ex d m (tg, lv, st, G) Q) : Ex d m (bif bo_c1 ClassFile.Cond.ne 1 then tg else nx, lv, st, G) Q := by
  have e : bo_c1 ClassFile.Cond.ne 1 = true := by decide
  rw [e]; exact k
theorem Ex.ln0 (k : Ex d m (nx, lv, st, G) Q) : Ex d m (bif bo_c1 ClassFile.Cond.ne 0 then tg else nx, lv, st, G) Q := by
  have e : bo_c1 ClassFile.Cond.ne 0 = false := by decide
  rw [e]; exact k
end LIT
def isPv (p : Nat) (c : bo_C) : Prop := ∃ (kd sg ra sh sp we mn pa pd pt md : Int32) (pw : Int64) (gd pl : Int32), c = pvC p kd sg ra sh sp we mn pa pd pt md pw gd pl
theorem isPv_mk {p : Nat} {kd sg ra sh sp we mn pa pd pt md gd pl : Int32} {pw : Int64} : isPv p (pvC p kd sg ra sh sp we mn pa pd pt md pw gd pl) := ⟨kd, sg, ra, sh, sp, we, mn, pa, pd, pt, md, pw, gd, pl, rfl⟩
theorem isPv_I {lg : Nat → Int32} {i v p : Nat} {x y : Int32} : isPv (22 + 14 * p) (pvI lg i v p x y) := isPv_mk
def PA (G : bo_G) (n : Nat) (f : Nat → bo_C) : Prop := ∀ p, p < 24 → ∃ c S, isPv (22 + 14 * p) c ∧ PV G (22 + 14 * p) c S ∧ (p < n → c = f p)
def FW (G G' : bo_G) : Prop := G'.length = G.length ∧ ∀ j, ¬ (12 ≤ j ∧ j < 358) → G'[j]? = G[j]?
theorem FW.rfl' (G : bo_G) : FW G G := ⟨rfl, fun _ _ => rfl⟩
theorem FW.trans {G G1 G2 : bo_G} (h : FW G G1) (h2 : FW G1 G2) : FW G G2 := ⟨h2.1.trans h.1, fun j hj => (h2.2 j hj).trans (h.2 j hj)⟩
section VXs
variable {G G1 : bo_G} {n np n' a v q : Nat} {f f' : Nat → bo_C} {y sf mk st st' bu ow so sd td md tm bu' ow' so' sd' td' md' tm' : Int32} {ss ds ps gs ys os ss' ds' ps' gs' ys' os' : List Int32} {c : bo_C} {S : Nat → spT}
theorem FP.fw (h : FP (22 + 14 * q) G G1) (hq : q < 24) : FW G G1 := ⟨h.1, fun j hj => h.2 j (by omega)⟩
theorem FN.fw1 (h : FN 14 4 G G1) : FW G G1 := ⟨h.1, fun j hj => h.2 j (by omega)⟩
theorem FN.fw2 (h : FN 18 4 G G1) : FW G G1 := ⟨h.1, fun j hj => h.2 j (by omega)⟩
theorem FW.set12 : FW G (G.set 12 c) := ⟨List.length_set, fun j hj => List.getElem?_set_ne (by omega)⟩
theorem PA.of (h : PA G n f) (e : ∀ j, 22 ≤ j → j < 358 → G1[j]? = G[j]?) : PA G1 n f := by
  intro p hp
  obtain ⟨c, S, hi, hP, hc⟩ := h p hp
  exact ⟨c, S, hi, hP.of (fun j h1 h2 => e j (by omega) (by omega)) (fun _ _ => rfl), hc⟩
theorem PA.part (h : PA G n f) (hq : q < 24) (F : FP (22 + 14 * q) G G1) (hP : PV G1 (22 + 14 * q) c S) (hi : isPv (22 + 14 * q) c) (hc : q < n' → c = f' q) (hf : ∀ p, p < n' → ¬ p = q → p < n ∧ f' p = f p) : PA G1 n' f' := by
  intro p hp
  by_cases e : p = q
  · subst e
    exact ⟨c, S, hi, hP, hc⟩
  · obtain ⟨c2, S2, hi2, hP2, hc2⟩ := h p hp
    refine ⟨c2, S2, hi2, hP2.of (fun j h1 h2 => F.2 j (by omega)) (fun _ _ => rfl), fun hn => ?_⟩
    obtain ⟨h1, h2⟩ := hf p hn e
    rw [h2]
    exact hc2 h1
def VX (G : bo_G) (np a v : Nat) (y sf mk st : Int32) (f : Nat → bo_C) (ss ds ps : List Int32) (bu ow so sd td md tm : Int32) (gs ys os : List Int32) : Prop := G[12]? = some (vwC (nI np) (some a) (nI v) y 1 sf mk st) ∧ G[13]? = some (cQ 2 24 vwQ) ∧ PA G np f ∧ VW G 14 ss ds ps ∧ PW G 18 bu ow so sd td md tm gs ys os
theorem VX.set12 (h : VX G np a v y sf mk st f ss ds ps bu ow so sd td md tm gs ys os) : VX (G.set 12 (vwC (nI np) (some a) (nI v) y 1 sf mk st')) np a v y sf mk st' f ss ds ps bu ow so sd td md tm gs ys os ∧ FW G (G.set 12 (vwC (nI np) (some a) (nI v) y 1 sf mk st')) := by
  obtain ⟨h0, h1, h2, h3, h4⟩ := h
  refine ⟨⟨get_set h0, ?_, h2.of fun j _ _ => List.getElem?_set_ne (by omega), h3.of fun j _ _ => List.getElem?_set_ne (by omega), h4.of fun j _ _ => List.getElem?_set_ne (by omega)⟩, FW.set12⟩
  rw [List.getElem?_set_ne (by omega)]
  exact h1
theorem VX.part (h : VX G np a v y sf mk st f ss ds ps bu ow so sd td md tm gs ys os) (hq : q < 24) (F : FP (22 + 14 * q) G G1) (hP : PV G1 (22 + 14 * q) c S) (hi : isPv (22 + 14 * q) c) (hc : q < np → c = f' q) (hf : ∀ p, p < np → ¬ p = q → f' p = f p) : VX G1 np a v y sf mk st f' ss ds ps bu ow so sd td md tm gs ys os := by
  obtain ⟨h0, h1, h2, h3, h4⟩ := h
  exact ⟨by rw [F.2 12 (by omega)]; exact h0, by rw [F.2 13 (by omega)]; exact h1, h2.part hq F hP hi hc fun p h1 h2 => ⟨h1, hf p h1 h2⟩, h3.of fun j _ _ => F.2 j (by omega), h4.of fun j _ _ => F.2 j (by omega)⟩
theorem VX.valves (h : VX G np a v y sf mk st f ss ds ps bu ow so sd td md tm gs ys os) (F : FN 14 4 G G1) (hV : VW G1 14 ss' ds' ps') : VX G1 np a v y sf mk st f ss' ds' ps' bu ow so sd td md tm gs ys os := by
  obtain ⟨h0, h1, h2, h3, h4⟩ := h
  exact ⟨by rw [F.2 12 (by omega)]; exact h0, by rw [F.2 13 (by omega)]; exact h1, h2.of fun j _ _ => F.2 j (by omega), hV, h4.of fun j _ _ => F.2 j (by omega)⟩
theorem VX.papers (h : VX G np a v y sf mk st f ss ds ps bu ow so sd td md tm gs ys os) (F : FN 18 4 G G1) (hV : PW G1 18 bu' ow' so' sd' td' md' tm' gs' ys' os') : VX G1 np a v y sf mk st f ss ds ps bu' ow' so' sd' td' md' tm' gs' ys' os' := by
  obtain ⟨h0, h1, h2, h3, h4⟩ := h
  exact ⟨by rw [F.2 12 (by omega)]; exact h0, by rw [F.2 13 (by omega)]; exact h1, h2.of fun j _ _ => F.2 j (by omega), h3.of fun j _ _ => F.2 j (by omega), hV⟩
theorem VX.congr (h : VX G np a v y sf mk st f ss ds ps bu ow so sd td md tm gs ys os) (hf : ∀ p, p < np → f' p = f p) : VX G np a v y sf mk st f' ss ds ps bu ow so sd td md tm gs ys os := by
  obtain ⟨h0, h1, h2, h3, h4⟩ := h
  refine ⟨h0, h1, fun p hp => ?_, h3, h4⟩
  obtain ⟨c, S, hi, hP, hc⟩ := h2 p hp
  exact ⟨c, S, hi, hP, fun hn => (hc hn).trans (hf p hn).symm⟩
end VXs
section VR
variable {d r lim cap np a v : Nat} {G G1 : bo_G} {Q : Option Value → bo_G → Prop} {im : List Int32} {f f' : Nat → bo_C} {y sf mk st bu ow so sd td md tm : Int32} {ss ds ps gs ys os : List Int32}
theorem v_readPart {P act b v1 v2 v3 v4 v5 : Int32} (h : VX G np a v y sf mk st f ss ds ps bu ow so sd td md tm gs ys os) (hn : np < 24) (hr : G[r]? = some (cR lim cap im)) (hrl : r < 12) (e1 : bo_at im (P + 2) = v1) (e2 : bo_at im (P + 3) = v2) (e3 : bo_at im (P + 4) = v3) (e4 : bo_at im (P + 6) = v4) (e5 : bo_at im (P + 5) = v5) (hf : ∀ p, p < np → f' p = f p) (hf2 : f' np = pvC (22 + 14 * np) v1 v2 v3 v4 1 0 1 act b v5 (-1) 0 (-1) 0) (k : ∀ G', VX G' (np + 1) a v y sf mk st f' ss ds ps bu ow so sd td md tm gs ys os → FW G G' → Q none G') : Cx (d + 2) mX9_readPart [.ref 12, .ref r, .int P, .int act, .int b] G Q := by
  obtain ⟨c, S, ⟨kd, sg, ra, sh, sp, we, mn, pa, pd, pt, qmd, pw, gd, pl, rfl⟩, hP, -⟩ := h.2.2.1 np hn
  have h0 := h.1
  have hq := h.2.1
  refine Cx.body rfl rfl ?_
  (repeat (first | refine Ex.go rfl rfl ?_ | refine Ex.gf rfl rfl (by assumption) (by rfl) (by first | rfl | assumption) ?_))
  refine Ex.br (fun b1 => ?_) (fun b1 => ?_)
  · exact absurd b1 (nI_pos (n := np) (by omega))
  (repeat (first | refine Ex.go rfl rfl ?_ | refine Ex.gf rfl rfl (by assumption) (by rfl) (by first | rfl | assumption) ?_))
  refine Ex.alq rfl hq ?_
  (repeat (first | refine Ex.go rfl rfl ?_ | refine Ex.gf rfl rfl (by assumption) (by rfl) (by first | rfl | assumption) ?_))
  refine Ex.br (fun b2 => ?_) (fun b2 => ?_)
  · have b3 : nI 24 ≤ nI np := b2
    rw [nI_leI (by omega) (by omega)] at b3
    omega
  (repeat (first | refine Ex.go rfl rfl ?_ | refine Ex.gf rfl rfl (by assumption) (by rfl) (by first | rfl | assumption) ?_))
  refine Ex.aavw rfl rfl hq hn ?_
  (repeat (first | refine Ex.go rfl rfl ?_ | refine Ex.gf rfl rfl (by assumption) (by rfl) (by first | rfl | assumption) ?_))
  refine Ex.cv4 rfl rfl rfl hP.1 (by rfl) (by decide) rfl ?_
  refine pv_begin hP.1 hr (by omega) e1 e2 e3 e4 e5 ?_
  obtain ⟨hP2, F2⟩ := hP.setO (pvC (22 + 14 * np) v1 v2 v3 v4 1 0 1 act b v5 (-1) 0 (-1) 0)
  have hA2 : PA _ (np + 1) f' := h.2.2.1.part hn F2 hP2 isPv_mk (fun _ => hf2.symm) fun p h1 h2 => ⟨by omega, hf p (by omega)⟩
  have g0 : (G.set (22 + 14 * np) (pvC (22 + 14 * np) v1 v2 v3 v4 1 0 1 act b v5 (-1) 0 (-1) 0))[12]? = some (vwC (nI np) (some a) (nI v) y 1 sf mk st) := by rw [F2.2 12 (by omega)]; exact h0
  have h3 := h.2.2.2.1.of fun j _ _ => F2.2 j (by omega)
  have h4 := h.2.2.2.2.of fun j _ _ => F2.2 j (by omega)
  have hq2 : (G.set (22 + 14 * np) (pvC (22 + 14 * np) v1 v2 v3 v4 1 0 1 act b v5 (-1) 0 (-1) 0))[13]? = some (cQ 2 24 vwQ) := by rw [F2.2 13 (by omega)]; exact hq
  generalize G.set (22 + 14 * np) (pvC (22 + 14 * np) v1 v2 v3 v4 1 0 1 act b v5 (-1) 0 (-1) 0) = G2 at *
  have k := k (G2.set 12 (vwC (nI (np + 1)) (some a) (nI v) y 1 sf mk st)) ⟨get_set g0, by rw [List.getElem?_set_ne (by omega)]; exact hq2, hA2.of fun j _ _ => List.getElem?_set_ne (by omega), h3.of fun j _ _ => List.getElem?_set_ne (by omega), h4.of fun j _ _ => List.getElem?_set_ne (by omega)⟩ ((F2.fw hn).trans FW.set12)
  rw [← nI_1] at k
  have hA := ap1 g0
  refine Ex.lay [(12, vwC (nI np) (some a) (nI v) y 1 sf mk st)] (lay1 g0) ?_
  (repeat (first | refine Ex.go rfl rfl ?_ | refine Ex.gf rfl rfl (ov_get hA 0 rfl) (by rfl) (by rfl) ?_ | refine Ex.gf rfl rfl (ov_get hA 1 rfl) (by rfl) (by rfl) ?_ | refine Ex.gf rfl rfl (ov_get hA 2 rfl) (by rfl) (by rfl) ?_ | refine Ex.gf rfl rfl (ov_get hA 3 rfl) (by rfl) (by rfl) ?_ | refine Ex.gf rfl rfl (ov_get hA 4 rfl) (by rfl) (by rfl) ?_ | refine Ex.gf rfl rfl (ov_get hA 5 rfl) (by rfl) (by rfl) ?_ | refine Ex.gf rfl rfl (ov_get hA 6 rfl) (by rfl) (by rfl) ?_ | (refine Ex.pfo hA 0 rfl rfl rfl (by rfl) (by rfl) (by rfl) ?_; dsimp only [List.set]) | (refine Ex.pfo hA 1 rfl rfl rfl (by rfl) (by rfl) (by rfl) ?_; dsimp only [List.set]) | (refine Ex.pfo hA 2 rfl rfl rfl (by rfl) (by rfl) (by rfl) ?_; dsimp only [List.set]) | (refine Ex.pfo hA 3 rfl rfl rfl (by rfl) (by rfl) (by rfl) ?_; dsimp only [List.set]) | (refine Ex.pfo hA 4 rfl rfl rfl (by rfl) (by rfl) (by rfl) ?_; dsimp only [List.set]) | (refine Ex.pfo hA 5 rfl rfl rfl (by rfl) (by rfl) (by rfl) ?_; dsimp only [List.set]) | (refine Ex.pfo hA 6 rfl rfl rfl (by rfl) (by rfl) (by rfl) ?_; dsimp only [List.set])))
  refine Ex.ret rfl rfl rfl ?_
  exact k
end VR

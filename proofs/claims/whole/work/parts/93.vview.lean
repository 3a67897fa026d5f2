/-! The class's view of the valves and papers, as the log tells it: entry by entry. -/
def stO (lg : Nat → Int32) (i v w : Nat) (x y : Int32) : Nat := (lof lg 9 (nI v) (nI w) x y (some (wat lg i v w)) (wat lg i v w + 1) (i - (wat lg i v w + 1))).getD 0
def vsI (lg : Nat → Int32) (i v : Nat) (x y : Int32) (w : Nat) : Int32 := if dyy lg (wat lg i v w) ≤ x then setg lg i v w x y else 0
def vdI (lg : Nat → Int32) (i v : Nat) (x y : Int32) (w : Nat) : Int32 := if dyy lg (wat lg i v w) ≤ x then dyy lg (stO lg i v w x y) else -1
def vpI (lg : Nat → Int32) (i v : Nat) (x : Int32) (w : Nat) : Int32 := if dyy lg (wat lg i v w) ≤ x then num lg (wat lg i v w) 2 else 0
def ssL (lg : Nat → Int32) (i v : Nat) (x y : Int32) : List Int32 := (List.range (wsl lg i v).length).map (vsI lg i v x y)
def dsL (lg : Nat → Int32) (i v : Nat) (x y : Int32) : List Int32 := (List.range (wsl lg i v).length).map (vdI lg i v x y)
def psL (lg : Nat → Int32) (i v : Nat) (x : Int32) : List Int32 := (List.range (wsl lg i v).length).map (vpI lg i v x)
section VI
variable {lg : Nat → Int32} {i v w : Nat} {x y : Int32}
theorem ssL_len : (ssL lg i v x y).length = (wsl lg i v).length := by unfold ssL; simp
theorem dsL_len : (dsL lg i v x y).length = (wsl lg i v).length := by unfold dsL; simp
theorem psL_len : (psL lg i v x).length = (wsl lg i v).length := by unfold psL; simp
theorem rng_at {f : Nat → Int32} {n w : Nat} (h : w < n) (hn : n < 2 ^ 31) : bo_at ((List.range n).map f) (nI w) = f w := map_at (f := f) (by rw [List.getElem?_range h]) (by omega)
theorem wat_s (h : w < (wsl lg i v).length) : wat lg (i + 1) v w = wat lg i v w := (wat_pre (lg := lg) (Nat.le_succ i) h).1
theorem stO_eq : lof lg 9 (nI v) (nI w) x y (some (wat lg i v w)) (wat lg i v w + 1) (i - (wat lg i v w + 1)) = some (stO lg i v w x y) := by
  obtain ⟨j, hj⟩ := lat_some (dy := dyy lg) (P := fun k => isP lg 9 (nI v) (nI w) k ∧ stP lg x y k) (a := wat lg i v w) (f := wat lg i v w + 1) (i - (wat lg i v w + 1))
  have hj' : lof lg 9 (nI v) (nI w) x y (some (wat lg i v w)) (wat lg i v w + 1) (i - (wat lg i v w + 1)) = some j := hj
  unfold stO
  rw [hj']; rfl
theorem stO_s (hw : w < (wsl lg i v).length) : stO lg (i + 1) v w x y = if (isP lg 9 (nI v) (nI w) i ∧ stP lg x y i) ∧ dyy lg (stO lg i v w x y) ≤ dyy lg i then i else stO lg i v w x y := by
  have h2 := wat_lt hw
  have e1 := stO_eq (lg := lg) (i := i) (v := v) (w := w) (x := x) (y := y)
  have e2 : lof lg 9 (nI v) (nI w) x y (some (wat lg i v w)) (wat lg i v w + 1) (i + 1 - (wat lg i v w + 1)) = if (isP lg 9 (nI v) (nI w) i ∧ stP lg x y i) ∧ ltb (dyy lg) i (lof lg 9 (nI v) (nI w) x y (some (wat lg i v w)) (wat lg i v w + 1) (i - (wat lg i v w + 1))) = true then some i else lof lg 9 (nI v) (nI w) x y (some (wat lg i v w)) (wat lg i v w + 1) (i - (wat lg i v w + 1)) := latf_s (by omega)
  rw [e1] at e2
  have e3 : (ltb (dyy lg) i (some (stO lg i v w x y)) = true) ↔ dyy lg (stO lg i v w x y) ≤ dyy lg i := decide_eq_true_iff
  have e4 : stO lg (i + 1) v w x y = (lof lg 9 (nI v) (nI w) x y (some (wat lg i v w)) (wat lg i v w + 1) (i + 1 - (wat lg i v w + 1))).getD 0 := by
    show (lof lg 9 (nI v) (nI w) x y (some (wat lg (i + 1) v w)) (wat lg (i + 1) v w + 1) (i + 1 - (wat lg (i + 1) v w + 1))).getD 0 = _
    rw [wat_s hw]
  rw [e4, e2]
  by_cases q : (isP lg 9 (nI v) (nI w) i ∧ stP lg x y i) ∧ dyy lg (stO lg i v w x y) ≤ dyy lg i
  · rw [if_pos q, if_pos ⟨q.1, e3.mpr q.2⟩]; rfl
  · rw [if_neg q, if_neg fun z => q ⟨z.1, e3.mp z.2⟩]; rfl
theorem setg_eq : setg lg i v w x y = if stO lg i v w x y = wat lg i v w then num lg (wat lg i v w) 1 else num lg (stO lg i v w x y) 2 := by
  unfold setg
  rw [stO_eq]
  unfold stv
  by_cases q : stO lg i v w x y = wat lg i v w
  · rw [if_pos q, if_pos (by rw [q])]
  · rw [if_neg q, if_neg fun z => q (Option.some.inj z)]
theorem stO_same (hw : w < (wsl lg i v).length) (h : ¬ (isP lg 9 (nI v) (nI w) i ∧ stP lg x y i)) : stO lg (i + 1) v w x y = stO lg i v w x y := by
  rw [stO_s hw, if_neg fun z => h z.1]
theorem vI_same (hw : w < (wsl lg i v).length) (h : ¬ (isP lg 9 (nI v) (nI w) i ∧ stP lg x y i)) : vsI lg (i + 1) v x y w = vsI lg i v x y w ∧ vdI lg (i + 1) v x y w = vdI lg i v x y w ∧ vpI lg (i + 1) v x w = vpI lg i v x w := by
  unfold vsI vdI vpI
  rw [setg_eq, setg_eq, stO_same hw h, wat_s hw]
  exact ⟨rfl, rfl, rfl⟩
/-- no valve's act -/
theorem vL_same (h8 : ¬ (cod lg i = 8 ∧ num lg i 0 = nI v)) (h9 : ∀ w, w < (wsl lg i v).length → ¬ (isP lg 9 (nI v) (nI w) i ∧ stP lg x y i)) : ssL lg (i + 1) v x y = ssL lg i v x y ∧ dsL lg (i + 1) v x y = dsL lg i v x y ∧ psL lg (i + 1) v x = psL lg i v x := by
  have ew : wsl lg (i + 1) v = wsl lg i v := by rw [wsl_s, if_neg h8, List.append_nil]
  unfold ssL dsL psL
  rw [ew]
  exact ⟨List.map_congr_left fun w hw => (vI_same (List.mem_range.mp hw) (h9 w (List.mem_range.mp hw))).1, List.map_congr_left fun w hw => (vI_same (List.mem_range.mp hw) (h9 w (List.mem_range.mp hw))).2.1, List.map_congr_left fun w hw => (vI_same (List.mem_range.mp hw) (h9 w (List.mem_range.mp hw))).2.2⟩
/-- a valve more -/
theorem vL_new (hc : cod lg i = 8) (h0 : num lg i 0 = nI v) : ssL lg (i + 1) v x y = ssL lg i v x y ++ [if dyy lg i ≤ x then num lg i 1 else 0] ∧ dsL lg (i + 1) v x y = dsL lg i v x y ++ [if dyy lg i ≤ x then dyy lg i else -1] ∧ psL lg (i + 1) v x = psL lg i v x ++ [if dyy lg i ≤ x then num lg i 2 else 0] := by
  have ew : wsl lg (i + 1) v = wsl lg i v ++ [i] := by rw [wsl_s, if_pos ⟨hc, h0⟩]
  have e9 : ∀ w, ¬ (isP lg 9 (nI v) (nI w) i ∧ stP lg x y i) := fun w z => absurd (z.1.1.symm.trans hc) (by decide)
  have ea : wat lg (i + 1) v (wsl lg i v).length = i := by
    unfold wat
    rw [ew, List.getElem?_append_right (Nat.le_refl _), Nat.sub_self]
    rfl
  have es : stO lg (i + 1) v (wsl lg i v).length x y = i := by
    unfold stO
    rw [ea, Nat.sub_self]
    rfl
  have eg : setg lg (i + 1) v (wsl lg i v).length x y = num lg i 1 := by rw [setg_eq, es, ea, if_pos rfl]
  have el : (wsl lg (i + 1) v).length = (wsl lg i v).length + 1 := by rw [ew]; simp
  unfold ssL dsL psL
  rw [el, List.range_succ, List.map_append, List.map_append, List.map_append]
  refine ⟨?_, ?_, ?_⟩
  · congr 1
    · exact List.map_congr_left fun w hw => (vI_same (List.mem_range.mp hw) (e9 w)).1
    · show [if dyy lg (wat lg (i + 1) v (wsl lg i v).length) ≤ x then setg lg (i + 1) v (wsl lg i v).length x y else 0] = _
      rw [ea, eg]
  · congr 1
    · exact List.map_congr_left fun w hw => (vI_same (List.mem_range.mp hw) (e9 w)).2.1
    · show [if dyy lg (wat lg (i + 1) v (wsl lg i v).length) ≤ x then dyy lg (stO lg (i + 1) v (wsl lg i v).length x y) else -1] = _
      rw [ea, es]
  · congr 1
    · exact List.map_congr_left fun w hw => (vI_same (List.mem_range.mp hw) (e9 w)).2.2
    · show [if dyy lg (wat lg (i + 1) v (wsl lg i v).length) ≤ x then num lg (wat lg (i + 1) v (wsl lg i v).length) 2 else 0] = _
      rw [ea]
/-- a valve set -/
theorem vL_set (hl : (wsl lg i v).length ≤ 6) (hw : w < (wsl lg i v).length) (h : isP lg 9 (nI v) (nI w) i) (hs : stP lg x y i) (hx : dyy lg (wat lg i v w) ≤ x) : bo_at (dsL lg i v x y) (nI w) = dyy lg (stO lg i v w x y) ∧ psL lg (i + 1) v x = psL lg i v x ∧ (dyy lg i < dyy lg (stO lg i v w x y) → ssL lg (i + 1) v x y = ssL lg i v x y ∧ dsL lg (i + 1) v x y = dsL lg i v x y) ∧ (dyy lg (stO lg i v w x y) ≤ dyy lg i → bo_put (ssL lg i v x y) (nI w) (num lg i 2) = ssL lg (i + 1) v x y ∧ bo_put (dsL lg i v x y) (nI w) (dyy lg i) = dsL lg (i + 1) v x y) := by
  have ew : wsl lg (i + 1) v = wsl lg i v := by rw [wsl_s, if_neg (fun z => absurd (z.1.symm.trans h.1) (by decide)), List.append_nil]
  have hne : ∀ w', w' < (wsl lg i v).length → ¬ w' = w → ¬ (isP lg 9 (nI v) (nI w') i ∧ stP lg x y i) := fun w' h1 h2 z => h2 ((nI_eq (by omega) (by omega)).mp (z.1.2.2.symm.trans h.2.2))
  have hp : ∀ w', w' < (wsl lg i v).length → vpI lg (i + 1) v x w' = vpI lg i v x w' := fun w' h1 => by unfold vpI; rw [wat_s h1]
  have hwi := wat_lt hw
  refine ⟨?_, ?_, fun hd => ?_, fun hd => ?_⟩
  · unfold dsL
    rw [rng_at hw (by omega)]
    exact if_pos hx
  · unfold psL
    rw [ew]
    exact List.map_congr_left fun w' h1 => hp w' (List.mem_range.mp h1)
  · have es : stO lg (i + 1) v w x y = stO lg i v w x y := by rw [stO_s hw, if_neg fun z => absurd z.2 (Int32.not_le.mpr hd)]
    have key : ∀ w', w' < (wsl lg i v).length → vsI lg (i + 1) v x y w' = vsI lg i v x y w' ∧ vdI lg (i + 1) v x y w' = vdI lg i v x y w' := fun w' h1 => by
      by_cases q : w' = w
      · rw [q]
        unfold vsI vdI
        rw [setg_eq, setg_eq, es, wat_s hw]
        exact ⟨rfl, rfl⟩
      · have := vI_same h1 (hne w' h1 q)
        exact ⟨this.1, this.2.1⟩
    unfold ssL dsL
    rw [ew]
    exact ⟨List.map_congr_left fun w' h1 => (key w' (List.mem_range.mp h1)).1, List.map_congr_left fun w' h1 => (key w' (List.mem_range.mp h1)).2⟩
  · have es : stO lg (i + 1) v w x y = i := by rw [stO_s hw, if_pos ⟨⟨h, hs⟩, hd⟩]
    have eg : setg lg (i + 1) v w x y = num lg i 2 := by rw [setg_eq, es, wat_s hw, if_neg (by omega)]
    unfold ssL dsL
    rw [ew]
    constructor
    · refine put_map hw (by omega) fun q hq => ?_
      by_cases e : q = w
      · rw [if_pos e, e]
        unfold vsI
        rw [wat_s hw, if_pos hx, eg]
      · rw [if_neg e]
        exact (vI_same hq (hne q hq e)).1
    · refine put_map hw (by omega) fun q hq => ?_
      by_cases e : q = w
      · rw [if_pos e, e]
        unfold vdI
        rw [wat_s hw, if_pos hx, es]
      · rw [if_neg e]
        exact (vI_same hq (hne q hq e)).2.1
end VI
/-- the papers: owner and the day of his; the day of what stops; of good tests; good days by kind; rules -/
def owC (lg : Nat → Int32) (ow : Int32) (v : Nat) (x y : Int32) (i : Nat) : Int32 := match lof lg 10 (nI v) 5 x y none 0 i with
  | none => ow
  | some j => num lg j 2
def soC (lg : Nat → Int32) (v : Nat) (x y : Int32) (i : Nat) : Int32 := match lof lg 10 (nI v) 5 x y none 0 i with
  | none => -1
  | some j => dyy lg j
abbrev paP (lg : Nat → Int32) (v : Nat) (x y : Int32) (i : Nat) : Prop := (cod lg i = 10 ∧ num lg i 0 = nI v) ∧ stP lg x y i
abbrev baP (lg : Nat → Int32) (i : Nat) : Prop := num lg i 1 = 3 ∨ num lg i 1 ≤ 2 ∧ ¬ num lg i 3 = 0
def stD (lg : Nat → Int32) (v : Nat) (x y : Int32) : Nat → Int32
  | 0 => -1
  | i + 1 => if paP lg v x y i then (if baP lg i then mxI (stD lg v x y i) (dyy lg i) else if num lg i 1 = 4 then (if stD lg v x y i ≤ dyy lg i then -1 else stD lg v x y i) else stD lg v x y i) else stD lg v x y i
def tdC (lg : Nat → Int32) (v : Nat) (x y : Int32) : Nat → Int32
  | 0 => -1
  | i + 1 => if goP lg (nI v) 2 i ∧ stP lg x y i then mxI (tdC lg v x y i) (dyy lg i) else tdC lg v x y i
def dgC (lg : Nat → Int32) (bu : Int32) (v : Nat) (x y : Int32) (i : Nat) (kd : Int32) : Int32 := match lat (dyy lg) (fun i => goP lg (nI v) kd i ∧ stP lg x y i) none 0 i with
  | none => bu
  | some j => dyy lg j
def ruC (lg : Nat → Int32) (y : Int32) (i : Nat) (m : Nat) (kd : Int32) : Int32 := match dru lg kd y i with
  | none => 365
  | some j => num lg j m
section QI
variable {lg : Nat → Int32} {i v : Nat} {x y bu ow : Int32}
/-- not a paper of the vessel that stands -/
theorem pap_same (h : ¬ paP lg v x y i) : owC lg ow v x y (i + 1) = owC lg ow v x y i ∧ soC lg v x y (i + 1) = soC lg v x y i ∧ stD lg v x y (i + 1) = stD lg v x y i ∧ tdC lg v x y (i + 1) = tdC lg v x y i ∧ ∀ kd, dgC lg bu v x y (i + 1) kd = dgC lg bu v x y i kd := by
  have e1 : lof lg 10 (nI v) 5 x y none 0 (i + 1) = lof lg 10 (nI v) 5 x y none 0 i := by rw [lof0_s, if_neg fun z => h ⟨⟨z.1.1.1, z.1.1.2.1⟩, z.1.2⟩]
  unfold owC soC
  rw [e1]
  refine ⟨rfl, rfl, if_neg h, if_neg fun z => h ⟨⟨z.1.1.1, z.1.1.2.1⟩, z.2⟩, fun kd => ?_⟩
  unfold dgC
  rw [lat0_s, if_neg fun z => h ⟨⟨z.1.1.1.1, z.1.1.1.2.1⟩, z.1.2⟩]
theorem own_no (h : ¬ num lg i 1 = 5) : owC lg ow v x y (i + 1) = owC lg ow v x y i ∧ soC lg v x y (i + 1) = soC lg v x y i := by
  have e1 : lof lg 10 (nI v) 5 x y none 0 (i + 1) = lof lg 10 (nI v) 5 x y none 0 i := by rw [lof0_s, if_neg fun z => h z.1.1.2.2]
  unfold owC soC
  rw [e1]
  exact ⟨rfl, rfl⟩
theorem own_s (h : paP lg v x y i) (h5 : num lg i 1 = 5) (h0 : 0 ≤ (dyy lg i).toInt) : (soC lg v x y i ≤ dyy lg i → owC lg ow v x y (i + 1) = num lg i 2 ∧ soC lg v x y (i + 1) = dyy lg i) ∧ (¬ soC lg v x y i ≤ dyy lg i → owC lg ow v x y (i + 1) = owC lg ow v x y i ∧ soC lg v x y (i + 1) = soC lg v x y i) := by
  have e := ltb_day (i := i) (o := lof lg 10 (nI v) 5 x y none 0 i) h0
  have e : ltb (dyy lg) i (lof lg 10 (nI v) 5 x y none 0 i) = true ↔ soC lg v x y i ≤ dyy lg i := e
  constructor
  · intro q
    have e1 : lof lg 10 (nI v) 5 x y none 0 (i + 1) = some i := by rw [lof0_s, if_pos ⟨⟨⟨h.1.1, h.1.2, h5⟩, h.2⟩, e.mpr q⟩]
    unfold owC soC
    rw [e1]
    exact ⟨rfl, rfl⟩
  · intro q
    have e1 : lof lg 10 (nI v) 5 x y none 0 (i + 1) = lof lg 10 (nI v) 5 x y none 0 i := by rw [lof0_s, if_neg fun z => q (e.mp z.2)]
    unfold owC soC
    rw [e1]
    exact ⟨rfl, rfl⟩
/-- no good paper of a kind -/
theorem dg_no {kd : Int32} (h : ¬ (goP lg (nI v) kd i ∧ stP lg x y i)) : dgC lg bu v x y (i + 1) kd = dgC lg bu v x y i kd := by
  unfold dgC
  rw [lat0_s, if_neg fun z => h z.1]
theorem dg_s {kd : Int32} (h : goP lg (nI v) kd i ∧ stP lg x y i) (hb : bu ≤ dyy lg i) : dgC lg bu v x y (i + 1) kd = mxI (dgC lg bu v x y i kd) (dyy lg i) := by
  unfold dgC
  rw [lat0_s]
  cases ho : lat (dyy lg) (fun i => goP lg (nI v) kd i ∧ stP lg x y i) none 0 i with
  | none =>
    rw [if_pos ⟨h, rfl⟩]
    show dyy lg i = mxI bu (dyy lg i)
    unfold mxI
    split
    · rename_i q
      exact Int32.le_antisymm q hb
    · rfl
  | some j =>
    have e : (ltb (dyy lg) i (some j) = true) ↔ dyy lg j ≤ dyy lg i := decide_eq_true_iff
    by_cases q : dyy lg j ≤ dyy lg i
    · rw [if_pos ⟨h, e.mpr q⟩]
      show dyy lg i = mxI (dyy lg j) (dyy lg i)
      unfold mxI
      split
      · rename_i q2
        exact Int32.le_antisymm q2 q
      · rfl
    · rw [if_neg fun z => q (e.mp z.2)]
      show dyy lg j = mxI (dyy lg j) (dyy lg i)
      exact (if_pos (Int32.le_of_lt (Int32.not_le.mp q))).symm
theorem td_no (h : ¬ (goP lg (nI v) 2 i ∧ stP lg x y i)) : tdC lg v x y (i + 1) = tdC lg v x y i := if_neg h
theorem td_s (h : goP lg (nI v) 2 i ∧ stP lg x y i) : tdC lg v x y (i + 1) = mxI (tdC lg v x y i) (dyy lg i) := if_pos h
/-- rules -/
theorem ru_no {m : Nat} {kd : Int32} (h : ¬ (cod lg i = 11 ∧ num lg i 0 = kd ∧ ent lg i ≤ y)) : ruC lg y (i + 1) m kd = ruC lg y i m kd := by
  have e : dru lg kd y (i + 1) = dru lg kd y i := if_neg h
  unfold ruC
  rw [e]
theorem ru_s {m : Nat} {kd : Int32} (h : cod lg i = 11 ∧ num lg i 0 = kd ∧ ent lg i ≤ y) : ruC lg y (i + 1) m kd = num lg i m := by
  have e : dru lg kd y (i + 1) = some i := if_pos h
  unfold ruC
  rw [e]
end QI

/-! A view that is opened on a day holds on the days up to which nothing begins. -/
section SY
variable {a v p n E : Nat} {G : bo_G} {lg : Nat → Int32} {x x' y st td bu ow : Int32}
abbrev sameD (lg : Nat → Int32) (n v : Nat) (x x' : Int32) : Prop := ∀ k, k < n → vaP lg v k → (dyy lg k ≤ x ↔ dyy lg k ≤ x')
theorem st_x (H : sameD lg n v x x') {k : Nat} (hk : k < n) (hv : vaP lg v k) : stP lg x y k ↔ stP lg x' y k := ⟨fun z => ⟨z.1, (H k hk hv).mp z.2⟩, fun z => ⟨z.1, (H k hk hv).mpr z.2⟩⟩
theorem isP_va {c b : Int32} {k : Nat} (hc : 4 ≤ c.toInt ∧ c.toInt ≤ 10) (h : isP lg c (nI v) b k) : vaP lg v k := ⟨by rw [h.1]; exact hc, h.2.1⟩
theorem lof_x (H : sameD lg n v x x') {c b : Int32} (hc : 4 ≤ c.toInt ∧ c.toInt ≤ 10) {s0 : Option Nat} {f m : Nat} (hm : f + m ≤ n) : lof lg c (nI v) b x y s0 f m = lof lg c (nI v) b x' y s0 f m :=
  lat_congr fun i hi => ⟨fun z => ⟨z.1, (st_x H (by omega) (isP_va hc z.1)).mp z.2⟩, fun z => ⟨z.1, (st_x H (by omega) (isP_va hc z.1)).mpr z.2⟩⟩
theorem plt_x (H : sameD lg n v x x') (hp : p < (psl lg n v).length) : plt lg n v p x y = plt lg n v p x' y := by
  unfold plt
  rw [lof_x H (by decide) (by have := pat_lt hp; omega)]
theorem menO_x (H : sameD lg n v x x') {b : Int32} : menO lg (nI v) b x y n = menO lg (nI v) b x' y n :=
  lat_congr fun i hi => by
    have key : (isP lg 5 (nI v) b (0 + i) ∨ isP lg 6 (nI v) b (0 + i)) → vaP lg v (0 + i) := fun z => z.elim (isP_va (by decide)) (isP_va (by decide))
    exact ⟨fun z => ⟨z.1, (st_x H (by omega) (key z.1)).mp z.2⟩, fun z => ⟨z.1, (st_x H (by omega) (key z.1)).mpr z.2⟩⟩
theorem pvI_x (H : sameD lg n v x x') (hp : p < (psl lg n v).length) : pvI lg n v p x y = pvI lg n v p x' y := by
  have e7 := lof_x (y := y) H (c := 7) (b := nI p) (by decide) (s0 := none) (f := 0) (m := n) (by omega)
  unfold pvI plA mdI pwI gdI plg
  rw [plt_x H hp, menO_x H, e7]
theorem stO_x (H : sameD lg n v x x') {w : Nat} (hw : w < (wsl lg n v).length) : stO lg n v w x y = stO lg n v w x' y := by
  unfold stO
  rw [lof_x H (by decide) (by have := wat_lt hw; omega)]
theorem vI_x (H : sameD lg n v x x') {w : Nat} (hw : w < (wsl lg n v).length) : vsI lg n v x y w = vsI lg n v x' y w ∧ vdI lg n v x y w = vdI lg n v x' y w ∧ vpI lg n v x w = vpI lg n v x' w := by
  have hc := wat_cod hw
  have h := H _ (wat_lt hw) ⟨by rw [hc.1]; decide, hc.2⟩
  unfold vsI vdI vpI
  rw [setg_eq, setg_eq, stO_x H hw]
  by_cases q : dyy lg (wat lg n v w) ≤ x
  · rw [if_pos q, if_pos (h.mp q), if_pos q, if_pos (h.mp q), if_pos q, if_pos (h.mp q)]
    exact ⟨rfl, rfl, rfl⟩
  · rw [if_neg q, if_neg fun z => q (h.mpr z), if_neg q, if_neg fun z => q (h.mpr z), if_neg q, if_neg fun z => q (h.mpr z)]
    exact ⟨rfl, rfl, rfl⟩
theorem vL_x (H : sameD lg n v x x') : ssL lg n v x y = ssL lg n v x' y ∧ dsL lg n v x y = dsL lg n v x' y ∧ psL lg n v x = psL lg n v x' := by
  unfold ssL dsL psL
  exact ⟨List.map_congr_left fun w hw => (vI_x H (List.mem_range.mp hw)).1, List.map_congr_left fun w hw => (vI_x H (List.mem_range.mp hw)).2.1, List.map_congr_left fun w hw => (vI_x (y := y) H (List.mem_range.mp hw)).2.2⟩
theorem paP_x (H : sameD lg n v x x') {i : Nat} (hi : i < n) : paP lg v x y i ↔ paP lg v x' y i := by
  have key : (cod lg i = 10 ∧ num lg i 0 = nI v) → vaP lg v i := fun z => ⟨by rw [z.1]; decide, z.2⟩
  exact ⟨fun z => ⟨z.1, (st_x H hi (key z.1)).mp z.2⟩, fun z => ⟨z.1, (st_x H hi (key z.1)).mpr z.2⟩⟩
theorem pc_x (H : sameD lg n v x x') : ∀ i, i ≤ n → stD lg v x y i = stD lg v x' y i ∧ tdC lg v x y i = tdC lg v x' y i ∧ mnd lg (nI v) x y i = mnd lg (nI v) x' y i ∧ tmC lg (nI v) x y td i = tmC lg (nI v) x' y td i := by
  intro i
  induction i with
  | zero => intro _; exact ⟨rfl, rfl, rfl, rfl⟩
  | succ i ih =>
    intro hi
    obtain ⟨h1, h2, h3, h4⟩ := ih (by omega)
    have ep := paP_x (y := y) H (show i < n by omega)
    have eg : (goP lg (nI v) 2 i ∧ stP lg x y i) ↔ (goP lg (nI v) 2 i ∧ stP lg x' y i) := ⟨fun z => ⟨z.1, (st_x H (by omega) (isP_va (by decide) z.1.1)).mp z.2⟩, fun z => ⟨z.1, (st_x H (by omega) (isP_va (by decide) z.1.1)).mpr z.2⟩⟩
    have km : meP lg (nI v) i → vaP lg v i := fun z => ⟨z.1.elim (fun q => by rw [q]; decide) fun q => by rw [q]; decide, z.2⟩
    have em : (meP lg (nI v) i ∧ stP lg x y i) ↔ (meP lg (nI v) i ∧ stP lg x' y i) := ⟨fun z => ⟨z.1, (st_x H (by omega) (km z.1)).mp z.2⟩, fun z => ⟨z.1, (st_x H (by omega) (km z.1)).mpr z.2⟩⟩
    refine ⟨?_, ?_, ?_, ?_⟩
    · show (if paP lg v x y i then (if baP lg i then mxI (stD lg v x y i) (dyy lg i) else if num lg i 1 = 4 then (if stD lg v x y i ≤ dyy lg i then -1 else stD lg v x y i) else stD lg v x y i) else stD lg v x y i) = (if paP lg v x' y i then (if baP lg i then mxI (stD lg v x' y i) (dyy lg i) else if num lg i 1 = 4 then (if stD lg v x' y i ≤ dyy lg i then -1 else stD lg v x' y i) else stD lg v x' y i) else stD lg v x' y i)
      rw [h1]
      by_cases q : paP lg v x y i
      · rw [if_pos q, if_pos (ep.mp q)]
      · rw [if_neg q, if_neg fun z => q (ep.mpr z)]
    · show (if goP lg (nI v) 2 i ∧ stP lg x y i then mxI (tdC lg v x y i) (dyy lg i) else tdC lg v x y i) = (if goP lg (nI v) 2 i ∧ stP lg x' y i then mxI (tdC lg v x' y i) (dyy lg i) else tdC lg v x' y i)
      rw [h2]
      by_cases q : goP lg (nI v) 2 i ∧ stP lg x y i
      · rw [if_pos q, if_pos (eg.mp q)]
      · rw [if_neg q, if_neg fun z => q (eg.mpr z)]
    · show (if meP lg (nI v) i ∧ stP lg x y i then mxI (mnd lg (nI v) x y i) (dyy lg i) else mnd lg (nI v) x y i) = (if meP lg (nI v) i ∧ stP lg x' y i then mxI (mnd lg (nI v) x' y i) (dyy lg i) else mnd lg (nI v) x' y i)
      rw [h3]
      by_cases q : meP lg (nI v) i ∧ stP lg x y i
      · rw [if_pos q, if_pos (em.mp q)]
      · rw [if_neg q, if_neg fun z => q (em.mpr z)]
    · show (if meP lg (nI v) i ∧ stP lg x y i then (if dyy lg i ≤ td then mxI (tmC lg (nI v) x y td i) (dyy lg i) else tmC lg (nI v) x y td i) else tmC lg (nI v) x y td i) = (if meP lg (nI v) i ∧ stP lg x' y i then (if dyy lg i ≤ td then mxI (tmC lg (nI v) x' y td i) (dyy lg i) else tmC lg (nI v) x' y td i) else tmC lg (nI v) x' y td i)
      rw [h4]
      by_cases q : meP lg (nI v) i ∧ stP lg x y i
      · rw [if_pos q, if_pos (em.mp q)]
      · rw [if_neg q, if_neg fun z => q (em.mpr z)]
theorem ow_x (H : sameD lg n v x x') : owC lg ow v x y n = owC lg ow v x' y n ∧ soC lg v x y n = soC lg v x' y n ∧ ∀ kd, dgC lg bu v x y n kd = dgC lg bu v x' y n kd := by
  have e := lof_x (y := y) H (c := 10) (b := 5) (by decide) (s0 := none) (f := 0) (m := n) (by omega)
  unfold owC soC dgC
  rw [e]
  refine ⟨rfl, rfl, fun kd => ?_⟩
  have : lat (dyy lg) (fun i => goP lg (nI v) kd i ∧ stP lg x y i) none 0 n = lat (dyy lg) (fun i => goP lg (nI v) kd i ∧ stP lg x' y i) none 0 n := lat_congr fun i hi => ⟨fun z => ⟨z.1, (st_x H (by omega) (isP_va (by decide) z.1.1)).mp z.2⟩, fun z => ⟨z.1, (st_x H (by omega) (isP_va (by decide) z.1.1)).mpr z.2⟩⟩
  rw [this]
theorem spF_x (H : sameD lg n v x x') {pl s : Nat} {b : Int32} : ∀ i, i ≤ n → spF lg pl (nI v) b x y s i = spF lg pl (nI v) b x' y s i := by
  intro i
  induction i with
  | zero => intro _; rfl
  | succ i ih =>
    intro hi
    have eq : qmP lg pl (nI v) b s x y i ↔ qmP lg pl (nI v) b s x' y i := ⟨fun z => ⟨⟨z.1.1, z.1.2.1, (st_x H (by omega) (isP_va (by decide) z.1.1)).mp z.1.2.2⟩, z.2⟩, fun z => ⟨⟨z.1.1, z.1.2.1, (st_x H (by omega) (isP_va (by decide) z.1.1)).mpr z.1.2.2⟩, z.2⟩⟩
    show (if qmP lg pl (nI v) b s x y i then spTake (spF lg pl (nI v) b x y s i) (dyy lg i) (num lg i (3 + s)) else spF lg pl (nI v) b x y s i) = (if qmP lg pl (nI v) b s x' y i then spTake (spF lg pl (nI v) b x' y s i) (dyy lg i) (num lg i (3 + s)) else spF lg pl (nI v) b x' y s i)
    rw [ih (by omega)]
    by_cases q : qmP lg pl (nI v) b s x y i
    · rw [if_pos q, if_pos (eq.mp q)]
    · rw [if_neg q, if_neg fun z => q (eq.mpr z)]
theorem VO_steady (hO : VO G lg E v a x y st) (hx : x ≤ x') (hst : x' ≤ st) : VO G lg E v a x' y st := by
  obtain ⟨⟨hX, hP⟩, hS⟩ := hO
  have H : sameD lg (knC lg y E) v x x' := fun k hk hv => ⟨fun z => Int32.le_trans z hx, fun z => (hS k hk hv).elim id fun w => absurd (Int32.le_trans z hst) (Int32.not_le.mpr w)⟩
  obtain ⟨s1, s2, s3⟩ := vL_x (y := y) H
  obtain ⟨o1, o2, o3⟩ := ow_x (y := y) (ow := num lg (vat lg E v) 0) (bu := dyy lg (vat lg E v)) H
  obtain ⟨p1, p2, p3, p4⟩ := pc_x (y := y) (td := tdC lg v x y (knC lg y E)) H (knC lg y E) (Nat.le_refl _)
  refine ⟨⟨?_, fun p hp => ?_⟩, fun k hk hv => (hS k hk hv).imp (fun z => Int32.le_trans z hx) id⟩
  · rw [s1, s2, s3, o1, o2, p1, p4, p3, o3, o3, o3, p2] at hX
    exact hX.congr fun p hp => (pvI_x H hp).symm
  · have h := hP p hp
    rw [pvI_x H hp, plt_x H hp] at h
    exact h.eS fun s _ => (spF_x H _ (Nat.le_refl _)).symm
end SY

/-! One instruction of the walk is one of the machine's. -/
def bo_t1 (lv : bo_LV) (i : Nat) (v : Value) : bo_LV := (i, v) :: lv.filter (fun q => !(q.1 == i) && !(q.1 + 1 == i && q.2.category == 2))
def bo_t2 (lv : bo_LV) (i : Nat) (v : Value) : bo_LV := (i, v) :: lv.filter (fun q => !(q.1 == i) && (!(q.1 == i + 1) && !(q.1 + 1 == i && q.2.category == 2)))
theorem bo_ins_mem {i : Nat} {v : Value} {l : bo_LV} {q : Nat × Value} (h : q ∈ bo_ins i v l) : q ∈ (i, v) :: l := by
  induction l with
  | nil => exact h
  | cons a l ih =>
    unfold bo_ins at h
    cases hb : Nat.blt i a.1 <;> rw [hb] at h
    · rcases List.mem_cons.mp h with rfl | h
      · exact List.mem_cons_of_mem _ List.mem_cons_self
      · rcases List.mem_cons.mp (ih h) with rfl | h
        · exact List.mem_cons_self
        · exact List.mem_cons_of_mem _ (List.mem_cons_of_mem _ h)
    · exact h
def bo_lm (ad : Nat → Nat) (lv : bo_LV) : bo_LV := lv.map fun q => (q.1, bo_sv ad q.2)
theorem bo_lm_s1 (ad : Nat → Nat) (lv : bo_LV) (i : Nat) (v : Value) : (i, bo_sv ad v) :: (bo_lm ad lv).filter (fun q => !(q.1 == i) && !(q.1 + 1 == i && q.2.category == 2)) = bo_lm ad (bo_t1 lv i v) := by
  unfold bo_t1 bo_lm
  rw [List.map_cons, List.filter_map]
  congr 2
  refine congrArg (fun f => List.filter f lv) ?_
  funext q
  simp [Function.comp, bo_sv_cat]
theorem bo_lm_s2 (ad : Nat → Nat) (lv : bo_LV) (i : Nat) (v : Value) : (i, bo_sv ad v) :: (bo_lm ad lv).filter (fun q => !(q.1 == i) && (!(q.1 == i + 1) && !(q.1 + 1 == i && q.2.category == 2))) = bo_lm ad (bo_t2 lv i v) := by
  unfold bo_t2 bo_lm
  rw [List.map_cons, List.filter_map]
  congr 2
  refine congrArg (fun f => List.filter f lv) ?_
  funext q
  simp [Function.comp, bo_sv_cat]
theorem bo_has_sub {ad : Nat → Nat} {ls : Array Slot} {n : Nat} {lv lv' : bo_LV} (h : lv_has ls n (bo_lm ad lv)) (hs : ∀ q ∈ lv', q ∈ lv) : lv_has ls n (bo_lm ad lv') := by
  refine ⟨h.1, h.2.1, fun q hq => h.2.2 q ?_⟩
  obtain ⟨x, hx, rfl⟩ := List.mem_map.mp hq
  exact List.mem_map.mpr ⟨x, hs x hx, rfl⟩
theorem bo_s1_sub {lv : bo_LV} {i : Nat} {v : Value} : ∀ q ∈ bo_s1 lv i v, q ∈ bo_t1 lv i v := fun _ h => bo_ins_mem h
theorem bo_s2_sub {lv : bo_LV} {i : Nat} {v : Value} : ∀ q ∈ bo_s2 lv i v, q ∈ bo_t2 lv i v := fun _ h => bo_ins_mem h
theorem bo_look {lv : bo_LV} {i : Nat} {v : Value} (h : lv.lookup i = some v) : (i, v) ∈ lv := by
  induction lv with
  | nil => simp at h
  | cons q lv ih =>
    obtain ⟨k, w⟩ := q
    rw [List.lookup_cons] at h
    by_cases hk : i = k
    · subst hk
      simp at h
      subst h
      exact List.mem_cons_self
    · have : (i == k) = false := by simpa using hk
      rw [this] at h
      exact List.mem_cons_of_mem _ (ih h)
theorem bo_has {ad : Nat → Nat} {ls : Array Slot} {n : Nat} {lv : bo_LV} {i : Nat} {v : Value} (h : lv_has ls n (bo_lm ad lv)) (hk : lv.lookup i = some v) : ls[i]? = some (.val (bo_sv ad v)) :=
  h.2.2 (i, bo_sv ad v) (List.mem_map.mpr ⟨(i, v), bo_look hk, rfl⟩)
/-- what stands in the frame are known numbers -/
def bo_rl (n : Nat) (lv : bo_LV) (st : List Value) : Prop := (∀ q ∈ lv, bo_rk n q.2) ∧ ∀ v ∈ st, bo_rk n v
theorem bo_rl.mono {n k : Nat} {lv : bo_LV} {st : List Value} (h : bo_rl n lv st) (hk : n ≤ k) : bo_rl k lv st := ⟨fun q hq => (h.1 q hq).mono hk, fun v hv => (h.2 v hv).mono hk⟩
theorem bo_rl.s1 {n : Nat} {lv : bo_LV} {v : Value} {st : List Value} (h : bo_rl n lv (v :: st)) (i : Nat) : bo_rl n (bo_s1 lv i v) st := by
  refine ⟨fun q hq => ?_, fun w hw => h.2 w (List.mem_cons_of_mem _ hw)⟩
  rcases List.mem_cons.mp (bo_ins_mem hq) with rfl | hq
  · exact h.2 _ List.mem_cons_self
  · exact h.1 q (List.mem_filter.mp hq).1
theorem bo_rl.s2 {n : Nat} {lv : bo_LV} {v : Value} {st : List Value} (h : bo_rl n lv (v :: st)) (i : Nat) : bo_rl n (bo_s2 lv i v) st := by
  refine ⟨fun q hq => ?_, fun w hw => h.2 w (List.mem_cons_of_mem _ hw)⟩
  rcases List.mem_cons.mp (bo_ins_mem hq) with rfl | hq
  · exact h.2 _ List.mem_cons_self
  · exact h.1 q (List.mem_filter.mp hq).1
theorem bo_rl.tl {n : Nat} {lv : bo_LV} {v : Value} {st : List Value} (h : bo_rl n lv (v :: st)) : bo_rl n lv st := ⟨h.1, fun w hw => h.2 w (List.mem_cons_of_mem _ hw)⟩
theorem bo_rl.hd {n : Nat} {lv : bo_LV} {v : Value} {st : List Value} (h : bo_rl n lv (v :: st)) : bo_rk n v := h.2 _ List.mem_cons_self
theorem bo_rl.cons {n : Nat} {lv : bo_LV} {v : Value} {st : List Value} (h : bo_rl n lv st) (hv : bo_rk n v) : bo_rl n lv (v :: st) := ⟨h.1, fun w hw => (List.mem_cons.mp hw).elim (fun q => q ▸ hv) (h.2 w)⟩
section BOS
variable {p : Program} {l : Launch} {e : Env} {R : Room} {s : State} {mm : MethodId} {args : Array Value} {below : List Frame} {meth : Method} {c : Code} {Q : State → Prop}
variable {X : bo_X} {kC kS n0 : Nat} {ad0 : Nat → Nat} {m : bo_M}
/-- where m runs -/
def bo_Cx (p : Program) (s : State) (mm : MethodId) (args : Array Value) (meth : Method) (c : Code) (m : bo_M) : Prop :=
  p.tables.exec = Jvm.exec ∧ c.code = bo_cc m ∧ c.maxLocals = bo_ml m ∧ s.vm.findClass (bo_R (bo_o m)) = some mm.cls ∧ (∀ w ∈ bo_W, w.before args s = true) ∧ (bo_in m = true → meth.name = "<init>") ∧ bo_OK (bo_cc m) (bo_cd m)
def bo_Wg (p : Program) (l : Launch) (e : Env) (R : Room) (s : State) (mm : MethodId) (args : Array Value) (below : List Frame) (meth : Method) (c : Code) (Q : State → Prop) (X : bo_X) (kC kS n0 : Nat) (ad0 : Nat → Nat) (m : bo_M) (S : bo_S) : Prop :=
  ∀ (H : Heap) (locs : List Loc) (ls : Array Slot) (ad pa : Nat → Nat), bo_Rel X ad pa s H S.2.2.2 → lv_has ls (bo_ml m) (bo_lm ad S.2.1) → bo_rl S.2.2.2.length S.2.1 S.2.2.1 → (∀ q ∈ locs, bo_Ad X q.base) → (∀ i, i < n0 → ad i = ad0 i) → n0 ≤ S.2.2.2.length → kC ≤ bo_uC S.2.2.2 → kS ≤ bo_uS S.2.2.2 →
    W p l e R s mm args below meth c H locs (bo_uC S.2.2.2 - kC) (bo_uS S.2.2.2 - kS) Q (F0 mm S.1 ls (S.2.2.1.map (bo_sv ad)))
/-- a row that changes the stack alone -/
theorem bo_Wg.pure {pc nx : Nat} {lv : bo_LV} {st st' : List Value} {G : bo_G} (k : bo_Wg p l e R s mm args below meth c Q X kC kS n0 ad0 m (nx, lv, st', G)) (hr : bo_rl G.length lv st → bo_rl G.length lv st')
    (row : ∀ (H : Heap) (locs : List Loc) (ls : Array Slot) (ad pa : Nat → Nat), bo_Rel X ad pa s H G → lv_has ls (bo_ml m) (bo_lm ad lv) → W p l e R s mm args below meth c H locs (bo_uC G - kC) (bo_uS G - kS) Q (F0 mm nx ls (st'.map (bo_sv ad))) → W p l e R s mm args below meth c H locs (bo_uC G - kC) (bo_uS G - kS) Q (F0 mm pc ls (st.map (bo_sv ad)))) : bo_Wg p l e R s mm args below meth c Q X kC kS n0 ad0 m (pc, lv, st, G) :=
  fun H locs ls ad pa h1 h2 h3 h4 h5 h6 h7 h8 => row H locs ls ad pa h1 h2 (k H locs ls ad pa h1 h2 (hr h3) h4 h5 h6 h7 h8)
theorem bo_Wg.i1 {pc nx : Nat} {lv : bo_LV} {st : List Value} {G : bo_G} {f : Int32 → Value} {S' : bo_S} (hs : bo_i1 f lv nx st G = some S') (k : bo_Wg p l e R s mm args below meth c Q X kC kS n0 ad0 m S') (hf : ∀ (ad : Nat → Nat) x, bo_sv ad (f x) = f x) (hf2 : ∀ n x, bo_rk n (f x))
    (row : ∀ (H : Heap) (locs : List Loc) (ls : Array Slot) (cells slots : Nat) (rest : List Value) (x : Int32), W p l e R s mm args below meth c H locs cells slots Q (F0 mm nx ls (f x :: rest)) → W p l e R s mm args below meth c H locs cells slots Q (F0 mm pc ls (.int x :: rest))) : bo_Wg p l e R s mm args below meth c Q X kC kS n0 ad0 m (pc, lv, st, G) := by
  unfold bo_i1 at hs
  split at hs
  · cases hs
    refine k.pure (fun h => h.tl.cons (hf2 _ _)) fun H locs ls ad pa h1 h2 kk => ?_
    rw [List.map_cons, hf] at kk
    exact row _ _ _ _ _ _ _ kk
  · cases hs
theorem bo_Wg.i2 {pc nx : Nat} {lv : bo_LV} {st : List Value} {G : bo_G} {f : Int32 → Int32 → Value} {S' : bo_S} (hs : bo_i2 f lv nx st G = some S') (k : bo_Wg p l e R s mm args below meth c Q X kC kS n0 ad0 m S') (hf : ∀ (ad : Nat → Nat) x y, bo_sv ad (f x y) = f x y) (hf2 : ∀ n x y, bo_rk n (f x y))
    (row : ∀ (H : Heap) (locs : List Loc) (ls : Array Slot) (cells slots : Nat) (rest : List Value) (x y : Int32), W p l e R s mm args below meth c H locs cells slots Q (F0 mm nx ls (f x y :: rest)) → W p l e R s mm args below meth c H locs cells slots Q (F0 mm pc ls (.int y :: .int x :: rest))) : bo_Wg p l e R s mm args below meth c Q X kC kS n0 ad0 m (pc, lv, st, G) := by
  unfold bo_i2 at hs
  split at hs
  · cases hs
    refine k.pure (fun h => h.tl.tl.cons (hf2 _ _ _)) fun H locs ls ad pa h1 h2 kk => ?_
    rw [List.map_cons, hf] at kk
    exact row _ _ _ _ _ _ _ _ kk
  · cases hs
theorem bo_Wg.l1 {pc nx : Nat} {lv : bo_LV} {st : List Value} {G : bo_G} {f : Int64 → Value} {S' : bo_S} (hs : bo_l1 f lv nx st G = some S') (k : bo_Wg p l e R s mm args below meth c Q X kC kS n0 ad0 m S') (hf : ∀ (ad : Nat → Nat) x, bo_sv ad (f x) = f x) (hf2 : ∀ n x, bo_rk n (f x))
    (row : ∀ (H : Heap) (locs : List Loc) (ls : Array Slot) (cells slots : Nat) (rest : List Value) (x : Int64), W p l e R s mm args below meth c H locs cells slots Q (F0 mm nx ls (f x :: rest)) → W p l e R s mm args below meth c H locs cells slots Q (F0 mm pc ls (.long x :: rest))) : bo_Wg p l e R s mm args below meth c Q X kC kS n0 ad0 m (pc, lv, st, G) := by
  unfold bo_l1 at hs
  split at hs
  · cases hs
    refine k.pure (fun h => h.tl.cons (hf2 _ _)) fun H locs ls ad pa h1 h2 kk => ?_
    rw [List.map_cons, hf] at kk
    exact row _ _ _ _ _ _ _ kk
  · cases hs
theorem bo_Wg.l2 {pc nx : Nat} {lv : bo_LV} {st : List Value} {G : bo_G} {f : Int64 → Int64 → Value} {S' : bo_S} (hs : bo_l2 f lv nx st G = some S') (k : bo_Wg p l e R s mm args below meth c Q X kC kS n0 ad0 m S') (hf : ∀ (ad : Nat → Nat) x y, bo_sv ad (f x y) = f x y) (hf2 : ∀ n x y, bo_rk n (f x y))
    (row : ∀ (H : Heap) (locs : List Loc) (ls : Array Slot) (cells slots : Nat) (rest : List Value) (x y : Int64), W p l e R s mm args below meth c H locs cells slots Q (F0 mm nx ls (f x y :: rest)) → W p l e R s mm args below meth c H locs cells slots Q (F0 mm pc ls (.long y :: .long x :: rest))) : bo_Wg p l e R s mm args below meth c Q X kC kS n0 ad0 m (pc, lv, st, G) := by
  unfold bo_l2 at hs
  split at hs
  · cases hs
    refine k.pure (fun h => h.tl.tl.cons (hf2 _ _ _)) fun H locs ls ad pa h1 h2 kk => ?_
    rw [List.map_cons, hf] at kk
    exact row _ _ _ _ _ _ _ _ kk
  · cases hs
theorem bo_Wg.d2 {pc nx : Nat} {lv : bo_LV} {st : List Value} {G : bo_G} {f : Int32 → Int32 → Value} {S' : bo_S} (hs : bo_d2 f lv nx st G = some S') (k : bo_Wg p l e R s mm args below meth c Q X kC kS n0 ad0 m S') (hf : ∀ (ad : Nat → Nat) x y, bo_sv ad (f x y) = f x y) (hf2 : ∀ n x y, bo_rk n (f x y))
    (row : ∀ (H : Heap) (locs : List Loc) (ls : Array Slot) (cells slots : Nat) (rest : List Value) (x y : Int32), ¬ y = 0 → W p l e R s mm args below meth c H locs cells slots Q (F0 mm nx ls (f x y :: rest)) → W p l e R s mm args below meth c H locs cells slots Q (F0 mm pc ls (.int y :: .int x :: rest))) : bo_Wg p l e R s mm args below meth c Q X kC kS n0 ad0 m (pc, lv, st, G) := by
  unfold bo_d2 at hs
  split at hs
  · split at hs
    · cases hs
    · rename_i hy
      cases hs
      refine k.pure (fun h => h.tl.tl.cons (hf2 _ _ _)) fun H locs ls ad pa h1 h2 kk => ?_
      rw [List.map_cons, hf] at kk
      exact row _ _ _ _ _ _ _ _ hy kk
  · cases hs
theorem bo_Wg.dl {pc nx : Nat} {lv : bo_LV} {st : List Value} {G : bo_G} {f : Int64 → Int64 → Value} {S' : bo_S} (hs : bo_dl f lv nx st G = some S') (k : bo_Wg p l e R s mm args below meth c Q X kC kS n0 ad0 m S') (hf : ∀ (ad : Nat → Nat) x y, bo_sv ad (f x y) = f x y) (hf2 : ∀ n x y, bo_rk n (f x y))
    (row : ∀ (H : Heap) (locs : List Loc) (ls : Array Slot) (cells slots : Nat) (rest : List Value) (x y : Int64), ¬ y = 0 → W p l e R s mm args below meth c H locs cells slots Q (F0 mm nx ls (f x y :: rest)) → W p l e R s mm args below meth c H locs cells slots Q (F0 mm pc ls (.long y :: .long x :: rest))) : bo_Wg p l e R s mm args below meth c Q X kC kS n0 ad0 m (pc, lv, st, G) := by
  unfold bo_dl at hs
  split at hs
  · split at hs
    · cases hs
    · rename_i hy
      cases hs
      refine k.pure (fun h => h.tl.tl.cons (hf2 _ _ _)) fun H locs ls ad pa h1 h2 kk => ?_
      rw [List.map_cons, hf] at kk
      exact row _ _ _ _ _ _ _ _ hy kk
  · cases hs
theorem bo_Wg.b1 {pc nx tg : Nat} {lv : bo_LV} {st : List Value} {G : bo_G} {f : Int32 → Bool} {S' : bo_S} (hs : bo_b1 f lv nx tg st G = some S') (k : bo_Wg p l e R s mm args below meth c Q X kC kS n0 ad0 m S')
    (row : ∀ (H : Heap) (locs : List Loc) (ls : Array Slot) (cells slots : Nat) (rest : List Value) (x : Int32), (f x = true → W p l e R s mm args below meth c H locs cells slots Q (F0 mm tg ls rest)) → (f x = false → W p l e R s mm args below meth c H locs cells slots Q (F0 mm nx ls rest)) → W p l e R s mm args below meth c H locs cells slots Q (F0 mm pc ls (.int x :: rest))) : bo_Wg p l e R s mm args below meth c Q X kC kS n0 ad0 m (pc, lv, st, G) := by
  unfold bo_b1 at hs
  split at hs
  · cases hs
    intro H locs ls ad pa h1 h2 h3 h4 h5 h6 h7 h8
    have kk := k H locs ls ad pa h1 h2 h3.tl h4 h5 h6 h7 h8
    refine row _ _ _ _ _ _ _ (fun q => ?_) (fun q => ?_) <;> (rw [q] at kk; exact kk)
  · cases hs
theorem bo_Wg.b2 {pc nx tg : Nat} {lv : bo_LV} {st : List Value} {G : bo_G} {f : Int32 → Int32 → Bool} {S' : bo_S} (hs : bo_b2 f lv nx tg st G = some S') (k : bo_Wg p l e R s mm args below meth c Q X kC kS n0 ad0 m S')
    (row : ∀ (H : Heap) (locs : List Loc) (ls : Array Slot) (cells slots : Nat) (rest : List Value) (x y : Int32), (f x y = true → W p l e R s mm args below meth c H locs cells slots Q (F0 mm tg ls rest)) → (f x y = false → W p l e R s mm args below meth c H locs cells slots Q (F0 mm nx ls rest)) → W p l e R s mm args below meth c H locs cells slots Q (F0 mm pc ls (.int y :: .int x :: rest))) : bo_Wg p l e R s mm args below meth c Q X kC kS n0 ad0 m (pc, lv, st, G) := by
  unfold bo_b2 at hs
  split at hs
  · cases hs
    intro H locs ls ad pa h1 h2 h3 h4 h5 h6 h7 h8
    have kk := k H locs ls ad pa h1 h2 h3.tl.tl h4 h5 h6 h7 h8
    refine row _ _ _ _ _ _ _ _ (fun q => ?_) (fun q => ?_) <;> (rw [q] at kk; exact kk)
  · cases hs
end BOS

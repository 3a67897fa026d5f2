/-! A heap with some cells laid over it, by place: what stands there is read and written without a look at the rest. -/
def ov (G : bo_G) : List (Nat × bo_C) → bo_G
  | [] => G
  | p :: L => (ov G L).set p.1 p.2
/-- addresses that are apart, and in the heap -/
def ap (L : List Nat) (n : Nat) : Prop := L.Nodup ∧ ∀ a ∈ L, a < n
theorem ov_len (G : bo_G) (L : List (Nat × bo_C)) : (ov G L).length = G.length := by
  induction L with
  | nil => rfl
  | cons p L ih => show ((ov G L).set p.1 p.2).length = _; rw [List.length_set, ih]
theorem ov_ne {G : bo_G} {L : List (Nat × bo_C)} {j : Nat} (h : j ∉ L.map Prod.fst) : (ov G L)[j]? = G[j]? := by
  induction L with
  | nil => rfl
  | cons p L ih =>
    rw [List.map_cons, List.mem_cons, not_or] at h
    show ((ov G L).set p.1 p.2)[j]? = _
    rw [List.getElem?_set_ne (fun q => h.1 q.symm), ih h.2]
theorem ov_get {G : bo_G} {L : List (Nat × bo_C)} {a : Nat} {c : bo_C} (hA : ap (L.map Prod.fst) G.length) (i : Nat) (hi : L[i]? = some (a, c)) : (ov G L)[a]? = some c := by
  induction L generalizing i with
  | nil => simp at hi
  | cons p L ih =>
    obtain ⟨h1, h2⟩ := hA
    rw [List.map_cons, List.nodup_cons] at h1
    show ((ov G L).set p.1 p.2)[a]? = _
    cases i with
    | zero =>
      simp only [List.getElem?_cons_zero, Option.some.injEq] at hi
      subst hi
      exact List.getElem?_set_self (by rw [ov_len]; exact h2 a (by simp))
    | succ i =>
      simp only [List.getElem?_cons_succ] at hi
      have hm : a ∈ L.map Prod.fst := List.mem_map.mpr ⟨_, List.mem_of_getElem? hi, rfl⟩
      rw [List.getElem?_set_ne (fun q => h1.1 (by rw [q]; exact hm))]
      exact ih ⟨h1.2, fun b hb => h2 b (by rw [List.map_cons]; exact List.mem_cons_of_mem _ hb)⟩ i hi
theorem ov_set {G : bo_G} {L : List (Nat × bo_C)} {a : Nat} {c0 c : bo_C} (hA : ap (L.map Prod.fst) G.length) (i : Nat) (hi : L[i]? = some (a, c0)) : (ov G L).set a c = ov G (L.set i (a, c)) := by
  induction L generalizing i with
  | nil => simp at hi
  | cons p L ih =>
    obtain ⟨h1, h2⟩ := hA
    rw [List.map_cons, List.nodup_cons] at h1
    show ((ov G L).set p.1 p.2).set a c = _
    cases i with
    | zero =>
      simp only [List.getElem?_cons_zero, Option.some.injEq] at hi
      subst hi
      rw [List.set_set]
      rfl
    | succ i =>
      simp only [List.getElem?_cons_succ] at hi
      have hm : a ∈ L.map Prod.fst := List.mem_map.mpr ⟨_, List.mem_of_getElem? hi, rfl⟩
      have hne : p.1 ≠ a := fun q => h1.1 (by rw [q]; exact hm)
      rw [List.set_comm _ _ hne, ih ⟨h1.2, fun b hb => h2 b (by rw [List.map_cons]; exact List.mem_cons_of_mem _ hb)⟩ i hi]
      rfl
theorem ov_id {G : bo_G} {L : List (Nat × bo_C)} (h : ∀ p ∈ L, G[p.1]? = some p.2) : ov G L = G := by
  induction L with
  | nil => rfl
  | cons p L ih =>
    show (ov G L).set p.1 p.2 = G
    rw [ih (fun q hq => h q (List.mem_cons_of_mem _ hq))]
    have hp := h p List.mem_cons_self
    apply List.ext_getElem?
    intro j
    by_cases hj : p.1 = j
    · subst hj
      rw [List.getElem?_set_self (List.getElem?_eq_some_iff.mp hp).1, hp]
    · rw [List.getElem?_set_ne hj]
theorem ov_app {G : bo_G} {L : List (Nat × bo_C)} {X : bo_G} (h : ∀ p ∈ L, p.1 < G.length) : ov G L ++ X = ov (G ++ X) L := by
  induction L with
  | nil => rfl
  | cons p L ih =>
    show (ov G L).set p.1 p.2 ++ X = (ov (G ++ X) L).set p.1 p.2
    rw [← ih (fun q hq => h q (List.mem_cons_of_mem _ hq)), List.set_append_left]
    rw [ov_len]
    exact h p List.mem_cons_self
section OVX
variable {d : Nat} {m : bo_M} {pc : Nat} {lv : bo_LV} {st : List Value} {G : bo_G} {L : List (Nat × bo_C)} {Q : Option Value → bo_G → Prop}
/-- the cells that a walk uses are laid over -/
theorem Ex.lay (L : List (Nat × bo_C)) (h : ∀ p ∈ L, G[p.1]? = some p.2) (k : Ex d m (pc, lv, st, ov G L) Q) : Ex d m (pc, lv, st, G) Q := by
  rw [ov_id h] at k
  exact k
theorem Ex.os {a : Nat} {c0 c : bo_C} (hA : ap (L.map Prod.fst) G.length) (i : Nat) (hi : L[i]? = some (a, c0)) (k : Ex d m (pc, lv, st, ov G (L.set i (a, c))) Q) : Ex d m (pc, lv, st, (ov G L).set a c) Q := by
  rw [ov_set hA i hi]
  exact k
theorem Ex.pfo {k a : Nat} {nx tg kp : Nat} {ck : Nat × Nat} {cn : Nat} {fs r : List Value} {v : Value} (hA : ap (L.map Prod.fst) G.length) (i : Nat) (he : bo_cd m pc = some (.putfield k, nx, tg, kp)) (hf : bo_fk (bo_o m) k = some ck) (hi : L[i]? = some (a, cO cn fs)) (hc : Nat.beq cn ck.1 = true) (hl : Nat.blt ck.2 fs.length = true) (hw : bo_wr m ck v = true) (k1 : Ex d m (nx, lv, r, ov G (L.set i (a, cO cn (fs.set ck.2 v)))) Q) : Ex d m (pc, lv, v :: .ref a :: r, ov G L) Q := by
  refine Ex.pf he hf (ov_get hA i hi) hc hl hw ?_
  rw [ov_set hA i hi]
  exact k1
theorem Ex.pszo {k a : Nat} {nx tg kp lim cap n : Nat} {xs : List Int32} {r : List Value} {x : Int32} (hA : ap (L.map Prod.fst) G.length) (i : Nat) (he : bo_cd m pc = some (.putfield k, nx, tg, kp)) (hf : bo_fk (bo_o m) k = some (4, 2)) (ho : bo_o m = 4) (hi : L[i]? = some (a, cR lim cap xs)) (h0 : 0 ≤ x) (hn : x.toNatClampNeg = n) (hx : n ≤ xs.length) (k1 : Ex d m (nx, lv, r, ov G (L.set i (a, cR lim cap (xs.take n)))) Q) : Ex d m (pc, lv, .int x :: .ref a :: r, ov G L) Q := by
  refine Ex.psz he hf ho (ov_get hA i hi) h0 hn hx ?_
  rw [ov_set hA i hi]
  exact k1
end OVX

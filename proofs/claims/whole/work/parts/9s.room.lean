/-! The room of what stands before each call. -/
def bdC (i : Nat) : Nat := if i = 3 ∨ i = 8 ∨ i = 363 then 40001 else if i = 4 ∨ i = 5 ∨ i = 9 ∨ i = 10 then 2001 else 91
def bdS (i : Nat) : Nat := if i = 3 ∨ i = 8 ∨ i = 363 ∨ i = 365 ∨ i = 366 ∨ i = 376 ∨ i = 377 then 120003 else if i = 4 ∨ i = 5 ∨ i = 9 ∨ i = 10 then 6003 else 723
theorem bdC_ge (i : Nat) : 91 ≤ bdC i := by
  unfold bdC
  (repeat' split) <;> omega
theorem bdS_ge (i : Nat) : 723 ≤ bdS i := by
  unfold bdS
  (repeat' split) <;> omega
def bsm (f : Nat → Nat) : Nat → Nat → Nat
  | 0, _ => 0
  | n + 1, k => f k + bsm f n (k + 1)
theorem bsm_le (f : Nat → Nat) : ∀ (n n' k : Nat), n ≤ n' → bsm f n k ≤ bsm f n' k
  | 0, _, _, _ => Nat.zero_le _
  | n + 1, 0, _, h => absurd h (by omega)
  | n + 1, n' + 1, k, h => Nat.add_le_add_left (bsm_le f n n' (k + 1) (by omega)) _
theorem bsm_sum {w : bo_C → Nat} {f : Nat → Nat} : ∀ (G : bo_G) (k : Nat), (∀ i c, G[i]? = some c → w c ≤ f (k + i)) → (G.map w).sum ≤ bsm f G.length k
  | [], _, _ => Nat.le_refl _
  | c :: G, k, h => by
    have h0 := h 0 c rfl
    have ih := bsm_sum (w := w) (f := f) G (k + 1) fun i c hi => by
      have := h (i + 1) c hi
      rw [show k + 1 + i = k + (i + 1) by omega]
      exact this
    show w c + (G.map w).sum ≤ f k + bsm f G.length (k + 1)
    have e : f (k + 0) = f k := rfl
    omega
theorem php : ∀ (n : Nat) (l : List Nat), l.Nodup → (∀ x ∈ l, ∃ m, m < n ∧ x = 378 + 6 * m) → l.length ≤ n
  | 0, l, _, h => by
    cases l with
    | nil => exact Nat.le_refl _
    | cons a l =>
      obtain ⟨m, hm, -⟩ := h a List.mem_cons_self
      exact absurd hm (Nat.not_lt_zero m)
  | n + 1, l, hd, h => by
    have h1 := php n (l.erase (378 + 6 * n)) (hd.erase _) fun x hx => by
      obtain ⟨h2, h3⟩ := (List.Nodup.mem_erase_iff hd).mp hx
      obtain ⟨m, hm, e⟩ := h x h3
      exact ⟨m, by omega, e⟩
    have h4 : l.length - 1 ≤ (l.erase (378 + 6 * n)).length := by
      rw [List.length_erase]
      split <;> omega
    omega
theorem php_mem {n m : Nat} {l : List Nat} (hd : l.Nodup) (h : ∀ x ∈ l, ∃ m, m < n ∧ x = 378 + 6 * m) (hn : l.length = n) (hm : m < n) : 378 + 6 * m ∈ l := by
  refine Decidable.byContradiction fun q => ?_
  have := php n ((378 + 6 * m) :: l) (List.nodup_cons.mpr ⟨q, hd⟩) fun x hx => by
    rcases List.mem_cons.mp hx with e | e
    · exact ⟨m, hm, e⟩
    · exact h x e
  rw [List.length_cons] at this
  omega
/-- a cell within its bound -/
def SM (G : bo_G) (i : Nat) : Prop := ∀ c, G[i]? = some c → bo_wC c ≤ bdC i ∧ bo_wS c ≤ bdS i
section SMs
variable {G : bo_G} {i : Nat}
theorem SM.o {c : Nat} {fs : List Value} (h : G[i]? = some (cO c fs)) : SM G i := by
  intro c' h'
  rw [h] at h'
  cases h'
  have h1 := bdC_ge i
  have h2 := bdS_ge i
  have h3 : bo_N c ≤ 32 := by
    unfold bo_N
    split <;> omega
  exact ⟨by show 1 ≤ bdC i; omega, by show bo_N c ≤ bdS i; omega⟩
theorem SM.ci {n : Nat} {f : Nat → Int32} (h : G[i]? = some (cI n f)) (hn : n ≤ bdS i) : SM G i := by
  intro c' h'
  rw [h] at h'
  cases h'
  have h1 := bdC_ge i
  exact ⟨by show 1 ≤ bdC i; omega, hn⟩
theorem SM.q {c n : Nat} {f : Nat → Option Nat} (h : G[i]? = some (cQ c n f)) (hn : n ≤ 723) : SM G i := by
  intro c' h'
  rw [h] at h'
  cases h'
  have h1 := bdC_ge i
  have h2 := bdS_ge i
  exact ⟨by show 1 ≤ bdC i; omega, by show n ≤ bdS i; omega⟩
theorem SM.r {lim cap : Nat} {xs : List Int32} (hc : CP G) (h : G[i]? = some (cR lim cap xs)) (h1 : 1 + lim ≤ bdC i) (h2 : 3 + 3 * lim ≤ bdS i) : SM G i := by
  intro c' h'
  have hcap := hc _ _ _ _ h
  rw [h] at h'
  cases h'
  refine ⟨by show 1 + cap ≤ bdC i; omega, ?_⟩
  show 3 + 2 * cap + (if lim ≤ cap then lim else 0) ≤ bdS i
  split <;> omega
theorem SM.r' {lim cap : Nat} {xs : List Int32} (hc : CP G) (h : G[i]? = some (cR lim cap xs)) (hl : lim ≤ 90) : SM G i := by
  have h1 := bdC_ge i
  have h2 := bdS_ge i
  exact SM.r hc h (by omega) (by omega)
end SMs
theorem RW.sm {G : bo_G} {a : Nat} {y : rlT} {im pl en : List Int32} {f : Nat → Option Nat} (h : RW G a y im pl en f) (hc : CP G) (ha : a = 2 ∨ a = 7) {i : Nat} (h1 : a ≤ i) (h2 : i ≤ a + 4) : SM G i := by
  obtain ⟨g0, ⟨c1, g1⟩, ⟨c2, g2⟩, ⟨c3, g3⟩, g4⟩ := h
  rcases (show i = a ∨ i = a + 1 ∨ i = a + 2 ∨ i = a + 3 ∨ i = a + 4 by omega) with e | e | e | e | e <;> subst e
  · exact SM.o g0
  · rcases ha with e | e <;> subst e <;> exact SM.r hc g1 (by decide) (by decide)
  · rcases ha with e | e <;> subst e <;> exact SM.r hc g2 (by decide) (by decide)
  · rcases ha with e | e <;> subst e <;> exact SM.r hc g3 (by decide) (by decide)
  · exact SM.q g4 (by omega)
theorem VC.sm {G : bo_G} {u : Nat} {x : vxT} {K : vkT} (h : VC G u x K) (hc : CP G) {i : Nat} (h1 : u ≤ i) (h2 : i < u + 6) : SM G i := by
  obtain ⟨g0, ⟨c1, g1⟩, ⟨c2, g2⟩, ⟨c3, g3⟩, ⟨c4, g4⟩, ⟨c5, g5⟩⟩ := h
  rcases (show i = u ∨ i = u + 1 ∨ i = u + 2 ∨ i = u + 3 ∨ i = u + 4 ∨ i = u + 5 by omega) with e | e | e | e | e | e <;> subst e
  · exact SM.o g0
  · exact SM.r' hc g1 (by omega)
  · exact SM.r' hc g2 (by omega)
  · exact SM.r' hc g3 (by omega)
  · exact SM.r' hc g4 (by omega)
  · exact SM.r' hc g5 (by omega)
theorem NT.sm {G : bo_G} {us : List Nat} {lg : Nat → Int32} {E : Nat} (h : NT G us lg E) (hc : CP G) {u i : Nat} (hu : u ∈ us) (h1 : u ≤ i) (h2 : i < u + 6) : SM G i := by
  obtain ⟨j, hj, e⟩ := List.getElem_of_mem hu
  obtain ⟨x, K, V, -⟩ := h.2.2.2.2 j u (by rw [List.getElem?_eq_getElem hj, e])
  exact V.sm hc h1 h2
theorem VI.sm {G : bo_G} (h : VI G) (hc : CP G) {i : Nat} (h1 : 12 ≤ i) (h2 : i < 358) : SM G i := by
  obtain ⟨pc, ro, ve, kn, th, sf, mk, st, ss, ds, ps, bu, ow, so, sd, td, md, tm, gs, ys, os, g12, g13, hP, ⟨v0, ⟨c1, v1⟩, ⟨c2, v2⟩, ⟨c3, v3⟩⟩, -, ⟨p0, ⟨c4, p1⟩, ⟨c5, p2⟩, ⟨c6, p3⟩⟩⟩ := h
  by_cases q : i < 22
  · rcases (show i = 12 ∨ i = 13 ∨ i = 14 ∨ i = 15 ∨ i = 16 ∨ i = 17 ∨ i = 18 ∨ i = 19 ∨ i = 20 ∨ i = 21 by omega) with e | e | e | e | e | e | e | e | e | e <;> subst e
    · exact SM.o g12
    · exact SM.q g13 (by omega)
    · exact SM.o v0
    · exact SM.r' hc v1 (by omega)
    · exact SM.r' hc v2 (by omega)
    · exact SM.r' hc v3 (by omega)
    · exact SM.o p0
    · exact SM.r' hc p1 (by omega)
    · exact SM.r' hc p2 (by omega)
    · exact SM.r' hc p3 (by omega)
  · obtain ⟨c, S, ⟨kd, sg, ra, sh, sp, we, mn, pa, pd, pt, md, pw, gd, pl, rfl⟩, ⟨e0, e1, e2⟩, -⟩ := hP ((i - 22) / 14) (by omega)
    rcases (show i = 22 + 14 * ((i - 22) / 14) ∨ i = 22 + 14 * ((i - 22) / 14) + 1 ∨ (∃ j, j < 12 ∧ i = 22 + 14 * ((i - 22) / 14) + 2 + j) by
      have := Nat.mod_lt (i - 22) (show 0 < 14 by omega)
      by_cases q1 : (i - 22) % 14 = 0
      · exact Or.inl (by omega)
      · by_cases q2 : (i - 22) % 14 = 1
        · exact Or.inr (Or.inl (by omega))
        · exact Or.inr (Or.inr ⟨(i - 22) % 14 - 2, by omega, by omega⟩)) with e | e | ⟨j, hj, e⟩
    · rw [e]; exact SM.o e0
    · rw [e]; exact SM.q e1 (by omega)
    · rw [e]; exact SM.o (e2 j hj)
theorem KS.sm {G : bo_G} {b : Nat} {us ws : List Nat} {lg : Nat → Int32} {E fx : Nat} {st sh on : Int32} {es ks ts : List Int32} {rs : Nat} (K : KS G b us ws lg E fx st sh es on ks ts rs) (hc : CP G) {i : Nat} (h0 : 1 ≤ i) (hi : i < G.length) (h3 : ¬ (364 ≤ i ∧ i < 378)) : SM G i := by
  obtain ⟨⟨hb, g1, -⟩, ⟨C, -, -, -⟩, ⟨hI, ⟨h358, ⟨c9, h359⟩⟩, -, ⟨c0, tt, h360⟩, ⟨h361, ⟨c8, h362⟩⟩, -, ⟨c3, h363⟩, -⟩, hlen, ⟨lg2, E2, ke2, C2, -⟩, hd⟩ := K
  by_cases q : i < 378
  · rcases (show i = 1 ∨ (b ≤ i ∧ i ≤ b + 4) ∨ (9 - b ≤ i ∧ i ≤ 9 - b + 4) ∨ (12 ≤ i ∧ i < 358) ∨ i = 358 ∨ i = 359 ∨ i = 360 ∨ i = 361 ∨ i = 362 ∨ i = 363 by omega) with e | e | e | e | e | e | e | e | e | e
    · subst e; exact SM.o g1
    · exact C.1.sm hc hb e.1 e.2
    · exact C2.1.sm hc (by omega) e.1 e.2
    · exact hI.sm hc e.1 e.2
    · subst e; exact SM.o h358
    · subst e; exact SM.r' hc h359 (by omega)
    · subst e; exact SM.r' hc h360 (by omega)
    · subst e; exact SM.o h361
    · subst e; exact SM.r' hc h362 (by omega)
    · subst e; exact SM.r hc h363 (by decide) (by decide)
  · obtain ⟨u1, u2, u3, u4⟩ := C.cus
    obtain ⟨w1, w2, w3, w4⟩ := C2.cus
    have hm := php_mem (n := us.length + ws.length) (m := (i - 378) / 6) (l := us ++ ws) (List.nodup_append.mpr ⟨u2, w2, fun a ha b hb e => hd a ha (by rw [e]; exact hb)⟩) (fun x hx => by
      rcases List.mem_append.mp hx with z | z
      · obtain ⟨m, e⟩ := u3 x z
        have := u4 x z
        exact ⟨m, by omega, e⟩
      · obtain ⟨m, e⟩ := w3 x z
        have := w4 x z
        exact ⟨m, by omega, e⟩) (List.length_append) (by omega)
    rcases List.mem_append.mp hm with z | z
    · exact C.2.sm hc z (by omega) (by omega)
    · exact C2.2.sm hc z (by omega) (by omega)
theorem RS.sm {G : bo_G} {lg : Nat → Int32} {E fx mn : Nat} {gv ls : Nat → Int32} {ts : List Int32} {st sh shs rs : Int32} (h : RS G lg E fx st sh shs gv mn ls ts rs) {i : Nat} (h1 : 364 ≤ i) (h2 : i < 378) : SM G i := by
  obtain ⟨nn, im, imf, old, tpf, ⟨w, pt, vl, pp, va, pa, wa, ⟨⟨e0, -⟩, ⟨d1, d2, d3, d4, d5, d6, d7, d8⟩, -⟩, -⟩, ⟨c1, c2, c3, c4, c5⟩, -⟩ := h
  rcases (show i = 364 ∨ i = 365 ∨ i = 366 ∨ i = 367 ∨ i = 368 ∨ i = 369 ∨ i = 370 ∨ i = 371 ∨ i = 372 ∨ i = 373 ∨ i = 374 ∨ i = 375 ∨ i = 376 ∨ i = 377 by omega) with e | e | e | e | e | e | e | e | e | e | e | e | e | e <;> subst e
  · exact SM.o e0
  · exact SM.ci d1 (by decide)
  · exact SM.ci c1 (by decide)
  · exact SM.ci d2 (by decide)
  · exact SM.ci d3 (by decide)
  · exact SM.ci d4 (by decide)
  · exact SM.ci d5 (by decide)
  · exact SM.ci d6 (by decide)
  · exact SM.ci d7 (by decide)
  · exact SM.ci d8 (by decide)
  · exact SM.ci c2 (by decide)
  · exact SM.ci c3 (by decide)
  · exact SM.ci c4 (by decide)
  · exact SM.ci c5 (by decide)
theorem INV.room {G : bo_G} {L : Nat} {xs : Nat → Int32} (h : INV G) (hc : CP G) (h0 : G[0]? = some (cS L xs)) : bo_uC G ≤ 600000 ∧ bo_uS G ≤ 7302250 := by
  obtain ⟨b, us, ws, lg, E, fx, st, sh, shs, gv, es, mn, ls, on, ks, ts, rs, K, R, -⟩ := h
  have all : ∀ i, SM G i := fun i c hi => by
    have hl := (List.getElem?_eq_some_iff.mp hi).1
    by_cases q0 : i = 0
    · subst q0
      rw [h0] at hi
      cases hi
      exact ⟨Nat.zero_le _, Nat.zero_le _⟩
    · by_cases q : 364 ≤ i ∧ i < 378
      · exact R.sm q.1 q.2 c hi
      · exact K.sm hc (by omega) hl q c hi
  have hlen : G.length ≤ 738 := by
    obtain ⟨-, ⟨C, -⟩, -, hlen, ⟨lg2, E2, ke2, C2, -⟩, -⟩ := K
    have := C.cus.1
    have := C2.cus.1
    omega
  refine ⟨Nat.le_trans (bsm_sum G 0 fun i c hi => ?_) (Nat.le_trans (bsm_le bdC _ _ 0 hlen) (by decide +kernel)), Nat.le_trans (bsm_sum G 0 fun i c hi => ?_) (Nat.le_trans (bsm_le bdS _ _ 0 hlen) (by decide +kernel))⟩
  · rw [Nat.zero_add]
    exact (all i c hi).1
  · rw [Nat.zero_add]
    exact (all i c hi).2

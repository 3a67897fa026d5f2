/-! The class's whole state. -/
def KS (G : bo_G) (b : Nat) (us ws : List Nat) (lg : Nat → Int32) (E fx : Nat) (st sh : Int32) (es : List Int32) (on : Int32) (ks ts : List Int32) (rs : Nat) : Prop := ((b = 2 ∨ b = 7) ∧ G[1]? = some (mainC b st (nI rs)) ∧ rs ≤ 8) ∧ (CR G b us lg E (nI (acl lg fx).length) ∧ WF lg E ∧ fx ≤ E ∧ ∀ i, fx ≤ i → i < E → ¬ cod lg i = 0) ∧ (VI G ∧ HW G 358 sh es ∧ es.length ≤ 40 ∧ (∃ c tt, G[360]? = some (cR 12 c tt)) ∧ LW G 361 on ks ∧ ks.length ≤ 90 ∧ (∃ c, G[363]? = some (cR 40000 c ts)) ∧ ts.length ≤ 40000) ∧ G.length = 378 + 6 * (us.length + ws.length) ∧ (∃ lg2 E2 ke2, CR G (9 - b) ws lg2 E2 ke2 ∧ WF lg2 E2) ∧ ∀ u ∈ us, u ∉ ws
/-- the script's cell and the reference's -/
def FK (G G' : bo_G) : Prop := ∀ j, j = 0 ∨ (364 ≤ j ∧ j ≤ 377) → G'[j]? = G[j]?
theorem FK.rfl' (G : bo_G) : FK G G := fun _ _ => rfl
theorem FK.trans {G G1 G2 : bo_G} (h : FK G G1) (h2 : FK G1 G2) : FK G G2 := fun j hj => (h2 j hj).trans (h j hj)
section KSs
variable {d b : Nat} {G G1 : bo_G} {Q : Option Value → bo_G → Prop} {us us' ws : List Nat} {lg lg' : Nat → Int32} {E fx c : Nat} {nn : Nat → Int32} {st sh on : Int32} {es ks ts : List Int32} {rs : Nat}
theorem KS.E6 (K : KS G b us ws lg E fx st sh es on ks ts rs) : E ≤ 6000 := by
  have hW := K.2.1.2.1
  have := acl_osl (lg := lg) (E := E)
  have := hW.2.2.1
  have := hW.2.2.2
  omega
theorem KS.bq (K : KS G b us ws lg E fx st sh es on ks ts rs) : BQ G b us lg E (nI (acl lg fx).length) := ⟨K.1.1, ⟨st, nI rs, K.1.2.1⟩, K.2.1.1, K.2.1.2.1, K.2.2.1.1⟩
theorem CR.cus (C : CR G b us lg E st) : us.length ≤ 30 ∧ us.Nodup ∧ (∀ u ∈ us, ∃ m, u = 378 + 6 * m) ∧ ∀ u ∈ us, u + 6 ≤ G.length := by
  obtain ⟨h1, -, h3, h4, h5⟩ := C.2
  refine ⟨h1, h3, h4, fun u hu => ?_⟩
  obtain ⟨j, hj, e⟩ := List.getElem_of_mem hu
  obtain ⟨x, K, V, -⟩ := h5 j u (by rw [List.getElem?_eq_getElem hj, e])
  exact V.lt
/-- the spare roll, where cells of its own stay as they are -/
theorem CR.of' {ke : Int32} (C : CR G b us lg E ke) (hb : b = 2 ∨ b = 7) (e : ∀ j, (b ≤ j ∧ j ≤ b + 4) ∨ (∃ u ∈ us, u ≤ j ∧ j < u + 6) → G1[j]? = G[j]?) : CR G1 b us lg E ke :=
  ⟨C.1.of fun j h1 h2 => e j (Or.inl ⟨h1, h2⟩), C.2.of fun u hu j h1 h2 => e j (Or.inr ⟨u, hu, h1, h2⟩)⟩
/-- cells below 378 but the roll's own -/
theorem KS.low (K : KS G b us ws lg E fx st sh es on ks ts rs) (F : FD b us G us' G1) {j : Nat} (hj : j < 378) (h : ¬ (b ≤ j ∧ j ≤ b + 4)) : G1[j]? = G[j]? := by
  refine F.2 j (by have := K.2.2.2.1; omega) h fun u hu z => ?_
  obtain ⟨m, hm⟩ := K.2.1.1.cus.2.2.1 u hu
  omega
theorem KS.fkd (K : KS G b us ws lg E fx st sh es on ks ts rs) (F : FD b us G us' G1) : FK G G1 := fun j hj => K.low F (by omega) (by have := K.1.1; omega)
/-- the roll in use changed -/
theorem KS.kfd {E' fx' : Nat} (K : KS G b us ws lg E fx st sh es on ks ts rs) (F : FD b us G us' G1) (C' : CR G1 b us' lg' E' (nI (acl lg' fx').length)) (hW' : WF lg' E') (hf : fx' ≤ E') (hc : ∀ i, fx' ≤ i → i < E' → ¬ cod lg' i = 0) : KS G1 b us' ws lg' E' fx' st sh es on ks ts rs := by
  have low : ∀ {j : Nat}, j < 378 → ¬ (b ≤ j ∧ j ≤ b + 4) → G1[j]? = G[j]? := fun h1 h2 => K.low F h1 h2
  obtain ⟨⟨hb, g1, h8⟩, ⟨C, hW, -, -⟩, ⟨hI, hH, l1, ⟨c0, tt, h360⟩, hL, l2, ⟨c3, h363⟩, l3⟩, hlen, ⟨lg2, E2, ke2, C2, hW2⟩, hd⟩ := K
  obtain ⟨u1, u2, u3, u4⟩ := C.cus
  obtain ⟨w1, w2, w3, w4⟩ := C2.cus
  have hwu : ∀ w ∈ ws, ∀ j, w ≤ j → j < w + 6 → G1[j]? = G[j]? := fun w hw j h1 h2 => by
    obtain ⟨m, hm⟩ := w3 w hw
    have := w4 w hw
    refine F.2 j (by omega) (by omega) fun u hu z => ?_
    obtain ⟨m', hm'⟩ := u3 u hu
    have : u = w := by omega
    rw [this] at hu
    exact hd w hu hw
  have hb9 : (9 - b = 2 ∨ 9 - b = 7) := by omega
  refine ⟨⟨hb, by rw [low (by omega) (by omega)]; exact g1, h8⟩, ⟨C', hW', hf, hc⟩, ⟨hI.of fun j _ _ => low (by omega) (by omega), hH.of fun j _ _ => low (by omega) (by omega), l1, ⟨c0, tt, by rw [low (by omega) (by omega)]; exact h360⟩, hL.of fun j _ _ => low (by omega) (by omega), l2, ⟨c3, by rw [low (by omega) (by omega)]; exact h363⟩, l3⟩, ?_, ⟨lg2, E2, ke2, C2.of' hb9 fun j hj => ?_, hW2⟩, ?_⟩
  · obtain ⟨⟨vs, e1, -, e3⟩, -⟩ := F
    rw [e3, e1, List.length_append, hlen]
    omega
  · rcases hj with q | ⟨w, hw, q1, q2⟩
    · exact low (by omega) (by omega)
    · exact hwu w hw j q1 q2
  · obtain ⟨⟨vs, e1, e2, -⟩, -⟩ := F
    intro u hu hw
    rw [e1, List.mem_append] at hu
    rcases hu with q | q
    · exact hd u q hw
    · have := (e2 u q).1
      have := w4 u hw
      omega
theorem KS.act (K : KS G b us ws lg E fx st sh es on ks ts rs) (hc : c < 12) (hc0 : ¬ c = 0) (h0 : rfs lg E c nn = 0) (C' : CR G1 b us' (lgN lg E c nn) (E + 1) (nI (acl lg fx).length)) (F : FC b us G us' G1) : KS G1 b us' ws (lgN lg E c nn) (E + 1) fx st sh es on ks ts rs := by
  obtain ⟨-, ⟨-, hW, hf, hcc⟩, -⟩ := id K
  have ea : acl (lgN lg E c nn) fx = acl lg fx := acl_E lgN_E hf
  refine K.kfd F.fd (by rw [ea]; exact C') (WF_N hW hc h0).2.2 (by omega) fun i h1 h2 => ?_
  by_cases q : i = E
  · rw [q, lgN_cod]
    exact fun z => hc0 ((nI_eq (b := 0) (by omega) (by omega)).mp z)
  · rw [lgE_cod (lgN_E (nn := nn) (c := c)) (show i < E by omega)]
    exact hcc i h1 (by omega)
/-- cells that are no roll's and no vessel's changed: what stands there afterwards -/
theorem KS.mid {st' sh' on' : Int32} {es' ks' ts' : List Int32} {rs' : Nat} (K : KS G b us ws lg E fx st sh es on ks ts rs) (hl : G1.length = G.length) (e : ∀ j, (2 ≤ j ∧ j ≤ 11) ∨ 378 ≤ j → G1[j]? = G[j]?) (g1 : G1[1]? = some (mainC b st' (nI rs')) ∧ rs' ≤ 8) (m : VI G1 ∧ HW G1 358 sh' es' ∧ es'.length ≤ 40 ∧ (∃ c tt, G1[360]? = some (cR 12 c tt)) ∧ LW G1 361 on' ks' ∧ ks'.length ≤ 90 ∧ (∃ c, G1[363]? = some (cR 40000 c ts')) ∧ ts'.length ≤ 40000) : KS G1 b us ws lg E fx st' sh' es' on' ks' ts' rs' := by
  obtain ⟨⟨hb, -, -⟩, ⟨C, hW, hf, hcc⟩, -, hlen, ⟨lg2, E2, ke2, C2, hW2⟩, hd⟩ := K
  have hu := C.cus.2.2.1
  have hw := C2.cus.2.2.1
  refine ⟨⟨hb, g1⟩, ⟨C.of' hb fun j hj => e j ?_, hW, hf, hcc⟩, m, by rw [hl]; exact hlen, ⟨lg2, E2, ke2, C2.of' (by omega) fun j hj => e j ?_, hW2⟩, hd⟩
  · rcases hj with q | ⟨u, hu2, q1, q2⟩
    · omega
    · obtain ⟨m, hm⟩ := hu u hu2
      omega
  · rcases hj with q | ⟨u, hu2, q1, q2⟩
    · omega
    · obtain ⟨m, hm⟩ := hw u hu2
      omega
theorem ans_nn (hW : WF lg E) (hc : c < 12) (h : rfs lg E c nn = 0) : ¬ ansI lg E c nn < 0 := fun z => by
  have h1 := ans_ge hW hc h
  have h2 : (ansI lg E c nn).toInt < (0 : Int) := Int32.lt_iff_toInt_lt.mp z
  omega
theorem KS.set1 {st' : Int32} (K : KS G b us ws lg E fx st sh es on ks ts rs) : KS (G.set 1 (mainC b st' (nI rs))) b us ws lg E fx st' sh es on ks ts rs ∧ FK G (G.set 1 (mainC b st' (nI rs))) := by
  have ne : ∀ j, ¬ j = 1 → (G.set 1 (mainC b st' (nI rs)))[j]? = G[j]? := fun j hj => List.getElem?_set_ne fun z => hj z.symm
  obtain ⟨⟨hb, g1, h8⟩, -, ⟨hI, hH, l1, ⟨c0, tt, h360⟩, hL, l2, ⟨c3, h363⟩, l3⟩, -⟩ := id K
  refine ⟨K.mid List.length_set (fun j hj => ne j (by omega)) ⟨get_set g1, h8⟩ ⟨hI.of fun j _ _ => ne j (by omega), hH.of fun j _ _ => ne j (by omega), l1, ⟨c0, tt, by rw [ne _ (by omega)]; exact h360⟩, hL.of fun j _ _ => ne j (by omega), l2, ⟨c3, by rw [ne _ (by omega)]; exact h363⟩, l3⟩, fun j hj => ne j (by omega)⟩
/-- the status told -/
theorem t_told {r : Int32} (K : KS G b us ws lg E fx st sh es on ks ts rs) (k : ∀ G', KS G' b us ws lg E fx (if r < 0 then r else 0) sh es on ks ts rs → FK G G' → Q (some (.int r)) G') : Cx d mX10_told [.ref 1, .int r] G Q := by
  have g1 := K.1.2.1
  have hA := ap1 g1
  have k := k _ K.set1.1 K.set1.2
  refine Cx.body rfl rfl ?_
  refine Ex.lay [(1, mainC b st (nI rs))] (lay1 g1) ?_
  (repeat (first | refine Ex.go rfl rfl ?_ | refine Ex.gf rfl rfl (ov_get hA 0 rfl) (by rfl) (by rfl) ?_ | refine Ex.gf rfl rfl (ov_get hA 1 rfl) (by rfl) (by rfl) ?_ | refine Ex.gf rfl rfl (ov_get hA 2 rfl) (by rfl) (by rfl) ?_ | refine Ex.gf rfl rfl (ov_get hA 3 rfl) (by rfl) (by rfl) ?_ | refine Ex.gf rfl rfl (ov_get hA 4 rfl) (by rfl) (by rfl) ?_ | refine Ex.gf rfl rfl (ov_get hA 5 rfl) (by rfl) (by rfl) ?_ | refine Ex.gf rfl rfl (ov_get hA 6 rfl) (by rfl) (by rfl) ?_ | (refine Ex.pfo hA 0 rfl rfl rfl (by rfl) (by rfl) (by rfl) ?_; dsimp only [List.set]) | (refine Ex.pfo hA 1 rfl rfl rfl (by rfl) (by rfl) (by rfl) ?_; dsimp only [List.set]) | (refine Ex.pfo hA 2 rfl rfl rfl (by rfl) (by rfl) (by rfl) ?_; dsimp only [List.set]) | (refine Ex.pfo hA 3 rfl rfl rfl (by rfl) (by rfl) (by rfl) ?_; dsimp only [List.set]) | (refine Ex.pfo hA 4 rfl rfl rfl (by rfl) (by rfl) (by rfl) ?_; dsimp only [List.set]) | (refine Ex.pfo hA 5 rfl rfl rfl (by rfl) (by rfl) (by rfl) ?_; dsimp only [List.set]) | (refine Ex.pfo hA 6 rfl rfl rfl (by rfl) (by rfl) (by rfl) ?_; dsimp only [List.set])))
  refine Ex.br (fun c1 => ?_) (fun c1 => ?_)
  · rw [if_neg (show ¬ r < 0 from Int32.not_lt.mpr c1)] at k
    (repeat (first | refine Ex.go rfl rfl ?_ | refine Ex.gf rfl rfl (ov_get hA 0 rfl) (by rfl) (by rfl) ?_ | refine Ex.gf rfl rfl (ov_get hA 1 rfl) (by rfl) (by rfl) ?_ | refine Ex.gf rfl rfl (ov_get hA 2 rfl) (by rfl) (by rfl) ?_ | refine Ex.gf rfl rfl (ov_get hA 3 rfl) (by rfl) (by rfl) ?_ | refine Ex.gf rfl rfl (ov_get hA 4 rfl) (by rfl) (by rfl) ?_ | refine Ex.gf rfl rfl (ov_get hA 5 rfl) (by rfl) (by rfl) ?_ | refine Ex.gf rfl rfl (ov_get hA 6 rfl) (by rfl) (by rfl) ?_ | (refine Ex.pfo hA 0 rfl rfl rfl (by rfl) (by rfl) (by rfl) ?_; dsimp only [List.set]) | (refine Ex.pfo hA 1 rfl rfl rfl (by rfl) (by rfl) (by rfl) ?_; dsimp only [List.set]) | (refine Ex.pfo hA 2 rfl rfl rfl (by rfl) (by rfl) (by rfl) ?_; dsimp only [List.set]) | (refine Ex.pfo hA 3 rfl rfl rfl (by rfl) (by rfl) (by rfl) ?_; dsimp only [List.set]) | (refine Ex.pfo hA 4 rfl rfl rfl (by rfl) (by rfl) (by rfl) ?_; dsimp only [List.set]) | (refine Ex.pfo hA 5 rfl rfl rfl (by rfl) (by rfl) (by rfl) ?_; dsimp only [List.set]) | (refine Ex.pfo hA 6 rfl rfl rfl (by rfl) (by rfl) (by rfl) ?_; dsimp only [List.set])))
    refine Ex.ret rfl rfl rfl ?_
    exact k
  rw [if_pos (show r < 0 from Int32.not_le.mp c1)] at k
  (repeat (first | refine Ex.go rfl rfl ?_ | refine Ex.gf rfl rfl (ov_get hA 0 rfl) (by rfl) (by rfl) ?_ | refine Ex.gf rfl rfl (ov_get hA 1 rfl) (by rfl) (by rfl) ?_ | refine Ex.gf rfl rfl (ov_get hA 2 rfl) (by rfl) (by rfl) ?_ | refine Ex.gf rfl rfl (ov_get hA 3 rfl) (by rfl) (by rfl) ?_ | refine Ex.gf rfl rfl (ov_get hA 4 rfl) (by rfl) (by rfl) ?_ | refine Ex.gf rfl rfl (ov_get hA 5 rfl) (by rfl) (by rfl) ?_ | refine Ex.gf rfl rfl (ov_get hA 6 rfl) (by rfl) (by rfl) ?_ | (refine Ex.pfo hA 0 rfl rfl rfl (by rfl) (by rfl) (by rfl) ?_; dsimp only [List.set]) | (refine Ex.pfo hA 1 rfl rfl rfl (by rfl) (by rfl) (by rfl) ?_; dsimp only [List.set]) | (refine Ex.pfo hA 2 rfl rfl rfl (by rfl) (by rfl) (by rfl) ?_; dsimp only [List.set]) | (refine Ex.pfo hA 3 rfl rfl rfl (by rfl) (by rfl) (by rfl) ?_; dsimp only [List.set]) | (refine Ex.pfo hA 4 rfl rfl rfl (by rfl) (by rfl) (by rfl) ?_; dsimp only [List.set]) | (refine Ex.pfo hA 5 rfl rfl rfl (by rfl) (by rfl) (by rfl) ?_; dsimp only [List.set]) | (refine Ex.pfo hA 6 rfl rfl rfl (by rfl) (by rfl) (by rfl) ?_; dsimp only [List.set])))
  refine Ex.ret rfl rfl rfl ?_
  exact k
theorem KS.fw (K : KS G b us ws lg E fx st sh es on ks ts rs) (F : FW G G1) (hI : VI G1) : KS G1 b us ws lg E fx st sh es on ks ts rs ∧ FK G G1 := by
  obtain ⟨⟨hb, g1, h8⟩, -, ⟨-, hH, l1, ⟨c0, tt, h360⟩, hL, l2, ⟨c3, h363⟩, l3⟩, -⟩ := id K
  exact ⟨K.mid F.1 (fun j hj => F.2 j (by omega)) ⟨by rw [F.2 1 (by omega)]; exact g1, h8⟩ ⟨hI, hH.of fun j _ _ => F.2 j (by omega), l1, ⟨c0, tt, by rw [F.2 _ (by omega)]; exact h360⟩, hL.of fun j _ _ => F.2 j (by omega), l2, ⟨c3, by rw [F.2 _ (by omega)]; exact h363⟩, l3⟩, fun j hj => F.2 j (by omega)⟩
theorem KS.fl {on' : Int32} {ks' : List Int32} (K : KS G b us ws lg E fx st sh es on ks ts rs) (F : FL G G1) (hI : VI G1) (hL : LW G1 361 on' ks') (l2 : ks'.length ≤ 90) : KS G1 b us ws lg E fx st sh es on' ks' ts rs ∧ FK G G1 := by
  obtain ⟨⟨hb, g1, h8⟩, -, ⟨-, hH, l1, ⟨c0, tt, h360⟩, -, -, ⟨c3, h363⟩, l3⟩, -⟩ := id K
  exact ⟨K.mid F.1 (fun j hj => F.2 j (by omega) (by omega)) ⟨by rw [F.2 1 (by omega) (by omega)]; exact g1, h8⟩ ⟨hI, hH.of fun j _ _ => F.2 j (by omega) (by omega), l1, ⟨c0, tt, by rw [F.2 _ (by omega) (by omega)]; exact h360⟩, hL, l2, ⟨c3, by rw [F.2 _ (by omega) (by omega)]; exact h363⟩, l3⟩, fun j hj => F.2 j (by omega) (by omega)⟩
/-- what the reference does -/
theorem KS.fr (K : KS G b us ws lg E fx st sh es on ks ts rs) (F : FR G G1) : KS G1 b us ws lg E fx st sh es on ks ts rs ∧ G1[0]? = G[0]? := by
  obtain ⟨⟨hb, g1, h8⟩, -, ⟨hI, hH, l1, ⟨c0, tt, h360⟩, hL, l2, ⟨c3, h363⟩, l3⟩, -⟩ := id K
  exact ⟨K.mid F.1 (fun j hj => F.2 j (by omega)) ⟨by rw [F.2 1 (by omega)]; exact g1, h8⟩ ⟨hI.of fun j _ _ => F.2 j (by omega), hH.of fun j _ _ => F.2 j (by omega), l1, ⟨c0, tt, by rw [F.2 _ (by omega)]; exact h360⟩, hL.of fun j _ _ => F.2 j (by omega), l2, ⟨c3, by rw [F.2 _ (by omega)]; exact h363⟩, l3⟩, F.2 0 (by omega)⟩
end KSs

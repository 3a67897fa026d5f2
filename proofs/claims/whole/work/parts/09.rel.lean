/-! How the numbered cells stand in the machine's heap. -/
/-- the places of the kinds; the kinds of rows (ints, parts, spots, vessels); where the law's own cells begin; the row of lengths -/
abbrev bo_X : Type := va_G × (ClassId × ClassId × ClassId × ClassId) × Nat × Nat
def bo_cI (X : bo_X) : ClassId := X.2.1.1
def bo_cq (X : bo_X) (c : Nat) : ClassId := match c with
  | 2 => X.2.1.2.1
  | 6 => X.2.1.2.2.1
  | _ => X.2.1.2.2.2
def bo_Ad (X : bo_X) : Nat → Prop := fun q => X.2.2.1 ≤ q
def bo_U1 (U : State) : Prop := (∀ w ∈ bo_V, va_Nw w U) ∧ ∀ c, bo_ro c = true → va_AO (bo_R c) U
theorem bo_U1.warm {s U : State} (hW : s.WarmedH U.vm) (h : bo_U1 s) : bo_U1 U := by
  refine ⟨fun w hw => ?_, fun c hc => va_AO.moved hW.alike (h.2 c hc)⟩
  have h1 := h.1 w hw
  have h2 := (List.mem_filter.mp hw).2
  cases w <;> first | (cases h2; done) | exact va_Nw.warmF hW h1 | exact va_Nw.warmM hW h1
def bo_U (X : bo_X) (U : State) (H : Heap) : Prop := va_K X.1 bo_Cls [] U ∧ (ArrOfT U (bo_cI X) .int ∧ va_RA U (bo_cI X) .int) ∧ (∀ c, bo_ro c = true → ArrOfT U (bo_cq X c) (.object (bo_R c)) ∧ va_RA U (bo_cq X c) (.object (bo_R c))) ∧ va_Z "BoilerRoll$Roll" "LENGTHS" "[I" (.ref X.2.2.2) (bo_Ad X) U H ∧ va_T .int X.2.2.2 12 (fun j => .int (bo_LEN j)) (bo_Ad X) U H ∧ X.2.2.1 ≤ H.size ∧ bo_U1 U
theorem bo_U.moved {X : bo_X} {u U : State} {H : Heap} (hvm : u.vm.Alike U.vm) (hV : bo_U1 U) (h : bo_U X u H) : bo_U X U H := by
  obtain ⟨h1, h2, h3, h4, h5, h6⟩ := h
  exact ⟨va_K.moved hvm h1, ⟨arrOfT_moved hvm h2.1, h2.2.moved hvm⟩, fun c hc => ⟨arrOfT_moved hvm (h3 c hc).1, (h3 c hc).2.moved hvm⟩, h4.moved hvm, h5.moved hvm, h6.1, hV⟩
theorem bo_U.kept {X : bo_X} {U : State} {H H1 : Heap} (h : bo_U X U H) (hz : H.size ≤ H1.size) (hq : ∀ a : Nat, a < H.size → ¬ bo_Ad X a → H1[a]? = H[a]?) : bo_U X U H1 := by
  obtain ⟨h1, h2, h3, h4, h5, h6⟩ := h
  exact ⟨h1, h2, h3, h4.kept hq, h5.kept hq, Nat.le_trans h6.1 hz, h6.2⟩
def bo_sv (ad : Nat → Nat) : Value → Value
  | .ref a => .ref (ad a)
  | v => v
theorem bo_sv_cat (ad : Nat → Nat) (v : Value) : (bo_sv ad v).category = v.category := by cases v <;> rfl
theorem bo_sv_rf (ad : Nat → Nat) (r : Option Nat) : bo_sv ad (va_rf r) = va_rf (r.map ad) := by cases r <;> rfl
def bo_okR (w : Nat × Nat × List Int32) : Prop := 1 ≤ w.1 ∧ w.1 ≤ 40000 ∧ w.2.2.length ≤ w.2.1 ∧ w.2.1 ≤ w.1 ∧ 1 ≤ w.2.1
def bo_rc (X : bo_X) (ad pa : Nat → Nat) (U : State) (H : Heap) (i : Nat) : bo_C → Prop
  | .inl o => va_at X.1 bo_Cls (ad i, .inr (o.1, o.2.map (bo_sv ad))) H ∧ bo_Ad X (ad i)
  | .inr (.inl w) => va_at X.1 bo_Cls (ad i, .inl (bo_cI X, w.1, .inl w.2)) H ∧ bo_Ad X (ad i)
  | .inr (.inr (.inl w)) => bo_ro w.1 = true ∧ va_at X.1 bo_Cls (ad i, .inl (bo_cq X w.1, w.2.1, .inr (.inr (.inr (.inr (fun j => (w.2.2 j).map ad)))))) H ∧ bo_Ad X (ad i)
  | .inr (.inr (.inr (.inl w))) => bo_okR w ∧ va_at X.1 bo_Cls (ad i, .inr (4, [.int (Int32.ofNat w.1), .ref (pa i), .int (Int32.ofNat w.2.2.length)])) H ∧ bo_Ad X (ad i) ∧ bo_Ad X (pa i) ∧ ∃ f, va_at X.1 bo_Cls (pa i, .inl (bo_cI X, w.2.1, .inl f)) H ∧ ∀ j, j < w.2.2.length → f j = w.2.2.getD j 0
  | .inr (.inr (.inr (.inr w))) => va_X (ad i) w.1 w.2 U H ∧ ¬ bo_Ad X (ad i)
def bo_rk (n : Nat) : Value → Prop
  | .ref a => a < n
  | _ => True
theorem bo_rk.mono {n k : Nat} {v : Value} (h : bo_rk n v) (hk : n ≤ k) : bo_rk k v := by
  cases v <;> first | exact Nat.lt_of_lt_of_le h hk | exact trivial
theorem bo_sv_eq {n : Nat} {ad ad' : Nat → Nat} (h : ∀ i, i < n → ad' i = ad i) {v : Value} (hv : bo_rk n v) : bo_sv ad' v = bo_sv ad v := by
  cases v <;> first | (show Value.ref _ = Value.ref _; rw [h _ hv]) | rfl
theorem bo_sv_map {n : Nat} {ad ad' : Nat → Nat} (h : ∀ i, i < n → ad' i = ad i) {vs : List Value} (hv : ∀ v ∈ vs, bo_rk n v) : vs.map (bo_sv ad') = vs.map (bo_sv ad) :=
  List.map_congr_left fun v hm => bo_sv_eq h (hv v hm)
def bo_rkc (n : Nat) : bo_C → Prop
  | .inl o => ∀ v ∈ o.2, bo_rk n v
  | .inr (.inr (.inl w)) => ∀ j a, w.2.2 j = some a → a < n
  | _ => True
theorem bo_rkc.mono {n k : Nat} {c : bo_C} (h : bo_rkc n c) (hk : n ≤ k) : bo_rkc k c := by
  match c, h with
  | .inl o, h => exact fun v hv => (h v hv).mono hk
  | .inr (.inl w), _ => exact trivial
  | .inr (.inr (.inl w)), h => exact fun j a ha => Nat.lt_of_lt_of_le (h j a ha) hk
  | .inr (.inr (.inr (.inl w))), _ => exact trivial
  | .inr (.inr (.inr (.inr w))), _ => exact trivial
def bo_isR : bo_C → Bool
  | .inr (.inr (.inr (.inl _))) => true
  | _ => false
/-- the cells G stand in the heap H, cell i at ad i, the ints of a Row at pa i -/
def bo_Rel (X : bo_X) (ad pa : Nat → Nat) (U : State) (H : Heap) (G : bo_G) : Prop :=
  bo_U X U H ∧ (∀ (i : Nat) (c : bo_C), G[i]? = some c → bo_rc X ad pa U H i c ∧ bo_rkc G.length c) ∧ (∀ i j : Nat, i < G.length → j < G.length → ad i = ad j → i = j) ∧ (∀ (i j : Nat) (c d : bo_C), G[i]? = some c → G[j]? = some d → bo_isR c = true → bo_isR d = true → pa i = pa j → i = j) ∧ ∀ (i j : Nat) (c : bo_C), G[i]? = some c → bo_isR c = true → j < G.length → pa i ≠ ad j
theorem bo_rc.kept {X : bo_X} {ad pa : Nat → Nat} {U : State} {H H1 : Heap} {i : Nat} {c : bo_C} (h : bo_rc X ad pa U H i c) (h1 : H1[ad i]? = H[ad i]?) (h2 : bo_isR c = true → H1[pa i]? = H[pa i]?) : bo_rc X ad pa U H1 i c := by
  match c, h with
  | .inl o, h => exact ⟨h.1.kept h1, h.2⟩
  | .inr (.inl w), h => exact ⟨h.1.kept h1, h.2⟩
  | .inr (.inr (.inl w)), h => exact ⟨h.1, h.2.1.kept h1, h.2.2⟩
  | .inr (.inr (.inr (.inl w))), h =>
    obtain ⟨q1, q2, q3, q4, f, q5, q6⟩ := h
    exact ⟨q1, q2.kept h1, q3, q4, f, q5.kept (h2 rfl), q6⟩
  | .inr (.inr (.inr (.inr w))), h => exact ⟨h.1.kept h1, h.2⟩
theorem bo_rc.lt {X : bo_X} {ad pa : Nat → Nat} {U : State} {H : Heap} {i : Nat} {c : bo_C} (h : bo_rc X ad pa U H i c) : ad i < H.size := by
  match c, h with
  | .inl o, h => exact h.1.lt
  | .inr (.inl w), h => exact h.1.lt
  | .inr (.inr (.inl w)), h => exact h.2.1.lt
  | .inr (.inr (.inr (.inl w))), h => exact h.2.1.lt
  | .inr (.inr (.inr (.inr w))), h =>
    obtain ⟨⟨scr, h1, -⟩, -⟩ := h
    exact (Array.getElem?_eq_some_iff.mp h1).1
theorem bo_rc.ltp {X : bo_X} {ad pa : Nat → Nat} {U : State} {H : Heap} {i : Nat} {c : bo_C} (h : bo_rc X ad pa U H i c) (hr : bo_isR c = true) : pa i < H.size := by
  rcases c with o | w | w | w | w
  · cases hr
  · cases hr
  · cases hr
  · obtain ⟨q1, q2, q3, q4, f, q5, q6⟩ := h
    exact q5.lt
  · cases hr
/-- cells whose numbers are known stand the same under another naming that agrees on them -/
theorem bo_rc.named {X : bo_X} {ad pa ad' pa' : Nat → Nat} {U : State} {H : Heap} {i n : Nat} {c : bo_C} (h : bo_rc X ad pa U H i c) (hk : bo_rkc n c) (hi : i < n) (ha : ∀ j, j < n → ad' j = ad j) (hp : bo_isR c = true → pa' i = pa i) : bo_rc X ad' pa' U H i c := by
  match c, h, hk with
  | .inl o, h, hk =>
    refine ⟨?_, by rw [ha i hi]; exact h.2⟩
    rw [ha i hi, bo_sv_map ha hk]
    exact h.1
  | .inr (.inl w), h, _ => exact ⟨by rw [ha i hi]; exact h.1, by rw [ha i hi]; exact h.2⟩
  | .inr (.inr (.inl w)), h, hk =>
    refine ⟨h.1, ?_, by rw [ha i hi]; exact h.2.2⟩
    have e : (fun j => (w.2.2 j).map ad') = fun j => (w.2.2 j).map ad := by
      funext j
      cases hj : w.2.2 j with
      | none => rfl
      | some a => exact congrArg some (ha a (hk j a hj))
    rw [ha i hi, e]
    exact h.2.1
  | .inr (.inr (.inr (.inl w))), h, _ =>
    have e := hp rfl
    obtain ⟨q1, q2, q3, q4, f, q5, q6⟩ := h
    exact ⟨q1, by rw [ha i hi, e]; exact q2, by rw [ha i hi]; exact q3, by rw [e]; exact q4, f, by rw [e]; exact q5, q6⟩
  | .inr (.inr (.inr (.inr w))), h, _ => exact ⟨by rw [ha i hi]; exact h.1, by rw [ha i hi]; exact h.2⟩
theorem bo_lt {G : bo_G} {i : Nat} {c : bo_C} (h : G[i]? = some c) : i < G.length := (List.getElem?_eq_some_iff.mp h).1
/-- one cell is written -/
theorem bo_Rel.upd {X : bo_X} {ad pa : Nat → Nat} {U : State} {H H1 : Heap} {G : bo_G} {i : Nat} {c0 c1 : bo_C} (h : bo_Rel X ad pa U H G) (hi : G[i]? = some c0) (h1 : bo_rc X ad pa U H1 i c1) (h2 : bo_rkc G.length c1) (hr : bo_isR c1 = bo_isR c0) (hA : bo_Ad X (ad i)) (hP : bo_isR c0 = true → bo_Ad X (pa i)) (hz : H1.size = H.size) (hs : ∀ q, q ≠ ad i → (bo_isR c0 = true → q ≠ pa i) → H1[q]? = H[q]?) : bo_Rel X ad pa U H1 (G.set i c1) := by
  obtain ⟨e1, e2, e3, e4, e5⟩ := h
  have hlt := bo_lt hi
  have hget : ∀ (j : Nat) (c : bo_C), (G.set i c1)[j]? = some c → (j = i ∧ c = c1) ∨ (j ≠ i ∧ G[j]? = some c) := by
    intro j c hj
    by_cases hji : j = i
    · subst hji
      rw [List.getElem?_set_self hlt] at hj
      exact Or.inl ⟨rfl, (Option.some.inj hj).symm⟩
    · rw [List.getElem?_set_ne (Ne.symm hji)] at hj
      exact Or.inr ⟨hji, hj⟩
  have hrow : ∀ (j : Nat) (c : bo_C), (G.set i c1)[j]? = some c → bo_isR c = true → ∃ d, G[j]? = some d ∧ bo_isR d = true := by
    intro j c hj hc
    rcases hget j c hj with ⟨rfl, rfl⟩ | ⟨hne, hj'⟩
    · exact ⟨c0, hi, by rw [← hr]; exact hc⟩
    · exact ⟨c, hj', hc⟩
  refine ⟨e1.kept (by omega) (fun a _ ha => hs a (fun q => ha (by rw [q]; exact hA)) (fun hr0 q => ha (by rw [q]; exact hP hr0))), ?_, ?_, ?_, ?_⟩
  · intro j c hj
    rw [List.length_set]
    rcases hget j c hj with ⟨rfl, rfl⟩ | ⟨hne, hj'⟩
    · exact ⟨h1, h2⟩
    · refine ⟨(e2 j c hj').1.kept (hs _ (fun q => hne (e3 j i (bo_lt hj') hlt q)) (fun hr0 q => e5 i j c0 hi hr0 (bo_lt hj') q.symm)) (fun hc => hs _ (fun q => e5 j i c hj' hc hlt q) (fun hr0 q => hne (e4 j i c c0 hj' hi hc hr0 q))), (e2 j c hj').2⟩
  · intro j k hj hk
    rw [List.length_set] at hj hk
    exact e3 j k hj hk
  · intro j k c d hj hk hc hd
    obtain ⟨c', hj', hc'⟩ := hrow j c hj hc
    obtain ⟨d', hk', hd'⟩ := hrow k d hk hd
    exact e4 j k c' d' hj' hk' hc' hd'
  · intro j k c hj hc hk
    obtain ⟨c', hj', hc'⟩ := hrow j c hj hc
    rw [List.length_set] at hk
    exact e5 j k c' hj' hc' hk
def bo_ad (ad : Nat → Nat) (n a : Nat) : Nat → Nat := fun i => if i = n then a else ad i
theorem bo_ad_lt {ad : Nat → Nat} {n a i : Nat} (h : i < n) : bo_ad ad n a i = ad i := if_neg (Nat.ne_of_lt h)
theorem bo_ad_self {ad : Nat → Nat} {n a : Nat} : bo_ad ad n a n = a := if_pos rfl
/-- one cell (no Row) comes -/
theorem bo_Rel.push {X : bo_X} {ad pa : Nat → Nat} {U : State} {H H1 : Heap} {G : bo_G} {c1 : bo_C} (h : bo_Rel X ad pa U H G) (h1 : bo_rc X (bo_ad ad G.length H.size) pa U H1 G.length c1) (h2 : bo_rkc (G.length + 1) c1) (hr : bo_isR c1 = false) (hz : H1.size = H.size + 1) (hs : ∀ q, q < H.size → H1[q]? = H[q]?) : bo_Rel X (bo_ad ad G.length H.size) pa U H1 (G ++ [c1]) := by
  obtain ⟨e1, e2, e3, e4, e5⟩ := h
  have hget : ∀ (j : Nat) (c : bo_C), (G ++ [c1])[j]? = some c → (j = G.length ∧ c = c1) ∨ (j < G.length ∧ G[j]? = some c) := by
    intro j c hj
    by_cases hl : j < G.length
    · rw [List.getElem?_append_left hl] at hj
      exact Or.inr ⟨hl, hj⟩
    · rw [List.getElem?_append_right (by omega)] at hj
      have hz : j - G.length < 1 := (List.getElem?_eq_some_iff.mp hj).1
      rw [show j - G.length = 0 by omega] at hj
      exact Or.inl ⟨by omega, (Option.some.inj hj).symm⟩
  have hlen : (G ++ [c1]).length = G.length + 1 := by simp
  have hadlt : ∀ j, j < G.length → ad j < H.size := by
    intro j hj
    obtain ⟨c, hc⟩ : ∃ c, G[j]? = some c := ⟨_, List.getElem?_eq_getElem hj⟩
    exact (e2 j c hc).1.lt
  refine ⟨e1.kept (by omega) (fun a ha _ => hs a ha), ?_, ?_, ?_, ?_⟩
  · intro j c hj
    rw [hlen]
    rcases hget j c hj with ⟨rfl, rfl⟩ | ⟨hl, hj'⟩
    · exact ⟨h1, h2⟩
    · have q := (e2 j c hj').1.named (pa' := pa) (e2 j c hj').2 hl (fun k hk => bo_ad_lt (a := H.size) hk) (fun _ => rfl)
      exact ⟨q.kept (hs _ q.lt) (fun hc => hs _ (q.ltp hc)), (e2 j c hj').2.mono (Nat.le_succ _)⟩
  · intro j k hj hk hjk
    rw [hlen] at hj hk
    by_cases a1 : j = G.length <;> by_cases a2 : k = G.length
    · omega
    · subst a1
      rw [bo_ad_self, bo_ad_lt (by omega)] at hjk
      have := hadlt k (by omega)
      omega
    · subst a2
      rw [bo_ad_self, bo_ad_lt (by omega)] at hjk
      have := hadlt j (by omega)
      omega
    · rw [bo_ad_lt (by omega), bo_ad_lt (by omega)] at hjk
      exact e3 j k (by omega) (by omega) hjk
  · intro j k c d hj hk hc hd
    rcases hget j c hj with ⟨rfl, rfl⟩ | ⟨hl, hj'⟩
    · rw [hr] at hc; cases hc
    · rcases hget k d hk with ⟨rfl, rfl⟩ | ⟨hl2, hk'⟩
      · rw [hr] at hd; cases hd
      · exact e4 j k c d hj' hk' hc hd
  · intro j k c hj hc hk
    rw [hlen] at hk
    rcases hget j c hj with ⟨rfl, rfl⟩ | ⟨hl, hj'⟩
    · rw [hr] at hc; cases hc
    · by_cases a2 : k = G.length
      · subst a2
        rw [bo_ad_self]
        have := (e2 j c hj').1.ltp hc
        omega
      · rw [bo_ad_lt (by omega)]
        exact e5 j k c hj' hc (by omega)
/-- what the cells have cost, in cells and in slots, at most -/
def bo_wC : bo_C → Nat
  | .inr (.inr (.inr (.inl w))) => 1 + w.2.1
  | .inr (.inr (.inr (.inr _))) => 0
  | _ => 1
def bo_wS : bo_C → Nat
  | .inl o => bo_N o.1
  | .inr (.inl w) => w.1
  | .inr (.inr (.inl w)) => w.2.1
  | .inr (.inr (.inr (.inl w))) => 3 + 2 * w.2.1 + (if w.1 ≤ w.2.1 then w.1 else 0)
  | .inr (.inr (.inr (.inr _))) => 0
def bo_uC (G : bo_G) : Nat := (G.map bo_wC).sum
def bo_uS (G : bo_G) : Nat := (G.map bo_wS).sum
theorem bo_sum_app {f : bo_C → Nat} (G : bo_G) (c : bo_C) : ((G ++ [c]).map f).sum = (G.map f).sum + f c := by simp
theorem bo_sum_set {f : bo_C → Nat} : ∀ (G : bo_G) (i : Nat) (c0 c1 : bo_C), G[i]? = some c0 → ((G.set i c1).map f).sum + f c0 = (G.map f).sum + f c1 := by
  intro G
  induction G with
  | nil => intro i c0 c1 h; simp at h
  | cons a G ih =>
    intro i c0 c1 h
    cases i with
    | zero =>
      simp only [List.getElem?_cons_zero, Option.some.injEq] at h
      subst h
      simp only [List.set_cons_zero, List.map_cons, List.sum_cons]
      omega
    | succ i =>
      simp only [List.getElem?_cons_succ] at h
      have := ih i c0 c1 h
      simp only [List.set_cons_succ, List.map_cons, List.sum_cons]
      omega

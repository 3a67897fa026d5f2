/-! What the class's view tells of valves and papers is what the reference tells. -/
section DV
variable {v E n : Nat} {lg : Nat → Int32} {x y : Int32}
theorem setg_kn {w : Nat} (hw : w < (wsl lg (knC lg y E) v).length) : setg lg E v w x y = setg lg (knC lg y E) v w x y := by
  unfold setg
  rw [wat_kn hw, lof_cut]
theorem stO_lt {w : Nat} (hw : w < (wsl lg n v).length) : stO lg n v w x y < n := lof_lt (B := n) (fun k hk => by cases hk; exact wat_lt hw) (by have := wat_lt hw; omega) stO_eq
theorem setg_rng (hW : ∀ j, j < n → wfE lg j) {w : Nat} (hw : w < (wsl lg n v).length) : rng (setg lg n v w x y) 1 10000 := by
  have h1 := stO_lt (x := x) (y := y) hw
  rw [setg_eq]
  split
  · obtain ⟨_, -, -, -, h2, -⟩ := wf_c8 (hW _ (wat_lt hw)) (wat_cod hw).1
    exact h2
  · rename_i hne
    rcases lat_P (stO_eq (lg := lg) (i := n) (v := v) (w := w) (x := x) (y := y)) with q | q
    · exact absurd (Option.some.inj q).symm hne
    · obtain ⟨_, -, -, -, ww, -, -, h2, -⟩ := wf_c9 (hW _ h1) q.1.1
      exact h2
theorem mxI_toInt {a b : Int32} : (mxI a b).toInt = max a.toInt b.toInt := by
  unfold mxI
  split
  · rename_i h
    have := Int32.le_iff_toInt_le.mp h
    omega
  · rename_i h
    have : ¬ b.toInt ≤ a.toInt := fun z => h (Int32.le_iff_toInt_le.mpr z)
    omega
/-- a valve in the view -/
theorem va_in (hW : ∀ j, j < E → wfE lg j) (hE : E ≤ 6000) {w : Nat} (hw : w < (wsl lg (knC lg y E) v).length) : (bo_at (dsL lg (knC lg y E) v x y) (nI w) = -1 ↔ ¬ stP lg x y (wat lg E v w)) ∧ (stP lg x y (wat lg E v w) → bo_at (ssL lg (knC lg y E) v x y) (nI w) = setg lg E v w x y ∧ rng (setg lg E v w x y) 1 10000) ∧ bo_at (psL lg (knC lg y E) v x) (nI w) = if stP lg x y (wat lg E v w) then num lg (wat lg E v w) 2 else 0 := by
  have hn := knC_le (lg := lg) (y := y) (E := E)
  have hW' : ∀ j, j < knC lg y E → wfE lg j := fun j hj => hW j (by omega)
  have hl : (wsl lg (knC lg y E) v).length ≤ knC lg y E := sel_len _ _
  have hent : ent lg (wat lg E v w) ≤ y := by rw [wat_kn hw]; exact knC_in hW (wat_lt hw)
  have e1 : bo_at (dsL lg (knC lg y E) v x y) (nI w) = vdI lg (knC lg y E) v x y w := rng_at hw (by omega)
  have e2 : bo_at (ssL lg (knC lg y E) v x y) (nI w) = vsI lg (knC lg y E) v x y w := rng_at hw (by omega)
  have e3 : bo_at (psL lg (knC lg y E) v x) (nI w) = vpI lg (knC lg y E) v x w := rng_at hw (by omega)
  rw [e1, e2, e3, setg_kn hw]
  unfold vdI vsI vpI
  rw [← wat_kn hw]
  have h0 := (wf_day4 hW' (stO_lt (x := x) (y := y) hw)).1
  refine ⟨?_, fun z => ⟨if_pos z.2, setg_rng hW' hw⟩, ?_⟩
  · constructor
    · intro h z
      rw [if_pos z.2] at h
      rw [h] at h0
      exact absurd h0 (by decide)
    · intro h
      exact if_neg fun z => h ⟨hent, z⟩
  · by_cases q : dyy lg (wat lg E v w) ≤ x
    · rw [if_pos q, if_pos ⟨hent, q⟩]
    · rw [if_neg q, if_neg fun z => q z.2]
theorem set_gr (hW : ∀ j, j < E → wfE lg j) (hE : E ≤ 6000) : ∀ w, w ≤ (wsl lg (knC lg y E) v).length → grC (ssL lg (knC lg y E) v x y) (dsL lg (knC lg y E) v x y) w = setgs lg E v 0 x y w ∧ (setgs lg E v 0 x y w = -1 ∨ 1 ≤ (setgs lg E v 0 x y w).toInt) := by
  intro w
  induction w with
  | zero => intro _; exact ⟨rfl, Or.inl rfl⟩
  | succ w ih =>
    intro hw
    obtain ⟨h1, h2⟩ := ih (by omega)
    obtain ⟨a1, a2, -⟩ := va_in (x := x) hW hE (show w < (wsl lg (knC lg y E) v).length by omega)
    have eg : grC (ssL lg (knC lg y E) v x y) (dsL lg (knC lg y E) v x y) (w + 1) = if bo_at (dsL lg (knC lg y E) v x y) (nI w) = -1 then grC (ssL lg (knC lg y E) v x y) (dsL lg (knC lg y E) v x y) w else mxI (grC (ssL lg (knC lg y E) v x y) (dsL lg (knC lg y E) v x y) w) (bo_at (ssL lg (knC lg y E) v x y) (nI w)) := rfl
    have er : setgs lg E v 0 x y (w + 1) = if stP lg x y (wat lg E v w) ∧ (setgs lg E v 0 x y w < 0 ∨ (¬ (0 : Int32) = 0 ∧ setg lg E v w x y < setgs lg E v 0 x y w) ∨ ((0 : Int32) = 0 ∧ setgs lg E v 0 x y w < setg lg E v w x y)) then setg lg E v w x y else setgs lg E v 0 x y w := rfl
    rw [eg, er, h1]
    by_cases q : stP lg x y (wat lg E v w)
    · obtain ⟨b1, b2⟩ := a2 q
      rw [if_neg fun z => a1.mp z q, b1]
      unfold mxI
      by_cases c : setg lg E v w x y ≤ setgs lg E v 0 x y w
      · have c2 := Int32.le_iff_toInt_le.mp c
        have n1 : ¬ setgs lg E v 0 x y w < 0 := fun z => by
          have z2 : (setgs lg E v 0 x y w).toInt < (0 : Int) := Int32.lt_iff_toInt_lt.mp z
          have := b2.1
          omega
        have n2 : ¬ setgs lg E v 0 x y w < setg lg E v w x y := Int32.not_lt.mpr c
        rw [if_pos c, if_neg fun z => z.2.elim n1 fun u => u.elim (fun s => s.1 rfl) fun s => n2 s.2]
        exact ⟨rfl, h2⟩
      · have n2 : setgs lg E v 0 x y w < setg lg E v w x y := Int32.not_le.mp c
        rw [if_neg c, if_pos ⟨q, Or.inr (Or.inr ⟨rfl, n2⟩)⟩]
        exact ⟨rfl, Or.inr b2.1⟩
    · rw [if_pos (a1.mpr q), if_neg fun z => q z.1]
      exact ⟨rfl, h2⟩
theorem set_ls (hW : ∀ j, j < E → wfE lg j) (hE : E ≤ 6000) : ∀ w, w ≤ (wsl lg (knC lg y E) v).length → lsC (ssL lg (knC lg y E) v x y) (dsL lg (knC lg y E) v x y) w = setgs lg E v 1 x y w ∧ (setgs lg E v 1 x y w = -1 ∨ 1 ≤ (setgs lg E v 1 x y w).toInt) := by
  intro w
  induction w with
  | zero => intro _; exact ⟨rfl, Or.inl rfl⟩
  | succ w ih =>
    intro hw
    obtain ⟨h1, h2⟩ := ih (by omega)
    obtain ⟨a1, a2, -⟩ := va_in (x := x) hW hE (show w < (wsl lg (knC lg y E) v).length by omega)
    have eg : lsC (ssL lg (knC lg y E) v x y) (dsL lg (knC lg y E) v x y) (w + 1) = if bo_at (dsL lg (knC lg y E) v x y) (nI w) = -1 then lsC (ssL lg (knC lg y E) v x y) (dsL lg (knC lg y E) v x y) w else if lsC (ssL lg (knC lg y E) v x y) (dsL lg (knC lg y E) v x y) w = -1 ∨ bo_at (ssL lg (knC lg y E) v x y) (nI w) < lsC (ssL lg (knC lg y E) v x y) (dsL lg (knC lg y E) v x y) w then bo_at (ssL lg (knC lg y E) v x y) (nI w) else lsC (ssL lg (knC lg y E) v x y) (dsL lg (knC lg y E) v x y) w := rfl
    have er : setgs lg E v 1 x y (w + 1) = if stP lg x y (wat lg E v w) ∧ (setgs lg E v 1 x y w < 0 ∨ (¬ (1 : Int32) = 0 ∧ setg lg E v w x y < setgs lg E v 1 x y w) ∨ ((1 : Int32) = 0 ∧ setgs lg E v 1 x y w < setg lg E v w x y)) then setg lg E v w x y else setgs lg E v 1 x y w := rfl
    have n10 : ¬ (1 : Int32) = 0 := by decide
    rw [eg, er, h1]
    by_cases q : stP lg x y (wat lg E v w)
    · obtain ⟨b1, b2⟩ := a2 q
      rw [if_neg fun z => a1.mp z q, b1]
      by_cases c : setgs lg E v 1 x y w = -1 ∨ setg lg E v w x y < setgs lg E v 1 x y w
      · rw [if_pos c, if_pos ⟨q, c.elim (fun z => Or.inl (by rw [z]; decide)) fun z => Or.inr (Or.inl ⟨n10, z⟩)⟩]
        exact ⟨rfl, Or.inr b2.1⟩
      · have nn : ¬ (stP lg x y (wat lg E v w) ∧ (setgs lg E v 1 x y w < 0 ∨ (¬ (1 : Int32) = 0 ∧ setg lg E v w x y < setgs lg E v 1 x y w) ∨ ((1 : Int32) = 0 ∧ setgs lg E v 1 x y w < setg lg E v w x y))) := by
          rintro ⟨-, u | u | u⟩
          · rcases h2 with h2 | h2
            · exact c (Or.inl h2)
            · have z2 : (setgs lg E v 1 x y w).toInt < (0 : Int) := Int32.lt_iff_toInt_lt.mp u
              omega
          · exact c (Or.inr u.2)
          · exact n10 u.1
        rw [if_neg c, if_neg nn]
        exact ⟨rfl, h2⟩
    · rw [if_pos (a1.mpr q), if_neg fun z => q z.1]
      exact ⟨rfl, h2⟩
theorem set_ps (hW : ∀ j, j < E → wfE lg j) (hE : E ≤ 6000) : ∀ w, w ≤ (wsl lg (knC lg y E) v).length → pssC (psL lg (knC lg y E) v x) w = pssd lg E v x y w := by
  intro w
  induction w with
  | zero => intro _; rfl
  | succ w ih =>
    intro hw
    have h1 := ih (by omega)
    obtain ⟨-, -, a3⟩ := va_in (x := x) hW hE (show w < (wsl lg (knC lg y E) v).length by omega)
    show pssC (psL lg (knC lg y E) v x) w + bo_at (psL lg (knC lg y E) v x) (nI w) = pssd lg E v x y w + _
    rw [h1, a3]
/-- valves that aren't known count for nothing -/
theorem va_out (hW : ∀ j, j < E → wfE lg j) {w : Nat} (h1 : (wsl lg (knC lg y E) v).length ≤ w) (h2 : w < (wsl lg E v).length) : ¬ stP lg x y (wat lg E v w) := fun z => by
  have := (wsl_kn hW h2).mp z.1
  omega
theorem setgs_kn (hW : ∀ j, j < E → wfE lg j) {b : Int32} : ∀ m, (wsl lg (knC lg y E) v).length + m ≤ (wsl lg E v).length → setgs lg E v b x y ((wsl lg (knC lg y E) v).length + m) = setgs lg E v b x y (wsl lg (knC lg y E) v).length := by
  intro m
  induction m with
  | zero => intro _; rfl
  | succ m ih =>
    intro h
    rw [← ih (by omega)]
    exact if_neg fun z => va_out (w := (wsl lg (knC lg y E) v).length + m) hW (by omega) (by omega) z.1
theorem pssd_kn (hW : ∀ j, j < E → wfE lg j) : ∀ m, (wsl lg (knC lg y E) v).length + m ≤ (wsl lg E v).length → pssd lg E v x y ((wsl lg (knC lg y E) v).length + m) = pssd lg E v x y (wsl lg (knC lg y E) v).length := by
  intro m
  induction m with
  | zero => intro _; rfl
  | succ m ih =>
    intro h
    rw [← ih (by omega)]
    show pssd lg E v x y ((wsl lg (knC lg y E) v).length + m) + (if stP lg x y (wat lg E v ((wsl lg (knC lg y E) v).length + m)) then num lg (wat lg E v ((wsl lg (knC lg y E) v).length + m)) 2 else 0) = _
    rw [if_neg (va_out hW (by omega) (by omega))]
    exact Int32.add_zero _
theorem wsl_len_le : (wsl lg (knC lg y E) v).length ≤ (wsl lg E v).length := by
  obtain ⟨r, hr⟩ := sel_pre (P := fun k => cod lg k == 8 && num lg k 0 == nI v) (knC_le (lg := lg) (y := y) (E := E))
  have hr : wsl lg E v = wsl lg (knC lg y E) v ++ r := hr
  rw [hr, List.length_append]
  omega
/-- the three of the valves -/
theorem vo_valves (hW : ∀ j, j < E → wfE lg j) (hE : E ≤ 6000) : (grC (ssL lg (knC lg y E) v x y) (dsL lg (knC lg y E) v x y) (wsl lg (knC lg y E) v).length = setgs lg E v 0 x y (wsl lg E v).length ∧ (setgs lg E v 0 x y (wsl lg E v).length = -1 ∨ 1 ≤ (setgs lg E v 0 x y (wsl lg E v).length).toInt)) ∧ lsC (ssL lg (knC lg y E) v x y) (dsL lg (knC lg y E) v x y) (wsl lg (knC lg y E) v).length = setgs lg E v 1 x y (wsl lg E v).length ∧ pssC (psL lg (knC lg y E) v x) (wsl lg (knC lg y E) v).length = pssd lg E v x y (wsl lg E v).length := by
  have hl := wsl_len_le (lg := lg) (v := v) (y := y) (E := E)
  have e : (wsl lg (knC lg y E) v).length + ((wsl lg E v).length - (wsl lg (knC lg y E) v).length) = (wsl lg E v).length := by omega
  have s0 := setgs_kn (v := v) (x := x) (y := y) hW (b := 0) ((wsl lg E v).length - (wsl lg (knC lg y E) v).length) (by omega)
  have s1 := setgs_kn (v := v) (x := x) (y := y) hW (b := 1) ((wsl lg E v).length - (wsl lg (knC lg y E) v).length) (by omega)
  have s2 := pssd_kn (v := v) (x := x) (y := y) hW ((wsl lg E v).length - (wsl lg (knC lg y E) v).length) (by omega)
  rw [e] at s0 s1 s2
  rw [s0, s1, s2]
  exact ⟨set_gr hW hE _ (Nat.le_refl _), (set_ls hW hE _ (Nat.le_refl _)).1, set_ps hW hE _ (Nat.le_refl _)⟩
/-- good tests -/
theorem td_iff (hW : ∀ j, j < n → wfE lg j) {t : Int32} : ∀ i, i ≤ n → (-1 ≤ (tdC lg v x y i).toInt ∧ (0 ≤ t.toInt → (t ≤ tdC lg v x y i ↔ ∃ k, k < i ∧ tsP lg (nI v) t x y k))) := by
  intro i
  induction i with
  | zero => intro _; exact ⟨show (-1 : Int) ≤ -1 by decide, fun h0 => ⟨fun z => by have z2 : t.toInt ≤ (-1 : Int) := Int32.le_iff_toInt_le.mp z; omega, fun ⟨k, hk, _⟩ => absurd hk (Nat.not_lt_zero k)⟩⟩
  | succ i ih =>
    intro hi
    obtain ⟨h1, h2⟩ := ih (by omega)
    have hd := (wf_day4 hW (show i < n by omega)).1
    by_cases q : goP lg (nI v) 2 i ∧ stP lg x y i
    · have e := td_s q
      rw [e, mxI_toInt]
      refine ⟨by omega, fun h0 => ?_⟩
      rw [Int32.le_iff_toInt_le, mxI_toInt]
      have h3 := h2 h0
      rw [Int32.le_iff_toInt_le] at h3
      constructor
      · intro z
        by_cases c : t.toInt ≤ (tdC lg v x y i).toInt
        · obtain ⟨k, hk, hz⟩ := h3.mp c
          exact ⟨k, by omega, hz⟩
        · exact ⟨i, by omega, q.1, q.2, Int32.le_iff_toInt_le.mpr (by omega)⟩
      · rintro ⟨k, hk, hz⟩
        by_cases c : k = i
        · rw [c] at hz
          have := Int32.le_iff_toInt_le.mp hz.2.2
          omega
        · have := h3.mpr ⟨k, by omega, hz⟩
          omega
    · rw [td_no q]
      refine ⟨h1, fun h0 => (h2 h0).trans ⟨fun ⟨k, hk, hz⟩ => ⟨k, by omega, hz⟩, fun ⟨k, hk, hz⟩ => ?_⟩⟩
      by_cases c : k = i
      · rw [c] at hz
        exact absurd ⟨hz.1, hz.2.1⟩ q
      · exact ⟨k, by omega, hz⟩
/-- mends with a good test behind -/
theorem tm_iff (hW : ∀ j, j < n → wfE lg j) {t td : Int32} {a : Int32} : ∀ i, i ≤ n → (-1 ≤ (tmC lg a x y td i).toInt ∧ (0 ≤ t.toInt → (t ≤ tmC lg a x y td i ↔ ∃ k, k < i ∧ (meP lg a k ∧ stP lg x y k) ∧ dyy lg k ≤ td ∧ t ≤ dyy lg k))) := by
  intro i
  induction i with
  | zero => intro _; exact ⟨show (-1 : Int) ≤ -1 by decide, fun h0 => ⟨fun z => by have z2 : t.toInt ≤ (-1 : Int) := Int32.le_iff_toInt_le.mp z; omega, fun ⟨k, hk, _⟩ => absurd hk (Nat.not_lt_zero k)⟩⟩
  | succ i ih =>
    intro hi
    obtain ⟨h1, h2⟩ := ih (by omega)
    have hd := (wf_day4 hW (show i < n by omega)).1
    have e : tmC lg a x y td (i + 1) = if meP lg a i ∧ stP lg x y i then (if dyy lg i ≤ td then mxI (tmC lg a x y td i) (dyy lg i) else tmC lg a x y td i) else tmC lg a x y td i := rfl
    by_cases q : (meP lg a i ∧ stP lg x y i) ∧ dyy lg i ≤ td
    · rw [e, if_pos q.1, if_pos q.2, mxI_toInt]
      refine ⟨by omega, fun h0 => ?_⟩
      rw [Int32.le_iff_toInt_le, mxI_toInt]
      have h3 := h2 h0
      rw [Int32.le_iff_toInt_le] at h3
      constructor
      · intro z
        by_cases c : t.toInt ≤ (tmC lg a x y td i).toInt
        · obtain ⟨k, hk, hz⟩ := h3.mp c
          exact ⟨k, by omega, hz⟩
        · exact ⟨i, by omega, q.1, q.2, Int32.le_iff_toInt_le.mpr (by omega)⟩
      · rintro ⟨k, hk, hz⟩
        by_cases c : k = i
        · rw [c] at hz
          have := Int32.le_iff_toInt_le.mp hz.2.2
          omega
        · have := h3.mpr ⟨k, by omega, hz⟩
          omega
    · have e2 : tmC lg a x y td (i + 1) = tmC lg a x y td i := by
        rw [e]
        by_cases c : meP lg a i ∧ stP lg x y i
        · rw [if_pos c, if_neg fun z => q ⟨c, z⟩]
        · rw [if_neg c]
      rw [e2]
      refine ⟨h1, fun h0 => (h2 h0).trans ⟨fun ⟨k, hk, hz⟩ => ⟨k, by omega, hz⟩, fun ⟨k, hk, hz⟩ => ?_⟩⟩
      by_cases c : k = i
      · rw [c] at hz
        exact absurd ⟨hz.1, hz.2.1⟩ q
      · exact ⟨k, by omega, hz⟩
theorem md_ge : ∀ i, -1 ≤ (mnd lg (nI v) x y i).toInt := by
  intro i
  induction i with
  | zero => exact show (-1 : Int) ≤ -1 by decide
  | succ i ih =>
    have e : mnd lg (nI v) x y (i + 1) = if meP lg (nI v) i ∧ stP lg x y i then mxI (mnd lg (nI v) x y i) (dyy lg i) else mnd lg (nI v) x y i := rfl
    rw [e]
    split
    · rw [mxI_toInt]; omega
    · exact ih
/-- what stops and isn't freed behind it -/
abbrev frP (lg : Nat → Int32) (v : Nat) (x y : Int32) (j k : Nat) : Prop := (isP lg 10 (nI v) 4 k ∧ stP lg x y k) ∧ dyy lg j ≤ dyy lg k
theorem st_iff (hW : ∀ j, j < n → wfE lg j) : ∀ i, i ≤ n → ∀ t : Int32, -1 ≤ t.toInt → (t < stD lg v x y i ↔ ∃ j, j < i ∧ (paP lg v x y j ∧ baP lg j) ∧ t < dyy lg j ∧ ∀ k, j < k → k < i → ¬ frP lg v x y j k) := by
  intro i
  induction i with
  | zero =>
    intro _ t ht
    exact ⟨fun z => by have z2 : t.toInt < (-1 : Int) := Int32.lt_iff_toInt_lt.mp z; omega, fun ⟨k, hk, _⟩ => absurd hk (Nat.not_lt_zero k)⟩
  | succ i ih =>
    intro hi t ht
    have h := ih (by omega)
    have hd := (wf_day4 hW (show i < n by omega)).1
    have e : stD lg v x y (i + 1) = if paP lg v x y i then (if baP lg i then mxI (stD lg v x y i) (dyy lg i) else if num lg i 1 = 4 then (if stD lg v x y i ≤ dyy lg i then -1 else stD lg v x y i) else stD lg v x y i) else stD lg v x y i := rfl
    -- nothing of it
    have plain : ¬ (paP lg v x y i ∧ baP lg i) → ¬ (isP lg 10 (nI v) 4 i ∧ stP lg x y i) → ((∃ j, j < i ∧ (paP lg v x y j ∧ baP lg j) ∧ t < dyy lg j ∧ ∀ k, j < k → k < i → ¬ frP lg v x y j k) ↔ ∃ j, j < i + 1 ∧ (paP lg v x y j ∧ baP lg j) ∧ t < dyy lg j ∧ ∀ k, j < k → k < i + 1 → ¬ frP lg v x y j k) := fun n1 n2 => by
      constructor
      · rintro ⟨j, h1, h2, h3, h4⟩
        refine ⟨j, by omega, h2, h3, fun k a b z => ?_⟩
        by_cases c : k = i
        · rw [c] at z; exact n2 z.1
        · exact h4 k a (by omega) z
      · rintro ⟨j, h1, h2, h3, h4⟩
        by_cases c : j = i
        · rw [c] at h2; exact absurd h2 n1
        · exact ⟨j, by omega, h2, h3, fun k a b => h4 k a (by omega)⟩
    by_cases hp : paP lg v x y i
    · by_cases hb : baP lg i
      · rw [e, if_pos hp, if_pos hb, Int32.lt_iff_toInt_lt, mxI_toInt]
        have h0 := h t ht
        rw [Int32.lt_iff_toInt_lt] at h0
        have nf : ∀ j, ¬ frP lg v x y j i := fun j z => by
          have z1 := z.1.1.2.2
          rcases hb with q | q
          · rw [z1] at q; exact absurd q (by decide)
          · rw [z1] at q; exact absurd q.1 (by decide)
        constructor
        · intro z
          by_cases c : t.toInt < (stD lg v x y i).toInt
          · obtain ⟨j, h1, h2, h3, h4⟩ := h0.mp c
            refine ⟨j, by omega, h2, h3, fun k a b z => ?_⟩
            by_cases c2 : k = i
            · rw [c2] at z; exact nf j z
            · exact h4 k a (by omega) z
          · exact ⟨i, by omega, ⟨hp, hb⟩, Int32.lt_iff_toInt_lt.mpr (by omega), fun k a b => absurd a (by omega)⟩
        · rintro ⟨j, h1, h2, h3, h4⟩
          by_cases c : j = i
          · rw [c] at h3
            have := Int32.lt_iff_toInt_lt.mp h3
            omega
          · have := h0.mpr ⟨j, by omega, h2, h3, fun k a b => h4 k a (by omega)⟩
            omega
      · by_cases h4 : num lg i 1 = 4
        · have hf : isP lg 10 (nI v) 4 i ∧ stP lg x y i := ⟨⟨hp.1.1, hp.1.2, h4⟩, hp.2⟩
          rw [e, if_pos hp, if_neg hb, if_pos h4]
          have rhs : (∃ j, j < i + 1 ∧ (paP lg v x y j ∧ baP lg j) ∧ t < dyy lg j ∧ ∀ k, j < k → k < i + 1 → ¬ frP lg v x y j k) ↔ (∃ j, j < i ∧ (paP lg v x y j ∧ baP lg j) ∧ (t < dyy lg j ∧ dyy lg i < dyy lg j) ∧ ∀ k, j < k → k < i → ¬ frP lg v x y j k) := by
            constructor
            · rintro ⟨j, h1, h2, h3, h5⟩
              by_cases c : j = i
              · rw [c] at h2; exact absurd h2.2 hb
              · exact ⟨j, by omega, h2, ⟨h3, Int32.not_le.mp fun z => h5 i (by omega) (by omega) ⟨hf, z⟩⟩, fun k a b => h5 k a (by omega)⟩
            · rintro ⟨j, h1, h2, h3, h5⟩
              refine ⟨j, by omega, h2, h3.1, fun k a b z => ?_⟩
              by_cases c : k = i
              · rw [c] at z
                exact absurd z.2 (Int32.not_le.mpr h3.2)
              · exact h5 k a (by omega) z
          rw [rhs]
          by_cases c : stD lg v x y i ≤ dyy lg i
          · rw [if_pos c]
            constructor
            · intro z
              have z2 : t.toInt < (-1 : Int) := Int32.lt_iff_toInt_lt.mp z
              omega
            · rintro ⟨j, h1, h2, h3, h5⟩
              have := (h (dyy lg i) (by omega)).mpr ⟨j, h1, h2, h3.2, h5⟩
              exact absurd c (Int32.not_le.mpr this)
          · rw [if_neg c]
            have c2 := Int32.lt_iff_toInt_lt.mp (Int32.not_le.mp c)
            have hm := h (mxI t (dyy lg i)) (by rw [mxI_toInt]; omega)
            have em : (mxI t (dyy lg i) < stD lg v x y i) ↔ t < stD lg v x y i := by
              rw [Int32.lt_iff_toInt_lt, mxI_toInt, Int32.lt_iff_toInt_lt]
              omega
            rw [← em, hm]
            have ej : ∀ j, mxI t (dyy lg i) < dyy lg j ↔ (t < dyy lg j ∧ dyy lg i < dyy lg j) := fun j => by
              rw [Int32.lt_iff_toInt_lt, mxI_toInt, Int32.lt_iff_toInt_lt, Int32.lt_iff_toInt_lt]
              omega
            constructor
            · rintro ⟨j, h1, h2, h3, h5⟩; exact ⟨j, h1, h2, (ej j).mp h3, h5⟩
            · rintro ⟨j, h1, h2, h3, h5⟩; exact ⟨j, h1, h2, (ej j).mpr h3, h5⟩
        · rw [e, if_pos hp, if_neg hb, if_neg h4, h t ht]
          exact plain (fun z => hb z.2) fun z => h4 z.1.2.2
    · rw [e, if_neg hp, h t ht]
      exact plain (fun z => hp z.1) fun z => hp ⟨⟨z.1.1, z.1.2.1⟩, z.2⟩
theorem ts_cut {t : Int32} : exi (tsP lg (nI v) t x y) E = true ↔ exi (tsP lg (nI v) t x y) (knC lg y E) = true := exi_cut knC_le fun i h1 h2 z => st_out h1 h2 z.2.1
/-- whether the vessel is stopped -/
theorem vo_stop (hW : ∀ j, j < E → wfE lg j) : tmC lg (nI v) x y (tdC lg v x y (knC lg y E)) (knC lg y E) < stD lg v x y (knC lg y E) ↔ exi (spP lg E (nI v) x y) E = true := by
  have hn := knC_le (lg := lg) (y := y) (E := E)
  have hW' : ∀ j, j < knC lg y E → wfE lg j := fun j hj => hW j (by omega)
  have h1 := (tm_iff (td := tdC lg v x y (knC lg y E)) (a := nI v) (t := 0) (x := x) (y := y) hW' (knC lg y E) (Nat.le_refl _)).1
  rw [st_iff hW' (knC lg y E) (Nat.le_refl _) _ h1, exi_iff]
  have key : ∀ j, j < knC lg y E → (tmC lg (nI v) x y (tdC lg v x y (knC lg y E)) (knC lg y E) < dyy lg j ∧ ∀ k, j < k → k < knC lg y E → ¬ frP lg v x y j k) → ¬ exi (sgP lg E (nI v) j x y) E = true := by
    rintro j hj ⟨a1, a2⟩ hz
    obtain ⟨k, hk, b1, b2, b3⟩ := exi_iff.mp hz
    have hkn : k < knC lg y E := by
      by_cases c : k < knC lg y E
      · exact c
      · exact absurd b1 (st_out (by omega) hk)
    have hdk := (wf_day4 hW' hkn).1
    rcases b3 with b3 | b3
    · exact a2 k b3.2 hkn ⟨⟨b3.1, b1⟩, b2⟩
    · have ht := (td_iff (v := v) (x := x) (y := y) (t := dyy lg k) hW' (knC lg y E) (Nat.le_refl _)).2 hdk
      obtain ⟨q, hq, hq2⟩ := exi_iff.mp (ts_cut.mp b3.2)
      have c1 := ht.mpr ⟨q, hq, hq2⟩
      have hdj := (wf_day4 hW' hj).1
      have c2 := ((tm_iff (td := tdC lg v x y (knC lg y E)) (a := nI v) (t := dyy lg j) (x := x) (y := y) hW' (knC lg y E) (Nat.le_refl _)).2 hdj).mpr ⟨k, hkn, ⟨b3.1, b1⟩, c1, b2⟩
      exact absurd c2 (Int32.not_le.mpr a1)
  have key2 : ∀ j, j < knC lg y E → ¬ exi (sgP lg E (nI v) j x y) E = true → (tmC lg (nI v) x y (tdC lg v x y (knC lg y E)) (knC lg y E) < dyy lg j ∧ ∀ k, j < k → k < knC lg y E → ¬ frP lg v x y j k) := by
    intro j hj hz
    refine ⟨Int32.not_le.mp fun a => ?_, fun k a b z => hz (exi_iff.mpr ⟨k, by omega, z.1.2, z.2, Or.inl ⟨z.1.1, a⟩⟩)⟩
    have hdj := (wf_day4 hW' hj).1
    obtain ⟨k, hk, b1, b2, b3⟩ := ((tm_iff (td := tdC lg v x y (knC lg y E)) (a := nI v) (t := dyy lg j) (x := x) (y := y) hW' (knC lg y E) (Nat.le_refl _)).2 hdj).mp a
    have hdk := (wf_day4 hW' hk).1
    obtain ⟨q, hq, hq2⟩ := ((td_iff (v := v) (x := x) (y := y) (t := dyy lg k) hW' (knC lg y E) (Nat.le_refl _)).2 hdk).mp b2
    exact hz (exi_iff.mpr ⟨k, by omega, b1.2, b3, Or.inr ⟨b1.1, ts_cut.mpr (exi_iff.mpr ⟨q, hq, hq2⟩)⟩⟩)
  have eb : ∀ j, baP lg j ↔ (num lg j 1 = 3 ∨ (num lg j 1 < 3 ∧ ¬ num lg j 3 = 0)) := fun j => by
    have e3 : num lg j 1 < 3 ↔ num lg j 1 ≤ 2 := by
      rw [Int32.lt_iff_toInt_lt, Int32.le_iff_toInt_le]
      show (num lg j 1).toInt < (3 : Int) ↔ (num lg j 1).toInt ≤ (2 : Int)
      omega
    rw [e3]
  constructor
  · rintro ⟨j, hj, b1, b2⟩
    exact ⟨j, by omega, b1.1.1.1, b1.1.1.2, b1.1.2, (eb j).mp b1.2, key j hj b2⟩
  · rintro ⟨j, hj, b1, b2, b3, b4, b5⟩
    have hjn : j < knC lg y E := by
      by_cases c : j < knC lg y E
      · exact c
      · exact absurd b3 (st_out (by omega) hj)
    exact ⟨j, hjn, ⟨⟨⟨b1, b2⟩, b3⟩, (eb j).mpr b4⟩, key2 j hjn b5⟩
/-- whether a mend has no good test behind it -/
theorem vo_mend (hW : ∀ j, j < E → wfE lg j) : tdC lg v x y (knC lg y E) < mnd lg (nI v) x y (knC lg y E) ↔ (0 ≤ (mnd lg (nI v) x y E).toInt ∧ ¬ exi (tsP lg (nI v) (mnd lg (nI v) x y E) x y) E = true) := by
  have hn := knC_le (lg := lg) (y := y) (E := E)
  have hW' : ∀ j, j < knC lg y E → wfE lg j := fun j hj => hW j (by omega)
  have em : mnd lg (nI v) x y E = mnd lg (nI v) x y (knC lg y E) := mnd_cut hn fun i h1 h2 => st_out h1 h2
  have h0 := (td_iff (v := v) (x := x) (y := y) (t := mnd lg (nI v) x y (knC lg y E)) hW' (knC lg y E) (Nat.le_refl _))
  rw [em, ts_cut, exi_iff]
  have hm := md_ge (lg := lg) (v := v) (x := x) (y := y) (knC lg y E)
  constructor
  · intro z
    have z2 := Int32.lt_iff_toInt_lt.mp z
    have h1 := h0.1
    refine ⟨by omega, fun w => ?_⟩
    have := (h0.2 (by omega)).mpr w
    exact absurd this (Int32.not_le.mpr z)
  · rintro ⟨z1, z2⟩
    exact Int32.not_le.mp fun w => z2 ((h0.2 z1).mp w)
/-- dues -/
theorem vo_due {kd : Int32} : duo lg E v kd x y = dgC lg (dyy lg (vat lg E v)) v x y (knC lg y E) kd + (if dgC lg (dyy lg (vat lg E v)) v x y (knC lg y E) kd - dyy lg (vat lg E v) < 7300 then ruC lg y (knC lg y E) 1 kd else ruC lg y (knC lg y E) 2 kd) := by
  have e1 : dgo lg E v kd x y = dgC lg (dyy lg (vat lg E v)) v x y (knC lg y E) kd := by
    unfold dgo dgC
    have : lat (dyy lg) (fun i => goP lg (nI v) kd i ∧ stP lg x y i) none 0 E = lat (dyy lg) (fun i => goP lg (nI v) kd i ∧ stP lg x y i) none 0 (knC lg y E) := lat_cut knC_le fun i h1 h2 z => st_out (lg := lg) (E := E) (x := x) (y := y) (i := 0 + i) (by omega) (by omega) z.2
    rw [this]
    rfl
  unfold duo ruC
  rw [e1, dru_cut]
  cases dru lg kd y (knC lg y E) with
  | none => dsimp only; rw [ite_self]
  | some i => rfl
theorem vo_owner : ownI lg E v x y = owC lg (num lg (vat lg E v) 0) v x y (knC lg y E) := by
  unfold ownI owC
  rw [lof_cut0]
  rfl
end DV

/-! The log: what was entered, as numbers; what is read off it. -/
def cod (lg : Nat → Int32) (i : Nat) : Int32 := lg (18 * i)
def ent (lg : Nat → Int32) (i : Nat) : Int32 := lg (18 * i + 1)
def dyy (lg : Nat → Int32) (i : Nat) : Int32 := lg (18 * i + 2)
def num (lg : Nat → Int32) (i k : Nat) : Int32 := lg (18 * i + 3 + k)
/-- the entries below E of which something holds, in their order -/
def sel (E : Nat) (P : Nat → Bool) : List Nat := (List.range E).filter P
theorem sel_0 (P : Nat → Bool) : sel 0 P = [] := rfl
theorem sel_s (E : Nat) (P : Nat → Bool) : sel (E + 1) P = sel E P ++ (if P E then [E] else []) := by
  unfold sel
  rw [List.range_succ, List.filter_append]
  cases h : P E <;> simp [h]
theorem sel_mem {E : Nat} {P : Nat → Bool} {i : Nat} : i ∈ sel E P ↔ i < E ∧ P i = true := by
  unfold sel
  rw [List.mem_filter, List.mem_range]
theorem sel_len (E : Nat) (P : Nat → Bool) : (sel E P).length ≤ E := by
  unfold sel
  exact Nat.le_trans (List.length_filter_le _ _) (by simp)
theorem sel_congr {E : Nat} {P R : Nat → Bool} (h : ∀ i, i < E → P i = R i) : sel E P = sel E R := by
  unfold sel
  exact List.filter_congr fun i hi => h i (List.mem_range.mp hi)
theorem sel_get {E : Nat} {P : Nat → Bool} {k i : Nat} (h : (sel E P)[k]? = some i) : i < E ∧ P i = true := sel_mem.mp (List.mem_of_getElem? h)
/-- vessels; parts of a vessel; its valves; its papers; rules; passes; acts -/
def vsl (lg : Nat → Int32) (E : Nat) : List Nat := sel E fun i => cod lg i == 1
def psl (lg : Nat → Int32) (E v : Nat) : List Nat := sel E fun i => cod lg i == 2 && num lg i 0 == nI v
def wsl (lg : Nat → Int32) (E v : Nat) : List Nat := sel E fun i => cod lg i == 8 && num lg i 0 == nI v
def qsl (lg : Nat → Int32) (E v : Nat) : List Nat := sel E fun i => cod lg i == 10 && num lg i 0 == nI v
def rsl (lg : Nat → Int32) (E : Nat) : List Nat := sel E fun i => cod lg i == 11
def osl (lg : Nat → Int32) (E : Nat) : List Nat := sel E fun i => cod lg i == 0
def acl (lg : Nat → Int32) (E : Nat) : List Nat := sel E fun i => !(cod lg i == 0)
/-- how many numbers follow a code -/
def nums (c : Int32) : Nat := if c = 0 then 1 else if c = 11 then 3 else if c = 3 ∨ c = 10 then 5 else if c = 2 ∨ c = 5 then 6 else if c = 4 then 15 else 4
def img (lg : Nat → Int32) : Nat → List Int32
  | 0 => []
  | i + 1 => img lg i ++ (cod lg i :: (List.range (nums (cod lg i))).map (num lg i))
def posn (lg : Nat → Int32) (i : Nat) : Nat := (img lg i).length
theorem posn_s (lg : Nat → Int32) (i : Nat) : posn lg (i + 1) = posn lg i + (nums (cod lg i) + 1) := by
  unfold posn
  rw [show img lg (i + 1) = img lg i ++ (cod lg i :: (List.range (nums (cod lg i))).map (num lg i)) from rfl]
  simp
theorem nums_le (c : Int32) : nums c ≤ 15 := by unfold nums; repeat (first | split | omega)
theorem img_pre (lg : Nat → Int32) {i : Nat} : ∀ {E : Nat}, i ≤ E → ∃ r, img lg E = img lg i ++ r := by
  intro E h
  induction E with
  | zero => exact ⟨[], by rw [show i = 0 by omega]; simp⟩
  | succ E ih =>
    by_cases hi : i = E + 1
    · exact ⟨[], by rw [hi]; simp⟩
    · obtain ⟨r, hr⟩ := ih (by omega)
      exact ⟨r ++ (cod lg E :: (List.range (nums (cod lg E))).map (num lg E)), by rw [← List.append_assoc, ← hr]; rfl⟩
/-- the image at an entry's place: its code, then its numbers -/
theorem img_at (lg : Nat → Int32) {i E : Nat} (h : i < E) {k : Nat} (hk : k < nums (cod lg i) + 1) : (img lg E)[posn lg i + k]? = some (if k = 0 then cod lg i else num lg i (k - 1)) := by
  obtain ⟨r, hr⟩ := img_pre lg (show i + 1 ≤ E from h)
  rw [hr]
  have e : img lg (i + 1) = img lg i ++ (cod lg i :: (List.range (nums (cod lg i))).map (num lg i)) := rfl
  rw [e, List.append_assoc, List.getElem?_append_right (by unfold posn; omega)]
  rw [show posn lg i + k - (img lg i).length = k by unfold posn; omega]
  cases k with
  | zero => rfl
  | succ k =>
    rw [if_neg (by omega)]
    rw [List.cons_append, List.getElem?_cons_succ, List.getElem?_append_left (by simp; omega)]
    simp only [List.getElem?_map, Nat.add_sub_cancel]
    rw [List.getElem?_range (by omega)]
    rfl
/-- the log with one entry more -/
def lgw (lg : Nat → Int32) (E : Nat) (c t dy : Int32) (nn : Nat → Int32) : Nat → Int32 := fun j => if j < 18 * E then lg j else if j = 18 * E then c else if j = 18 * E + 1 then t else if j = 18 * E + 2 then dy else if j < 18 * E + 18 then (if j - (18 * E + 3) < nums c then nn (j - (18 * E + 3)) else 0) else lg j
theorem lgw_lt {lg : Nat → Int32} {E : Nat} {c t dy : Int32} {nn : Nat → Int32} {j : Nat} (h : j < 18 * E) : lgw lg E c t dy nn j = lg j := if_pos h
theorem lgw_cod {lg : Nat → Int32} {E : Nat} {c t dy : Int32} {nn : Nat → Int32} : cod (lgw lg E c t dy nn) E = c := by
  unfold cod lgw
  rw [if_neg (by omega), if_pos rfl]
theorem lgw_ent {lg : Nat → Int32} {E : Nat} {c t dy : Int32} {nn : Nat → Int32} : ent (lgw lg E c t dy nn) E = t := by
  unfold ent lgw
  rw [if_neg (by omega), if_neg (by omega), if_pos rfl]
theorem lgw_dyy {lg : Nat → Int32} {E : Nat} {c t dy : Int32} {nn : Nat → Int32} : dyy (lgw lg E c t dy nn) E = dy := by
  unfold dyy lgw
  rw [if_neg (by omega), if_neg (by omega), if_neg (by omega), if_pos rfl]
theorem lgw_num {lg : Nat → Int32} {E : Nat} {c t dy : Int32} {nn : Nat → Int32} {k : Nat} (hk : k < 15) : num (lgw lg E c t dy nn) E k = if k < nums c then nn k else 0 := by
  unfold num lgw
  rw [if_neg (by omega), if_neg (by omega), if_neg (by omega), if_neg (by omega), if_pos (by omega)]
  rw [show 18 * E + 3 + k - (18 * E + 3) = k by omega]
/-- two logs alike below E -/
def lgE (lg lg' : Nat → Int32) (E : Nat) : Prop := ∀ j, j < 18 * E → lg' j = lg j
theorem lgE_cod {lg lg' : Nat → Int32} {E i : Nat} (h : lgE lg lg' E) (hi : i < E) : cod lg' i = cod lg i := h _ (by omega)
theorem lgE_ent {lg lg' : Nat → Int32} {E i : Nat} (h : lgE lg lg' E) (hi : i < E) : ent lg' i = ent lg i := h _ (by omega)
theorem lgE_dyy {lg lg' : Nat → Int32} {E i : Nat} (h : lgE lg lg' E) (hi : i < E) : dyy lg' i = dyy lg i := h _ (by omega)
theorem lgE_num {lg lg' : Nat → Int32} {E i k : Nat} (h : lgE lg lg' E) (hi : i < E) (hk : k < 15) : num lg' i k = num lg i k := h _ (by omega)
theorem lgE_img {lg lg' : Nat → Int32} {E : Nat} (h : lgE lg lg' E) : ∀ i, i ≤ E → img lg' i = img lg i := by
  intro i
  induction i with
  | zero => intro _; rfl
  | succ i ih =>
    intro hi
    have e1 := lgE_cod h (show i < E by omega)
    show img lg' i ++ (cod lg' i :: (List.range (nums (cod lg' i))).map (num lg' i)) = img lg i ++ (cod lg i :: (List.range (nums (cod lg i))).map (num lg i))
    rw [ih (by omega), e1]
    congr 2
    refine List.map_congr_left fun k hk => ?_
    have := nums_le (cod lg i)
    exact lgE_num h (show i < E by omega) (by have := List.mem_range.mp hk; omega)
theorem lgw_E {lg : Nat → Int32} {E : Nat} {c t dy : Int32} {nn : Nat → Int32} : lgE lg (lgw lg E c t dy nn) E := fun _ hj => lgw_lt hj

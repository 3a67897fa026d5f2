/-! What is known on a day is a beginning of the log. -/
def knC (lg : Nat → Int32) (y : Int32) : Nat → Nat
  | 0 => 0
  | n + 1 => if ent lg n ≤ y then n + 1 else knC lg y n
section KN
variable {lg : Nat → Int32} {E v p i : Nat} {x y : Int32}
theorem knC_le : ∀ {E : Nat}, knC lg y E ≤ E := by
  intro E
  induction E with
  | zero => exact Nat.le_refl 0
  | succ n ih =>
    unfold knC
    split
    · exact Nat.le_refl _
    · omega
theorem knC_out : ∀ {E : Nat}, knC lg y E ≤ i → i < E → ¬ ent lg i ≤ y := by
  intro E
  induction E with
  | zero => intro _ h; exact absurd h (Nat.not_lt_zero i)
  | succ n ih =>
    intro h1 h2 h3
    unfold knC at h1
    split at h1
    · omega
    · rename_i hn
      by_cases q : i = n
      · rw [q] at h3; exact hn h3
      · exact ih h1 (by omega) h3
theorem ent_mono (h : ∀ j, j < E → wfE lg j) {j : Nat} (hij : i ≤ j) (hj : j < E) : (ent lg i).toInt ≤ (ent lg j).toInt := by
  rw [(h i (by omega)).1, (h j hj).1]
  exact tdy_mono h hij (by omega)
theorem knC_in : ∀ {E : Nat}, (∀ j, j < E → wfE lg j) → i < knC lg y E → ent lg i ≤ y := by
  intro E
  induction E with
  | zero => intro _ h; exact absurd h (Nat.not_lt_zero i)
  | succ n ih =>
    intro hW h
    unfold knC at h
    split at h
    · rename_i hn
      exact Int32.le_iff_toInt_le.mpr (Int.le_trans (ent_mono hW (show i ≤ n by omega) (by omega)) (Int32.le_iff_toInt_le.mp hn))
    · exact ih (fun j hj => hW j (by omega)) h
/-- a choice of the last, cut off behind what may be chosen -/
theorem lat_cut {dy : Nat → Int32} {P : Nat → Prop} [DecidablePred P] {s0 : Option Nat} {f n : Nat} : ∀ {m : Nat}, n ≤ m → (∀ i, n ≤ i → i < m → ¬ P (f + i)) → lat dy P s0 f m = lat dy P s0 f n := by
  intro m
  induction m with
  | zero => intro h _; rw [show n = 0 by omega]
  | succ m ih =>
    intro h hp
    by_cases q : n = m + 1
    · rw [q]
    · have e := ih (by omega) fun i h1 h2 => hp i h1 (by omega)
      show (if P (f + m) ∧ ltb dy (f + m) (lat dy P s0 f m) = true then some (f + m) else lat dy P s0 f m) = _
      rw [if_neg fun z => hp m (by omega) (by omega) z.1]
      exact e
theorem lat_congr {dy : Nat → Int32} {P R : Nat → Prop} [DecidablePred P] [DecidablePred R] {s0 : Option Nat} {f : Nat} : ∀ {m : Nat}, (∀ i, i < m → (P (f + i) ↔ R (f + i))) → lat dy P s0 f m = lat dy R s0 f m := by
  intro m
  induction m with
  | zero => intro _; rfl
  | succ m ih =>
    intro h
    have e := ih fun i hi => h i (by omega)
    show (if P (f + m) ∧ ltb dy (f + m) (lat dy P s0 f m) = true then some (f + m) else lat dy P s0 f m) = (if R (f + m) ∧ ltb dy (f + m) (lat dy R s0 f m) = true then some (f + m) else lat dy R s0 f m)
    rw [e]
    by_cases hz : P (f + m)
    · have hr := (h m (by omega)).mp hz
      by_cases hl : ltb dy (f + m) (lat dy R s0 f m) = true
      · rw [if_pos ⟨hz, hl⟩, if_pos ⟨hr, hl⟩]
      · rw [if_neg fun z => hl z.2, if_neg fun z => hl z.2]
    · rw [if_neg fun z => hz z.1, if_neg fun z => hz ((h m (by omega)).mpr z.1)]
theorem lst_cut {P : Nat → Prop} [DecidablePred P] {n : Nat} : ∀ {m : Nat}, n ≤ m → (∀ i, n ≤ i → i < m → ¬ P i) → lst P m = lst P n := by
  intro m
  induction m with
  | zero => intro h _; rw [show n = 0 by omega]
  | succ m ih =>
    intro h hp
    by_cases q : n = m + 1
    · rw [q]
    · show (if P m then some m else lst P m) = _
      rw [if_neg (hp m (by omega) (by omega))]
      exact ih (by omega) fun i h1 h2 => hp i h1 (by omega)
theorem exi_cut {P : Nat → Prop} [DecidablePred P] {n m : Nat} (h : n ≤ m) (hp : ∀ i, n ≤ i → i < m → ¬ P i) : exi P m = true ↔ exi P n = true := by
  rw [exi_iff, exi_iff]
  constructor
  · rintro ⟨i, hi, z⟩
    by_cases q : i < n
    · exact ⟨i, q, z⟩
    · exact absurd z (hp i (by omega) hi)
  · rintro ⟨i, hi, z⟩
    exact ⟨i, by omega, z⟩
theorem st_out (h : knC lg y E ≤ i) (h2 : i < E) : ¬ stP lg x y i := fun z => knC_out h h2 z.1
theorem lof_cut {c a b : Int32} {s0 : Option Nat} {f : Nat} : lof lg c a b x y s0 f (E - f) = lof lg c a b x y s0 f (knC lg y E - f) := by
  have := knC_le (lg := lg) (y := y) (E := E)
  exact lat_cut (by omega) fun i h1 h2 z => st_out (lg := lg) (E := E) (x := x) (y := y) (i := f + i) (by omega) (by omega) z.2
theorem lof_cut0 {c a b : Int32} : lof lg c a b x y none 0 E = lof lg c a b x y none 0 (knC lg y E) := lof_cut (f := 0)
theorem menO_cut {a b : Int32} : menO lg a b x y E = menO lg a b x y (knC lg y E) :=
  lat_cut knC_le fun i h1 h2 z => st_out (lg := lg) (E := E) (x := x) (y := y) (i := 0 + i) (by omega) (by omega) z.2
theorem shp_cut {a b : Int32} : shp lg E a b y = shp lg (knC lg y E) a b y := lst_cut knC_le fun i h1 h2 z => knC_out h1 h2 z.2.2.2
theorem sho_cut {a b dd : Int32} {j : Nat} : sho lg E a b y j dd = sho lg (knC lg y E) a b y j dd := by unfold sho; rw [shp_cut]
theorem dru_cut {kd : Int32} : dru lg kd y E = dru lg kd y (knC lg y E) := lst_cut knC_le fun i h1 h2 z => knC_out h1 h2 z.2.2
theorem mnd_cut {a : Int32} : ∀ {m n : Nat}, n ≤ m → (∀ i, n ≤ i → i < m → ¬ stP lg x y i) → mnd lg a x y m = mnd lg a x y n := by
  intro m
  induction m with
  | zero => intro n h _; rw [show n = 0 by omega]
  | succ m ih =>
    intro n h hp
    by_cases q : n = m + 1
    · rw [q]
    · show (if meP lg a m ∧ stP lg x y m then mxI (mnd lg a x y m) (dyy lg m) else mnd lg a x y m) = _
      rw [if_neg fun z => hp m (by omega) (by omega) z.2]
      exact ih (by omega) fun i h1 h2 => hp i h1 (by omega)
/-- lists of what is known -/
theorem sel_nd {P : Nat → Bool} : (sel E P).Nodup := List.Nodup.sublist List.filter_sublist List.nodup_range
theorem sel_kn {P : Nat → Bool} {n k : Nat} (hn : n ≤ E) (hk : k < (sel E P).length) : k < (sel n P).length ↔ ((sel E P)[k]?).getD 0 < n := by
  have hg : (sel E P)[k]? = some ((sel E P)[k]) := List.getElem?_eq_getElem hk
  constructor
  · intro h
    have h1 := (sel_pre_get hn h).1
    have h2 : (sel n P)[k]? = some ((sel n P)[k]) := List.getElem?_eq_getElem h
    rw [h1, h2]
    exact (sel_get h2).1
  · intro h
    rw [hg] at h
    have h : (sel E P)[k] < n := h
    have hm : (sel E P)[k] ∈ sel n P := sel_mem.mpr ⟨h, (sel_get hg).2⟩
    obtain ⟨q, hq, eq⟩ := List.getElem_of_mem hm
    have h1 := (sel_pre_get hn hq).1
    have h2 : (sel n P)[q]? = some ((sel n P)[q]) := List.getElem?_eq_getElem hq
    have : q = k := nd_inj sel_nd (h1.trans (h2.trans (by rw [eq]))) hg
    omega
theorem ent_kn (hW : ∀ j, j < E → wfE lg j) (hi : i < E) : ent lg i ≤ y ↔ i < knC lg y E := by
  constructor
  · intro h
    by_cases q : i < knC lg y E
    · exact q
    · exact absurd h (knC_out (by omega) hi)
  · exact knC_in hW
theorem psl_kn (hW : ∀ j, j < E → wfE lg j) (hp : p < (psl lg E v).length) : ent lg (pat lg E v p) ≤ y ↔ p < (psl lg (knC lg y E) v).length := by
  rw [ent_kn hW (pat_lt hp)]
  exact (sel_kn knC_le hp).symm
theorem wsl_kn (hW : ∀ j, j < E → wfE lg j) (hp : p < (wsl lg E v).length) : ent lg (wat lg E v p) ≤ y ↔ p < (wsl lg (knC lg y E) v).length := by
  rw [ent_kn hW (wat_lt hp)]
  exact (sel_kn knC_le hp).symm
theorem vsl_kn (hW : ∀ j, j < E → wfE lg j) (hp : v < (vsl lg E).length) : ent lg (vat lg E v) ≤ y ↔ v < (vsl lg (knC lg y E)).length := by
  rw [ent_kn hW (vat_lt hp)]
  exact (sel_kn knC_le hp).symm
theorem pat_kn (hp : p < (psl lg (knC lg y E) v).length) : pat lg E v p = pat lg (knC lg y E) v p := (pat_pre knC_le hp).1
theorem wat_kn (hp : p < (wsl lg (knC lg y E) v).length) : wat lg E v p = wat lg (knC lg y E) v p := (wat_pre knC_le hp).1
theorem vat_kn (hp : v < (vsl lg (knC lg y E)).length) : vat lg E v = vat lg (knC lg y E) v := (vat_pre knC_le hp).1
/-- so many acts are known -/
theorem acl_kn (hW : ∀ j, j < E → wfE lg j) {n : Nat} (hn : n ≤ (acl lg E).length) (h1 : ∀ j i, n ≤ j → (acl lg E)[j]? = some i → y < ent lg i) (h2 : ∀ i, 0 < n → (acl lg E)[n - 1]? = some i → ent lg i ≤ y) : n = (acl lg (knC lg y E)).length := by
  have key : ∀ {k : Nat}, k < (acl lg E).length → (k < (acl lg (knC lg y E)).length ↔ k < n) := by
    intro k hk
    have hg : (acl lg E)[k]? = some ((acl lg E)[k]) := List.getElem?_eq_getElem hk
    have hs := sel_kn (P := fun i => !(cod lg i == 0)) (knC_le (lg := lg) (y := y) (E := E)) hk
    have hs : k < (acl lg (knC lg y E)).length ↔ ((acl lg E)[k]?).getD 0 < knC lg y E := hs
    rw [hg] at hs
    have hlt : (acl lg E)[k] < E := (sel_get hg).1
    rw [hs]
    constructor
    · intro h
      by_cases q : k < n
      · exact q
      · have e1 := knC_in hW h
        exact absurd e1 (Int32.not_le.mpr (h1 k _ (by omega) hg))
    · intro h
      have hn1 : n - 1 < (acl lg E).length := by omega
      have hg1 : (acl lg E)[n - 1]? = some ((acl lg E)[n - 1]) := List.getElem?_eq_getElem hn1
      have e1 := h2 _ (by omega) hg1
      have e2 := (ent_kn hW (sel_get hg1).1).mp e1
      have hs1 := sel_kn (P := fun i => !(cod lg i == 0)) (knC_le (lg := lg) (y := y) (E := E)) hn1
      have hs1 : n - 1 < (acl lg (knC lg y E)).length ↔ ((acl lg E)[n - 1]?).getD 0 < knC lg y E := hs1
      rw [hg1] at hs1
      have := hs1.mpr e2
      exact hs.mp (by omega)
  obtain ⟨r, hr⟩ := sel_pre (P := fun i => !(cod lg i == 0)) (knC_le (lg := lg) (y := y) (E := E))
  have hr : acl lg E = acl lg (knC lg y E) ++ r := hr
  have hl : (acl lg (knC lg y E)).length ≤ (acl lg E).length := by rw [hr, List.length_append]; omega
  apply Nat.le_antisymm
  · by_cases q : n = 0
    · omega
    · have := (key (k := n - 1) (by omega)).mpr (by omega)
      omega
  · by_cases q : (acl lg (knC lg y E)).length = 0
    · omega
    · have := (key (k := (acl lg (knC lg y E)).length - 1) (by omega)).mp (by omega)
      omega
end KN

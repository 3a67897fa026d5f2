/-! The end of a spot's row, and what is ahead of it: taken entry by entry, and chosen. -/
def isL (dy : Nat → Int32) (P : Nat → Prop) (E : Nat) (o : Option Nat) : Prop := match o with
  | none => ∀ i, i < E → ¬ P i
  | some k => (k < E ∧ P k) ∧ ∀ i, i < E → P i → (dy i).toInt < (dy k).toInt ∨ ((dy i).toInt = (dy k).toInt ∧ i ≤ k)
section IL
variable {dy : Nat → Int32} {P P' : Nat → Prop} {E : Nat} {o o' : Option Nat}
theorem isL_uniq (h : isL dy P E o) (h' : isL dy P E o') : o = o' := by
  cases o with
  | none =>
    cases o' with
    | none => rfl
    | some k => exact absurd h'.1.2 (h k h'.1.1)
  | some k =>
    cases o' with
    | none => exact absurd h.1.2 (h' k h.1.1)
    | some k' =>
      have a := h.2 k' h'.1.1 h'.1.2
      have b := h'.2 k h.1.1 h.1.2
      congr 1
      omega
theorem isL_congr (h : isL dy P E o) (e : ∀ i, i < E → (P i ↔ P' i)) : isL dy P' E o := by
  cases o with
  | none => exact fun i hi z => h i hi ((e i hi).mpr z)
  | some k => exact ⟨⟨h.1.1, (e k h.1.1).mp h.1.2⟩, fun i hi z => h.2 i hi ((e i hi).mpr z)⟩
theorem lat_isLf {P : Nat → Prop} [DecidablePred P] {f : Nat} : ∀ n, isL dy (fun i => f ≤ i ∧ P i) (f + n) (lat dy P none f n) := by
  intro n
  induction n with
  | zero => exact fun i hi z => absurd z.1 (by omega)
  | succ n ih =>
    show isL dy (fun i => f ≤ i ∧ P i) (f + n + 1) (if P (f + n) ∧ ltb dy (f + n) (lat dy P none f n) = true then some (f + n) else lat dy P none f n)
    cases ho : lat dy P none f n with
    | none =>
      rw [ho] at ih
      by_cases hp : P (f + n)
      · rw [if_pos ⟨hp, rfl⟩]
        refine ⟨⟨by omega, by omega, hp⟩, fun i hi z => ?_⟩
        by_cases q : i = f + n
        · rw [q]; exact Or.inr ⟨rfl, Nat.le_refl _⟩
        · exact absurd z (ih i (by omega))
      · rw [if_neg fun z => hp z.1]
        intro i hi z
        by_cases q : i = f + n
        · rw [q] at z; exact hp z.2
        · exact ih i (by omega) z
    | some k =>
      rw [ho] at ih
      have e : (ltb dy (f + n) (some k) = true) ↔ dy k ≤ dy (f + n) := decide_eq_true_iff
      obtain ⟨⟨h1, h2⟩, h3⟩ := ih
      by_cases hp : P (f + n) ∧ dy k ≤ dy (f + n)
      · rw [if_pos ⟨hp.1, e.mpr hp.2⟩]
        have hle := Int32.le_iff_toInt_le.mp hp.2
        refine ⟨⟨by omega, by omega, hp.1⟩, fun i hi z => ?_⟩
        by_cases q : i = f + n
        · rw [q]; exact Or.inr ⟨rfl, Nat.le_refl _⟩
        · have := h3 i (by omega) z
          omega
      · rw [if_neg fun z => hp ⟨z.1, e.mp z.2⟩]
        refine ⟨⟨by omega, h2⟩, fun i hi z => ?_⟩
        by_cases q : i = f + n
        · rw [q] at z ⊢
          have hlt : ¬ (dy k).toInt ≤ (dy (f + n)).toInt := fun y => hp ⟨z.2, Int32.le_iff_toInt_le.mpr y⟩
          omega
        · exact h3 i (by omega) z
theorem lat_isL {P : Nat → Prop} [DecidablePred P] {n : Nat} : isL dy P n (lat dy P none 0 n) := by
  have h := lat_isLf (dy := dy) (P := P) (f := 0) n
  rw [Nat.zero_add] at h
  exact isL_congr h fun i _ => ⟨fun z => z.2, fun z => ⟨Nat.zero_le i, z⟩⟩
theorem mdn_spec {P : Nat → Prop} [DecidablePred P] : ∀ (n : Nat) (o : Option Nat), (∀ j, o = some j → n ≤ j) → (match mdn dy P n o with
    | none => o = none ∧ ∀ i, i < n → ¬ P i
    | some k => (o = some k ∨ (k < n ∧ P k)) ∧ (∀ i, i < n → P i → (dy i).toInt < (dy k).toInt ∨ ((dy i).toInt = (dy k).toInt ∧ i ≤ k)) ∧ ∀ j, o = some j → (dy j).toInt < (dy k).toInt ∨ ((dy j).toInt = (dy k).toInt ∧ j ≤ k)) := by
  intro n
  induction n with
  | zero =>
    intro o ho
    cases o with
    | none => exact (⟨rfl, fun i hi => absurd hi (Nat.not_lt_zero i)⟩ : (none : Option Nat) = none ∧ ∀ i, i < 0 → ¬ P i)
    | some k => exact (⟨Or.inl rfl, fun i hi => absurd hi (Nat.not_lt_zero i), fun j hj => by cases hj; exact Or.inr ⟨rfl, Nat.le_refl _⟩⟩ : (some k = some k ∨ (k < 0 ∧ P k)) ∧ (∀ i, i < 0 → P i → (dy i).toInt < (dy k).toInt ∨ ((dy i).toInt = (dy k).toInt ∧ i ≤ k)) ∧ ∀ j, some k = some j → (dy j).toInt < (dy k).toInt ∨ ((dy j).toInt = (dy k).toInt ∧ j ≤ k))
  | succ n ih =>
    intro o ho
    have hg : gtb dy n o = true ↔ ∀ j, o = some j → (dy j).toInt < (dy n).toInt := by
      cases o with
      | none => exact ⟨fun _ j hj => (by cases hj), fun _ => rfl⟩
      | some j =>
        have e : (gtb dy n (some j) = true) ↔ dy j < dy n := decide_eq_true_iff
        exact ⟨fun h j' hj => by cases hj; exact Int32.lt_iff_toInt_lt.mp (e.mp h), fun h => e.mpr (Int32.lt_iff_toInt_lt.mpr (h j rfl))⟩
    by_cases ht : P n ∧ gtb dy n o = true
    · have e : mdn dy P (n + 1) o = mdn dy P n (some n) := by
        show mdn dy P n (if P n ∧ gtb dy n o = true then some n else o) = _
        rw [if_pos ht]
      rw [e]
      have h := ih (some n) (fun j hj => by cases hj; exact Nat.le_refl n)
      cases hr : mdn dy P n (some n) with
      | none => rw [hr] at h; exact absurd h.1 (by simp)
      | some k =>
        rw [hr] at h
        obtain ⟨h1, h2, h3⟩ := h
        have h4 := h3 n rfl
        have hg := hg.mp ht.2
        refine ⟨Or.inr ?_, fun i hi z => ?_, fun j hj => ?_⟩
        · rcases h1 with q | q
          · cases q; exact ⟨Nat.lt_succ_self _, ht.1⟩
          · exact ⟨by omega, q.2⟩
        · by_cases q : i = n
          · rw [q]; exact h4
          · exact h2 i (by omega) z
        · have := hg j hj
          omega
    · have e : mdn dy P (n + 1) o = mdn dy P n o := by
        show mdn dy P n (if P n ∧ gtb dy n o = true then some n else o) = _
        rw [if_neg ht]
      rw [e]
      have h := ih o (fun j hj => by have := ho j hj; omega)
      cases hr : mdn dy P n o with
      | none =>
        rw [hr] at h
        refine ⟨h.1, fun i hi z => ?_⟩
        by_cases q : i = n
        · rw [q] at z
          exact ht ⟨z, hg.mpr fun j hj => by rw [h.1] at hj; cases hj⟩
        · exact h.2 i (by omega) z
      | some k =>
        rw [hr] at h
        obtain ⟨h1, h2, h3⟩ := h
        refine ⟨?_, fun i hi z => ?_, h3⟩
        · rcases h1 with q | q
          · exact Or.inl q
          · exact Or.inr ⟨by omega, q.2⟩
        · by_cases q : i = n
          · rw [q] at z ⊢
            have hng : ¬ gtb dy n o = true := fun y => ht ⟨z, y⟩
            rw [hg] at hng
            have : ∃ j, o = some j ∧ ¬ (dy j).toInt < (dy n).toInt := by
              cases o with
              | none => exact absurd (fun j hj => by cases hj) hng
              | some j => exact ⟨j, rfl, fun y => hng fun j' hj => by cases hj; exact y⟩
            obtain ⟨j, hj, hjl⟩ := this
            have h5 := h3 j hj
            have h6 := ho j hj
            omega
          · exact h2 i (by omega) z
end IL
/-- measures that count behind a plate -/
abbrev qmP (lg : Nat → Int32) (pl : Nat) (v p : Int32) (s : Nat) (x y : Int32) (i : Nat) : Prop := msP lg v p s x y i ∧ ¬ (dyy lg i < dyy lg pl ∨ dyy lg i = dyy lg pl ∧ i < pl)
def spF (lg : Nat → Int32) (pl : Nat) (v p x y : Int32) (s : Nat) : Nat → spT
  | 0 => (dyy lg pl, pthk lg pl, -1, 0)
  | i + 1 => if qmP lg pl v p s x y i then spTake (spF lg pl v p x y s i) (dyy lg i) (num lg i (3 + s)) else spF lg pl v p x y s i
section SF
variable {lg : Nat → Int32} {pl s E : Nat} {v p x y bf : Int32}
theorem mea_isL (ha : pl < E) (hc : ¬ cod lg pl = 4) : isL (dyy lg) (fun i => qmP lg pl v p s x y i ∧ dyy lg i < bf) E (mea lg E v p s x y pl bf) := by
  have hU := lat_isLf (dy := dyy lg) (P := fun i => msP lg v p s x y i ∧ dyy lg pl ≤ dyy lg i ∧ dyy lg i < bf) (f := pl + 1) (E - (pl + 1))
  rw [show pl + 1 + (E - (pl + 1)) = E by omega] at hU
  have hm := mdn_spec (dy := dyy lg) (P := fun i => msP lg v p s x y i ∧ dyy lg pl < dyy lg i ∧ dyy lg i < bf) pl (meaU lg v p s x y pl bf (E - (pl + 1))) (fun j hj => by
    have hU : isL (dyy lg) _ E (meaU lg v p s x y pl bf (E - (pl + 1))) := hU
    rw [hj] at hU
    have := hU.1.2.1
    omega)
  have hm : (match mea lg E v p s x y pl bf with
    | none => meaU lg v p s x y pl bf (E - (pl + 1)) = none ∧ ∀ i, i < pl → ¬ (msP lg v p s x y i ∧ dyy lg pl < dyy lg i ∧ dyy lg i < bf)
    | some k => (meaU lg v p s x y pl bf (E - (pl + 1)) = some k ∨ (k < pl ∧ (msP lg v p s x y k ∧ dyy lg pl < dyy lg k ∧ dyy lg k < bf))) ∧ (∀ i, i < pl → (msP lg v p s x y i ∧ dyy lg pl < dyy lg i ∧ dyy lg i < bf) → (dyy lg i).toInt < (dyy lg k).toInt ∨ ((dyy lg i).toInt = (dyy lg k).toInt ∧ i ≤ k)) ∧ ∀ j, meaU lg v p s x y pl bf (E - (pl + 1)) = some j → (dyy lg j).toInt < (dyy lg k).toInt ∨ ((dyy lg j).toInt = (dyy lg k).toInt ∧ j ≤ k)) := hm
  have hU : isL (dyy lg) (fun i => pl + 1 ≤ i ∧ (msP lg v p s x y i ∧ dyy lg pl ≤ dyy lg i ∧ dyy lg i < bf)) E (meaU lg v p s x y pl bf (E - (pl + 1))) := hU
  have lo : ∀ {i}, (qmP lg pl v p s x y i ∧ dyy lg i < bf) → i < pl → (msP lg v p s x y i ∧ dyy lg pl < dyy lg i ∧ dyy lg i < bf) := fun {i} z hi => ⟨z.1.1, Int32.lt_iff_toInt_lt.mpr (by
    have a1 : ¬ (dyy lg i).toInt < (dyy lg pl).toInt := fun q => z.1.2 (Or.inl (Int32.lt_iff_toInt_lt.mpr q))
    have a2 : ¬ (dyy lg i).toInt = (dyy lg pl).toInt := fun q => z.1.2 (Or.inr ⟨Int32.toInt_inj.mp q, hi⟩)
    omega), z.2⟩
  have hi' : ∀ {i}, (qmP lg pl v p s x y i ∧ dyy lg i < bf) → ¬ i < pl → pl + 1 ≤ i ∧ (msP lg v p s x y i ∧ dyy lg pl ≤ dyy lg i ∧ dyy lg i < bf) := fun {i} z hi => ⟨by
    have : ¬ i = pl := fun q => by rw [q] at z; exact hc z.1.1.1.1
    omega, z.1.1, Int32.not_lt.mp fun q => z.1.2 (Or.inl q), z.2⟩
  cases hr : mea lg E v p s x y pl bf with
  | none =>
    rw [hr] at hm
    rw [hm.1] at hU
    intro i hi z
    by_cases q : i < pl
    · exact hm.2 i q (lo z q)
    · exact hU i hi (hi' z q)
  | some k =>
    rw [hr] at hm
    obtain ⟨h1, h2, h3⟩ := hm
    refine ⟨?_, fun i hi z => ?_⟩
    · rcases h1 with q | q
      · rw [q] at hU
        obtain ⟨⟨a1, a2, a3, a4, a5⟩, -⟩ := hU
        exact ⟨a1, ⟨a3, fun y => y.elim (fun w => absurd w (Int32.not_lt.mpr a4)) fun w => by omega⟩, a5⟩
      · exact ⟨by omega, ⟨q.2.1, fun y => y.elim (fun w => Int32.lt_irrefl (Int32.lt_trans w q.2.2.1)) fun w => by rw [w.1] at q; exact Int32.lt_irrefl q.2.2.1⟩, q.2.2.2⟩
    · by_cases q : i < pl
      · exact h2 i q (lo z q)
      · have z2 := hi' z q
        cases hu : meaU lg v p s x y pl bf (E - (pl + 1)) with
        | none => rw [hu] at hU; exact absurd z2 (hU i hi)
        | some j =>
          rw [hu] at hU
          have a := hU.2 i hi z2
          have b := h3 j hu
          omega
/-- what is ahead of the end l of a row -/
def spB2 (lg : Nat → Int32) (pl l : Nat) (s : Nat) (w : Option Nat) : Int32 × Int32 := match w with
  | some w => (dyy lg w, num lg w (3 + s))
  | none => if dyy lg pl < dyy lg l then (dyy lg pl, pthk lg pl) else (-1, 0)
def spR (lg : Nat → Int32) (pl : Nat) (s : Nat) (o : Option Nat) (w : Nat → Option Nat) : spT := match o with
  | none => (dyy lg pl, pthk lg pl, -1, 0)
  | some l => (dyy lg l, num lg l (3 + s), (spB2 lg pl l s (w l)).1, (spB2 lg pl l s (w l)).2)
theorem spF_inv (h0 : 0 ≤ (dyy lg pl).toInt) : ∀ k, spF lg pl v p x y s k = spR lg pl s (lat (dyy lg) (qmP lg pl v p s x y) none 0 k) (fun l => lat (dyy lg) (fun i => qmP lg pl v p s x y i ∧ dyy lg i < dyy lg l) none 0 k) := by
  intro k
  induction k with
  | zero => rfl
  | succ k ih =>
    have eF : spF lg pl v p x y s (k + 1) = if qmP lg pl v p s x y k then spTake (spF lg pl v p x y s k) (dyy lg k) (num lg k (3 + s)) else spF lg pl v p x y s k := rfl
    have eL := lat0_s (dy := dyy lg) (P := qmP lg pl v p s x y) (s0 := none) (n := k)
    have eW : ∀ l, lat (dyy lg) (fun i => qmP lg pl v p s x y i ∧ dyy lg i < dyy lg l) none 0 (k + 1) = if (qmP lg pl v p s x y k ∧ dyy lg k < dyy lg l) ∧ ltb (dyy lg) k (lat (dyy lg) (fun i => qmP lg pl v p s x y i ∧ dyy lg i < dyy lg l) none 0 k) = true then some k else lat (dyy lg) (fun i => qmP lg pl v p s x y i ∧ dyy lg i < dyy lg l) none 0 k := fun l => lat0_s
    by_cases hq : qmP lg pl v p s x y k
    · rw [if_pos hq, ih] at eF
      rw [eF]
      have hLs := lat_isL (dy := dyy lg) (P := qmP lg pl v p s x y) (n := k)
      have hpl : ¬ (dyy lg k).toInt < (dyy lg pl).toInt := fun z => hq.2 (Or.inl (Int32.lt_iff_toInt_lt.mpr z))
      cases hL : lat (dyy lg) (qmP lg pl v p s x y) none 0 k with
      | none =>
        rw [hL] at hLs
        rw [hL, if_pos ⟨hq, rfl⟩] at eL
        rw [eL]
        have w0 : lat (dyy lg) (fun i => qmP lg pl v p s x y i ∧ dyy lg i < dyy lg k) none 0 k = none := lat_none fun j hj z => hLs j hj z.1
        have w1 := eW k
        rw [w0, if_neg fun z => Int32.lt_irrefl z.1.2] at w1
        show spTake (dyy lg pl, pthk lg pl, -1, 0) (dyy lg k) (num lg k (3 + s)) = (dyy lg k, num lg k (3 + s), (spB2 lg pl k s (lat (dyy lg) (fun i => qmP lg pl v p s x y i ∧ dyy lg i < dyy lg k) none 0 (k + 1))).1, (spB2 lg pl k s (lat (dyy lg) (fun i => qmP lg pl v p s x y i ∧ dyy lg i < dyy lg k) none 0 (k + 1))).2)
        rw [w1]
        unfold spTake spB2
        by_cases q : dyy lg pl < dyy lg k
        · rw [if_pos q, if_pos q]
        · have q2 : dyy lg k = dyy lg pl := Int32.toInt_inj.mp (by have h9 : ¬ (dyy lg pl).toInt < (dyy lg k).toInt := fun z => q (Int32.lt_iff_toInt_lt.mpr z); omega)
          rw [if_neg q, if_pos q2, if_neg q, q2]
      | some l =>
        rw [hL] at hLs
        have elt : (ltb (dyy lg) k (some l) = true) ↔ dyy lg l ≤ dyy lg k := decide_eq_true_iff
        show spTake (dyy lg l, num lg l (3 + s), (spB2 lg pl l s (lat (dyy lg) (fun i => qmP lg pl v p s x y i ∧ dyy lg i < dyy lg l) none 0 k)).1, (spB2 lg pl l s (lat (dyy lg) (fun i => qmP lg pl v p s x y i ∧ dyy lg i < dyy lg l) none 0 k)).2) (dyy lg k) (num lg k (3 + s)) = _
        unfold spTake
        dsimp only
        by_cases q1 : dyy lg l < dyy lg k
        · rw [if_pos q1]
          rw [hL, if_pos ⟨hq, elt.mpr (Int32.le_of_lt q1)⟩] at eL
          rw [eL]
          have w0 : lat (dyy lg) (fun i => qmP lg pl v p s x y i ∧ dyy lg i < dyy lg k) none 0 k = some l := by
            refine isL_uniq (lat_isL (dy := dyy lg) (P := fun i => qmP lg pl v p s x y i ∧ dyy lg i < dyy lg k) (n := k)) ⟨⟨hLs.1.1, hLs.1.2, q1⟩, fun i hi z => hLs.2 i hi z.1⟩
          have w1 := eW k
          rw [w0, if_neg fun z => Int32.lt_irrefl z.1.2] at w1
          show _ = (dyy lg k, num lg k (3 + s), (spB2 lg pl k s (lat (dyy lg) (fun i => qmP lg pl v p s x y i ∧ dyy lg i < dyy lg k) none 0 (k + 1))).1, (spB2 lg pl k s (lat (dyy lg) (fun i => qmP lg pl v p s x y i ∧ dyy lg i < dyy lg k) none 0 (k + 1))).2)
          rw [w1]
          rfl
        · rw [if_neg q1]
          by_cases q2 : dyy lg k = dyy lg l
          · rw [if_pos q2]
            rw [hL, if_pos ⟨hq, elt.mpr (by rw [q2]; exact Int32.le_refl _)⟩] at eL
            rw [eL]
            have w1 := eW k
            rw [if_neg fun z => Int32.lt_irrefl z.1.2, q2] at w1
            show _ = (dyy lg k, num lg k (3 + s), (spB2 lg pl k s (lat (dyy lg) (fun i => qmP lg pl v p s x y i ∧ dyy lg i < dyy lg k) none 0 (k + 1))).1, (spB2 lg pl k s (lat (dyy lg) (fun i => qmP lg pl v p s x y i ∧ dyy lg i < dyy lg k) none 0 (k + 1))).2)
            rw [q2, w1]
            have e9 : ∀ w, spB2 lg pl k s w = spB2 lg pl l s w := fun w => by unfold spB2; rw [q2]
            rw [e9]
          · rw [if_neg q2]
            have q3 : (dyy lg k).toInt < (dyy lg l).toInt := by
              have h8 : ¬ (dyy lg l).toInt < (dyy lg k).toInt := fun z => q1 (Int32.lt_iff_toInt_lt.mpr z)
              have h9 : ¬ (dyy lg k).toInt = (dyy lg l).toInt := fun z => q2 (Int32.toInt_inj.mp z)
              omega
            have q4 : dyy lg k < dyy lg l := Int32.lt_iff_toInt_lt.mpr q3
            rw [hL, if_neg fun z => by have := Int32.le_iff_toInt_le.mp (elt.mp z.2); omega] at eL
            rw [eL]
            have w1 := eW l
            show _ = (dyy lg l, num lg l (3 + s), (spB2 lg pl l s (lat (dyy lg) (fun i => qmP lg pl v p s x y i ∧ dyy lg i < dyy lg l) none 0 (k + 1))).1, (spB2 lg pl l s (lat (dyy lg) (fun i => qmP lg pl v p s x y i ∧ dyy lg i < dyy lg l) none 0 (k + 1))).2)
            rw [w1]
            cases hW : lat (dyy lg) (fun i => qmP lg pl v p s x y i ∧ dyy lg i < dyy lg l) none 0 k with
            | none =>
              rw [if_pos (show (qmP lg pl v p s x y k ∧ dyy lg k < dyy lg l) ∧ ltb (dyy lg) k none = true from ⟨⟨hq, q4⟩, rfl⟩)]
              have q5 : dyy lg pl < dyy lg l := Int32.lt_iff_toInt_lt.mpr (by omega)
              have e8 : spB2 lg pl l s none = (dyy lg pl, pthk lg pl) := if_pos q5
              rw [e8]
              rw [if_pos (show dyy lg pl ≤ dyy lg k from Int32.le_iff_toInt_le.mpr (by omega))]
              rfl
            | some w =>
              have elw : (ltb (dyy lg) k (some w) = true) ↔ dyy lg w ≤ dyy lg k := decide_eq_true_iff
              by_cases q6 : dyy lg w ≤ dyy lg k
              · rw [if_pos (show (spB2 lg pl l s (some w)).1 ≤ dyy lg k from q6), if_pos ⟨⟨hq, q4⟩, elw.mpr q6⟩]
                rfl
              · rw [if_neg (show ¬ (spB2 lg pl l s (some w)).1 ≤ dyy lg k from q6), if_neg fun z => q6 (elw.mp z.2)]
    · rw [if_neg hq] at eF
      rw [eF, ih]
      rw [if_neg fun z => hq z.1] at eL
      rw [eL]
      congr 1
      funext l
      have w1 := eW l
      rw [if_neg fun z => hq z.1.1] at w1
      exact w1.symm
end SF
section SR
variable {lg : Nat → Int32} {E v p s : Nat} {x y : Int32}
theorem k4001 : (40001 : Int32).toInt = 40001 := by decide +kernel
theorem rwL_lat (hW : ∀ j, j < E → wfE lg j) (hp : p < (psl lg E v).length) : rwL lg E v p s x y = lat (dyy lg) (qmP lg (plt lg E v p x y) (nI v) (nI p) s x y) none 0 E := by
  have hlt := plt_lt (x := x) (y := y) (pat_lt hp)
  have hc : ¬ cod lg (plt lg E v p x y) = 4 := fun z => by
    rcases plt_cod (x := x) (y := y) hp with q | q <;> (rw [q] at z; exact absurd z (by decide))
  refine isL_uniq (isL_congr (mea_isL (lg := lg) (v := nI v) (p := nI p) (s := s) (x := x) (y := y) (bf := 40001) hlt hc) fun i hi => ⟨fun z => z.1, fun z => ⟨z, ?_⟩⟩) lat_isL
  have := (wf_day4 hW hi).2
  exact Int32.lt_iff_toInt_lt.mpr (by rw [k4001]; omega)
theorem rwW_lat (hp : p < (psl lg E v).length) {l : Nat} : rwW lg E v p s x y l = lat (dyy lg) (fun i => qmP lg (plt lg E v p x y) (nI v) (nI p) s x y i ∧ dyy lg i < dyy lg l) none 0 E := by
  have hlt := plt_lt (x := x) (y := y) (pat_lt hp)
  have hc : ¬ cod lg (plt lg E v p x y) = 4 := fun z => by
    rcases plt_cod (x := x) (y := y) hp with q | q <;> (rw [q] at z; exact absurd z (by decide))
  exact isL_uniq (mea_isL (lg := lg) (v := nI v) (p := nI p) (s := s) (x := x) (y := y) (bf := dyy lg l) hlt hc) lat_isL
/-- the class's row of a spot is the reference's -/
theorem spF_row (hW : ∀ j, j < E → wfE lg j) (hp : p < (psl lg E v).length) : (spF lg (plt lg E v p x y) (nI v) (nI p) x y s E).1 = rwE lg E v p s x y ∧ (spF lg (plt lg E v p x y) (nI v) (nI p) x y s E).2.1 = rwT lg E v p s x y ∧ (match rwA lg E v p s x y with
    | none => (spF lg (plt lg E v p x y) (nI v) (nI p) x y s E).2.2.1 = -1
    | some q => (spF lg (plt lg E v p x y) (nI v) (nI p) x y s E).2.2 = q) := by
  have hlt := plt_lt (x := x) (y := y) (pat_lt hp)
  have h0 := (wf_day4 hW hlt).1
  rw [spF_inv h0 E]
  rw [← rwL_lat hW hp]
  unfold rwE rwT rwA
  cases hL : rwL lg E v p s x y with
  | none => exact ⟨rfl, rfl, rfl⟩
  | some l =>
    refine ⟨rfl, rfl, ?_⟩
    show (match (match rwW lg E v p s x y l with
      | some w => some (dyy lg w, num lg w (3 + s))
      | none => if dyy lg (plt lg E v p x y) < dyy lg l then some (dyy lg (plt lg E v p x y), pthk lg (plt lg E v p x y)) else none) with
      | none => (spB2 lg (plt lg E v p x y) l s (lat (dyy lg) (fun i => qmP lg (plt lg E v p x y) (nI v) (nI p) s x y i ∧ dyy lg i < dyy lg l) none 0 E)).1 = -1
      | some q => ((spB2 lg (plt lg E v p x y) l s (lat (dyy lg) (fun i => qmP lg (plt lg E v p x y) (nI v) (nI p) s x y i ∧ dyy lg i < dyy lg l) none 0 E)).1, (spB2 lg (plt lg E v p x y) l s (lat (dyy lg) (fun i => qmP lg (plt lg E v p x y) (nI v) (nI p) s x y i ∧ dyy lg i < dyy lg l) none 0 E)).2) = q)
    rw [← rwW_lat hp]
    cases hWw : rwW lg E v p s x y l with
    | some w => rfl
    | none =>
      by_cases q : dyy lg (plt lg E v p x y) < dyy lg l
      · rw [if_pos q]
        unfold spB2
        rw [if_pos q]
      · rw [if_neg q]
        unfold spB2
        rw [if_neg q]
end SR

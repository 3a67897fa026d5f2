/-! The opened view: what a part bears, the weakest, the first that bears less, tubes. -/
def brN (lg : Nat → Int32) (E v p : Nat) (x y : Int32) : Int := match menO lg (nI v) (nI p) x y E with
  | none => beaZ lg E v p x y
  | some i => if cod lg i = 5 then min (beaZ lg E v p x y) ((num lg i 2).toInt * (num lg i 3).toInt * (num lg i 4).toInt * 4 / (undZ lg E v p * 5)) else beaZ lg E v p x y
section OB
variable {d a v p E : Nat} {G G1 : bo_G} {Q : Option Value → bo_G → Prop} {lg : Nat → Int32} {x y st : Int32}
theorem brZ_eq : brZ lg E v p x y = if num lg (pat lg E v p) 1 = 2 ∧ plg lg E (nI v) (nI p) x y = sho lg E (nI v) (nI p) y 4 1 then 1000000 else brN lg E v p x y := rfl
/-- what the vessel is, known on a day and built -/
theorem vo_vat (hW : ∀ j, j < E → wfE lg j) (hv : v < (vsl lg E).length) (he : ent lg (vat lg E v) ≤ y) : vat lg (knC lg y E) v = vat lg E v ∧ v < (vsl lg (knC lg y E)).length := by
  have h := (vsl_kn hW hv).mp he
  exact ⟨(vat_kn h).symm, h⟩
theorem pw_be (hW : ∀ j, j < E → wfE lg j) (hE : E ≤ 6000) (hv31 : v < 2 ^ 31) (hv : v < (vsl lg E).length) (he : ent lg (vat lg E v) ≤ y) (hx : dyy lg (vat lg E v) ≤ x) (hx4 : x.toInt ≤ 40000) (hp : p < (psl lg (knC lg y E) v).length) : ∃ PW : Int, (pwI lg (knC lg y E) v p x y).toInt = PW ∧ (0 ≤ PW ∧ PW ≤ 1000000000000) ∧ beC (num lg (pat lg (knC lg y E) v p) 1) (num lg (pat lg (knC lg y E) v p) 2) (num lg (pat lg (knC lg y E) v p) 3) (num lg (pat lg (knC lg y E) v p) 5) (num lg (vat lg E v) 1) (leC (spK lg (knC lg y E) v p x y) (sho lg (knC lg y E) (nI v) (nI p) y 3 0) x (sho lg (knC lg y E) (nI v) (nI p) y 2 1).toNatClampNeg) PW = brN lg E v p x y := by
  have hn := knC_le (lg := lg) (y := y) (E := E)
  have hW' : ∀ j, j < knC lg y E → wfE lg j := fun j hj => hW j (by omega)
  have hsp := spots_rng (lg := lg) (E := knC lg y E) (y := y) hW' (v := nI v) (p := nI p)
  obtain ⟨q, hq⟩ : ∃ q, (sho lg (knC lg y E) (nI v) (nI p) y 2 1).toNatClampNeg = q + 1 ∧ q + 1 ≤ 12 := by
    obtain ⟨-, a2, -⟩ := nI_iof (show 0 ≤ (sho lg (knC lg y E) (nI v) (nI p) y 2 1).toInt by have := hsp.1; omega)
    exact ⟨(sho lg (knC lg y E) (nI v) (nI p) y 2 1).toNatClampNeg - 1, by have := hsp.1; have := hsp.2; omega⟩
  have hl := leC_lea (y := y) hW' (by omega) hv31 hp (by rw [(vo_vat hW hv he).1]; exact hx) hx4 q hq.2
  have eb : beaZ lg E v p x y = (num lg (pat lg (knC lg y E) v p) 2).toInt * leaZ lg (knC lg y E) v p x y (q + 1) * (num lg (pat lg (knC lg y E) v p) 5).toInt * upZ (num lg (pat lg (knC lg y E) v p) 1) / (1000 * (num lg (pat lg (knC lg y E) v p) 3).toInt * (num lg (vat lg E v) 1).toInt * dnZ (num lg (pat lg (knC lg y E) v p) 1)) := by
    unfold beaZ undZ
    rw [pat_kn hp, sho_cut, hq.1, leaZ_kn hp]
  have eu : undZ lg E v p = 1000 * (num lg (pat lg (knC lg y E) v p) 3).toInt * (num lg (vat lg E v) 1).toInt := by unfold undZ; rw [pat_kn hp]
  have z0 : (0 : Int64).toInt = 0 := rfl
  unfold brN pwI beC
  rw [hq.1, hl, menO_cut (E := E), eb, eu]
  cases hm : menO lg (nI v) (nI p) x y (knC lg y E) with
  | none => exact ⟨0, z0, by omega, if_neg (by omega)⟩
  | some j =>
    dsimp only
    by_cases hc : cod lg j = 5
    · rw [if_pos hc, if_pos hc]
      have hj : j < knC lg y E := lat_lt (B := knC lg y E) (fun k hk => by cases hk) (by omega) hm
      obtain ⟨v', -, -, p', -, -, w⟩ := wf_c5 (hW' j hj) hc
      obtain ⟨-, w2, w3, w4, -⟩ := w
      have m1 := z_pb (show 0 ≤ (num lg j 2).toInt by have := w2.1; omega) w2.2 (show 0 ≤ (num lg j 3).toInt by have := w3.1; omega) w3.2
      have m2 := z_pb m1.1 m1.2 (show 0 ≤ (num lg j 4).toInt by have := w4.1; omega) w4.2
      have m3 : 1 * 1 ≤ (num lg j 2).toInt * (num lg j 3).toInt := Int.mul_le_mul w2.1 w3.1 (by omega) (by have := w2.1; omega)
      have m4 : 1 * 1 ≤ (num lg j 2).toInt * (num lg j 3).toInt * (num lg j 4).toInt := Int.mul_le_mul (by omega) w4.1 (by omega) (by omega)
      refine ⟨(num lg j 2).toInt * (num lg j 3).toInt * (num lg j 4).toInt, l_mul (l_mul (l_of rfl) (l_of rfl) (by omega)) (l_of rfl) (by omega), by omega, if_pos (by omega)⟩
    · rw [if_neg hc, if_neg hc]
      exact ⟨0, z0, by omega, if_neg (by omega)⟩
theorem vo_bears (hO : VO G lg E v a x y st) (hW : ∀ j, j < E → wfE lg j) (hE : E ≤ 6000) (hv31 : v < 2 ^ 31) (hv : v < (vsl lg E).length) (he : ent lg (vat lg E v) ≤ y) (hx : dyy lg (vat lg E v) ≤ x) (hx4 : x.toInt ≤ 40000) (hp : p < (psl lg (knC lg y E) v).length) : ∀ Q : Option Value → bo_G → Prop, (∀ r : Int32, r.toInt = brZ lg E v p x y → Q (some (.int r)) G) → Cx (d + 2) mX2_bearsOn [.ref (22 + 14 * p), .int x, .int (num lg (vat lg E v) 1)] G Q := by
  intro Q k
  have hn := knC_le (lg := lg) (y := y) (E := E)
  have hW' : ∀ j, j < knC lg y E → wfE lg j := fun j hj => hW j (by omega)
  obtain ⟨PW, hpw, hPW, hbe⟩ := pw_be hW hE hv31 hv he hx hx4 hp
  have hP := hO.1.2 p hp
  have hpl : (psl lg (knC lg y E) v).length ≤ knC lg y E := sel_len _ _
  have hxv : dyy lg (vat lg (knC lg y E) v) ≤ x := by rw [(vo_vat hW hv he).1]; exact hx
  have hX := (spK_spX (y := y) hW' (by omega) hv31 hp hxv hx4).1
  obtain ⟨-, w1, w2, w3, w4, w5, -, -⟩ := (wf_p hW' (by omega) hv31 hp).2
  have u1 := (wf_v hW hv).2.2.1
  have hsp := spots_rng (lg := lg) (E := knC lg y E) (y := y) hW' (v := nI v) (p := nI p)
  have hle := plg_le (x := x) (y := y) hW' (by omega) hv31 (show p < 2 ^ 31 by omega) (fun j hj => knC_in hW hj)
  rw [brZ_eq, pat_kn hp, plg_cut, sho_cut] at k
  unfold pvI at hP
  refine pv_bears hP hX hsp w2 w3 w5 u1 hpw hPW (fun hb => ?_) (fun hb r hr => ?_)
  · have h2 := Int32.le_iff_toInt_le.mp hb.2
    rw [if_pos ⟨hb.1, Int32.toInt_inj.mp (by omega)⟩] at k
    exact k _ (by decide)
  · rw [if_neg fun z => hb ⟨z.1, by rw [z.2]; exact Int32.le_refl _⟩] at k
    exact k r (hr.trans hbe)
theorem vo_cell (hO : VO G lg E v a x y st) : ∀ i, i < (psl lg (knC lg y E) v).length → ∃ fs, G[22 + 14 * i]? = some (cO 2 fs) := fun i hi => ⟨_, (hO.1.2 i hi).1⟩
theorem kn_iff (hW : ∀ j, j < E → wfE lg j) (hE : E ≤ 6000) (hv31 : v < 2 ^ 31) (ha : askP lg E (nI v) x y) (hp : p ≤ 30) : knP lg E (nI v) (nI p) x y ↔ p < (psl lg (knC lg y E) v).length := by
  have ev : (nI v).toNatClampNeg = v := nI_clamp hv31
  have epp : (nI p).toNatClampNeg = p := nI_clamp (by omega)
  have et : (nI p).toInt = p := nI_toInt (by omega)
  unfold knP
  rw [ev, epp, et]
  constructor
  · rintro ⟨-, ⟨-, h2⟩, h3⟩
    exact (psl_kn hW (by omega)).mp h3
  · intro h
    have h2 := (pat_pre (lg := lg) (knC_le (lg := lg) (y := y) (E := E)) h).2
    exact ⟨ha, ⟨by omega, by omega⟩, (psl_kn hW h2).mpr h⟩
theorem weC_or {B : Nat → Int} : ∀ i, i ≤ 30 → (weC B i).1 = -1 ∨ ¬ (weC B i).1 < 0 := by
  intro i
  induction i with
  | zero => intro _; exact Or.inl rfl
  | succ i ih =>
    intro hi
    show (if (weC B i).1 = -1 ∨ B i < (weC B i).2 then (nI i, B i) else weC B i).1 = -1 ∨ ¬ (if (weC B i).1 = -1 ∨ B i < (weC B i).2 then (nI i, B i) else weC B i).1 < 0
    split
    · exact Or.inr (nI_pos (n := i) (by omega))
    · exact ih (by omega)
theorem wea_weC (hW : ∀ j, j < E → wfE lg j) (hE : E ≤ 6000) (hv31 : v < 2 ^ 31) (ha : askP lg E (nI v) x y) {np : Nat} (hnp : np = (psl lg (knC lg y E) v).length) (h24 : np ≤ 24) : ∀ e p, p ≤ np → p + e = 25 → weaZ lg E v x y e p (weC (fun p => brZ lg E v p x y) p).1 (weC (fun p => brZ lg E v p x y) p).2 = (weC (fun p => brZ lg E v p x y) np).1 := by
  intro e
  induction e with
  | zero => intro p h1 h2; omega
  | succ e ih =>
    intro p h1 h2
    have hk := kn_iff (p := p) hW hE hv31 ha (by omega)
    rw [← hnp] at hk
    show (if knP lg E (nI v) (nI p) x y then (if (weC (fun p => brZ lg E v p x y) p).1 < 0 ∨ brZ lg E v p x y < (weC (fun p => brZ lg E v p x y) p).2 then weaZ lg E v x y e (p + 1) (nI p) (brZ lg E v p x y) else weaZ lg E v x y e (p + 1) (weC (fun p => brZ lg E v p x y) p).1 (weC (fun p => brZ lg E v p x y) p).2) else (weC (fun p => brZ lg E v p x y) p).1) = _
    by_cases q : p < np
    · rw [if_pos (hk.mpr q)]
      have h3 := ih (p + 1) (by omega) (by omega)
      have es : weC (fun p => brZ lg E v p x y) (p + 1) = if (weC (fun p => brZ lg E v p x y) p).1 = -1 ∨ brZ lg E v p x y < (weC (fun p => brZ lg E v p x y) p).2 then (nI p, brZ lg E v p x y) else weC (fun p => brZ lg E v p x y) p := rfl
      have ec : ((weC (fun p => brZ lg E v p x y) p).1 < 0 ∨ brZ lg E v p x y < (weC (fun p => brZ lg E v p x y) p).2) ↔ ((weC (fun p => brZ lg E v p x y) p).1 = -1 ∨ brZ lg E v p x y < (weC (fun p => brZ lg E v p x y) p).2) := by
        rcases weC_or (B := fun p => brZ lg E v p x y) p (by omega) with w | w
        · rw [w]; exact ⟨fun _ => Or.inl rfl, fun _ => Or.inl (by decide)⟩
        · exact ⟨fun z => z.elim (fun u => absurd u w) Or.inr, fun z => z.elim (fun u => absurd (by rw [u]; decide) w) Or.inr⟩
      rw [es] at h3
      by_cases c : (weC (fun p => brZ lg E v p x y) p).1 = -1 ∨ brZ lg E v p x y < (weC (fun p => brZ lg E v p x y) p).2
      · rw [if_pos (ec.mpr c)]
        rw [if_pos c] at h3
        exact h3
      · rw [if_neg fun z => c (ec.mp z)]
        rw [if_neg c] at h3
        exact h3
    · rw [if_neg fun z => q (hk.mp z), show p = np by omega]
theorem fbl_none (hW : ∀ j, j < E → wfE lg j) (hE : E ≤ 6000) (hv31 : v < 2 ^ 31) (ha : askP lg E (nI v) x y) {g : Int32} (h : ∀ p, p < (psl lg (knC lg y E) v).length → ¬ brZ lg E v p x y < g.toInt) : ∀ e p, p + e ≤ 30 → fblO lg E v x y g e p = none := by
  intro e
  induction e with
  | zero => intro p _; rfl
  | succ e ih =>
    intro p hp
    show (if knP lg E (nI v) (nI p) x y then (if brZ lg E v p x y < g.toInt then some p else fblO lg E v x y g e (p + 1)) else none) = none
    split
    · rename_i hk
      rw [if_neg (h p ((kn_iff hW hE hv31 ha (by omega)).mp hk))]
      exact ih (p + 1) (by omega)
    · rfl
theorem fbl_some (hW : ∀ j, j < E → wfE lg j) (hE : E ≤ 6000) (hv31 : v < 2 ^ 31) (ha : askP lg E (nI v) x y) {g : Int32} {i : Nat} (hi : i < (psl lg (knC lg y E) v).length) (hb : brZ lg E v i x y < g.toInt) (h : ∀ p, p < i → ¬ brZ lg E v p x y < g.toInt) : ∀ e p, p + e ≤ 30 → p ≤ i → i < p + e → fblO lg E v x y g e p = some i := by
  intro e
  induction e with
  | zero => intro p _ h1 h2; omega
  | succ e ih =>
    intro p hp h1 h2
    show (if knP lg E (nI v) (nI p) x y then (if brZ lg E v p x y < g.toInt then some p else fblO lg E v x y g e (p + 1)) else none) = some i
    rw [if_pos ((kn_iff hW hE hv31 ha (by omega)).mpr (by omega))]
    by_cases q : p = i
    · rw [q, if_pos hb]
    · rw [if_neg (h p (by omega))]
      exact ih (p + 1) (by omega) (by omega) (by omega)
/-- a part's tubes (b: 0 all, else the plugged) -/
def tbT (lg : Nat → Int32) (n v : Nat) (b x y : Int32) (p : Nat) : Int32 := if num lg (pat lg n v p) 1 = 2 then (if b = 0 then sho lg n (nI v) (nI p) y 4 1 else plg lg n (nI v) (nI p) x y) else 0
theorem tubs_sm (hW : ∀ j, j < E → wfE lg j) (hE : E ≤ 6000) (hv31 : v < 2 ^ 31) (ha : askP lg E (nI v) x y) {b : Int32} {np : Nat} (hnp : np = (psl lg (knC lg y E) v).length) (h24 : np ≤ 24) : ∀ e p, p ≤ np → p + e = 25 → tubs lg E v b x y e p (smC (tbT lg (knC lg y E) v b x y) p) = smC (tbT lg (knC lg y E) v b x y) np := by
  intro e
  induction e with
  | zero => intro p h1 h2; omega
  | succ e ih =>
    intro p h1 h2
    have hk := kn_iff (p := p) hW hE hv31 ha (by omega)
    rw [← hnp] at hk
    show (if knP lg E (nI v) (nI p) x y then tubs lg E v b x y e (p + 1) (if num lg (pat lg E v p) 1 = 2 then smC (tbT lg (knC lg y E) v b x y) p + (if b = 0 then sho lg E (nI v) (nI p) y 4 1 else plg lg E (nI v) (nI p) x y) else smC (tbT lg (knC lg y E) v b x y) p) else smC (tbT lg (knC lg y E) v b x y) p) = _
    by_cases q : p < np
    · rw [if_pos (hk.mpr q)]
      have h3 := ih (p + 1) (by omega) (by omega)
      have e1 : smC (tbT lg (knC lg y E) v b x y) (p + 1) = (if num lg (pat lg E v p) 1 = 2 then smC (tbT lg (knC lg y E) v b x y) p + (if b = 0 then sho lg E (nI v) (nI p) y 4 1 else plg lg E (nI v) (nI p) x y) else smC (tbT lg (knC lg y E) v b x y) p) := by
        show smC (tbT lg (knC lg y E) v b x y) p + tbT lg (knC lg y E) v b x y p = _
        rw [pat_kn (by rw [← hnp]; exact q), sho_cut, plg_cut]
        have et : tbT lg (knC lg y E) v b x y p = if num lg (pat lg (knC lg y E) v p) 1 = 2 then (if b = 0 then sho lg (knC lg y E) (nI v) (nI p) y 4 1 else plg lg (knC lg y E) (nI v) (nI p) x y) else 0 := rfl
        rw [et]
        by_cases c : num lg (pat lg (knC lg y E) v p) 1 = 2
        · rw [if_pos c, if_pos c]
        · rw [if_neg c, if_neg c]
          exact Int32.add_zero _
      rw [e1] at h3
      exact h3
    · rw [if_neg fun z => q (hk.mp z), show p = np by omega]
end OB

/-! The class's view: its own cell. -/
section CV1
variable {d : Nat} {G G1 : bo_G} {Q : Option Value → bo_G → Prop} {ro : Option Nat} {pc ve kn th sf mk st : Int32}
abbrev vwC (pc : Int32) (ro : Option Nat) (ve kn th sf mk st : Int32) : bo_C := cO 9 [.ref 13, .ref 14, .ref 18, .int pc, va_rf ro, .int ve, .int kn, .int th, .int sf, .int mk, .int st]
def vwQ : Nat → Option Nat := fun i => if i < 24 then some (22 + 14 * i) else none
theorem Ex.aavw {m : bo_M} {pc nx tg kp i : Nat} {lv : bo_LV} {j : Int32} {rr : List Value} (he : bo_cd m pc = some (.aaload, nx, tg, kp)) (hj : j = nI i) (hG : G[13]? = some (cQ 2 24 vwQ)) (hi : i < 24) (k1 : Ex d m (nx, lv, .ref (22 + 14 * i) :: rr, G) Q) : Ex d m (pc, lv, .int j :: .ref 13 :: rr, G) Q := by
  subst hj
  have e : (nI i).toNatClampNeg = i := nI_clamp (by omega)
  refine Ex.aal he hG ⟨show nI 0 ≤ nI i from nI_le (by omega) (by omega), by omega⟩ ?_
  rw [e, show vwQ i = some (22 + 14 * i) from if_pos hi]
  exact k1
theorem v_partAt {p : Int32} {n : Nat} (h0 : G[12]? = some (vwC pc ro ve kn th sf mk st)) (hq : G[13]? = some (cQ 2 24 vwQ)) (hp : pc = nI n) (hn : n ≤ 24) (k0 : ¬ (0 ≤ p.toInt ∧ p.toInt < n) → Q (some .null) G) (k1 : ∀ p', p = nI p' → p.toNatClampNeg = p' → p' < n → Q (some (.ref (22 + 14 * p'))) G) : Cx d mX9_partAt [.ref 12, .int p] G Q := by
  have en : pc.toInt = n := by rw [hp]; exact nI_toInt (by omega)
  refine Cx.body rfl rfl ?_
  (repeat (first | refine Ex.go rfl rfl ?_ | refine Ex.gf rfl rfl (by assumption) (by rfl) (by first | rfl | assumption) ?_))
  refine Ex.br (fun b1 => ?_) (fun b1 => ?_)
  · have k := k0 fun z => absurd b1 (Int32.not_lt.mpr (Int32.le_iff_toInt_le.mpr z.1))
    (repeat (first | refine Ex.go rfl rfl ?_ | refine Ex.gf rfl rfl (by assumption) (by rfl) (by first | rfl | assumption) ?_))
    refine Ex.ret rfl rfl rfl ?_
    exact k
  have b2 := Int32.le_iff_toInt_le.mp (Int32.not_lt.mp b1)
  (repeat (first | refine Ex.go rfl rfl ?_ | refine Ex.gf rfl rfl (by assumption) (by rfl) (by first | rfl | assumption) ?_))
  refine Ex.br (fun b3 => ?_) (fun b3 => ?_)
  · have b4 := Int32.le_iff_toInt_le.mp b3
    rw [en] at b4
    have k := k0 fun z => by omega
    (repeat (first | refine Ex.go rfl rfl ?_ | refine Ex.gf rfl rfl (by assumption) (by rfl) (by first | rfl | assumption) ?_))
    refine Ex.ret rfl rfl rfl ?_
    exact k
  have b4 : p.toInt < pc.toInt := Int32.lt_iff_toInt_lt.mp (Int32.not_le.mp b3)
  rw [en] at b4
  obtain ⟨e1, e2, e3⟩ := nI_iof b2
  have k := k1 p.toNatClampNeg e1 rfl (by omega)
  (repeat (first | refine Ex.go rfl rfl ?_ | refine Ex.gf rfl rfl (by assumption) (by rfl) (by first | rfl | assumption) ?_))
  refine Ex.alq rfl hq ?_
  (repeat (first | refine Ex.go rfl rfl ?_ | refine Ex.gf rfl rfl (by assumption) (by rfl) (by first | rfl | assumption) ?_))
  refine Ex.br (fun b5 => ?_) (fun b5 => ?_)
  · have b6 : (24 : Int) ≤ p.toInt := Int32.le_iff_toInt_le.mp b5
    omega
  (repeat (first | refine Ex.go rfl rfl ?_ | refine Ex.gf rfl rfl (by assumption) (by rfl) (by first | rfl | assumption) ?_))
  refine Ex.aavw rfl e1 hq (by omega) ?_
  (repeat (first | refine Ex.go rfl rfl ?_ | refine Ex.gf rfl rfl (by assumption) (by rfl) (by first | rfl | assumption) ?_))
  refine Ex.ret rfl rfl rfl ?_
  exact k
theorem v_begins {x y : Int32} (h0 : G[12]? = some (vwC pc ro ve kn th sf mk st)) (k0 : x ≤ y → Q (some (.int 1)) G) (k1 : ¬ x ≤ y → Q (some (.int 0)) (G.set 12 (vwC pc ro ve kn th sf mk (mnI st (x - 1))))) : Cx (d + 1) mX9_begins [.ref 12, .int x, .int y] G Q := by
  have hA := ap1 h0
  refine Cx.body rfl rfl ?_
  (repeat (first | refine Ex.go rfl rfl ?_ | refine Ex.gf rfl rfl (by assumption) (by rfl) (by first | rfl | assumption) ?_))
  refine Ex.br (fun b1 => ?_) (fun b1 => ?_); rotate_left
  · have k := k0 (Int32.not_lt.mp b1)
    (repeat (first | refine Ex.go rfl rfl ?_ | refine Ex.gf rfl rfl (by assumption) (by rfl) (by first | rfl | assumption) ?_))
    exact Ex.retz rfl rfl rfl (Or.inr rfl) k
  have k := k1 (Int32.not_le.mpr b1)
  refine Ex.lay [(12, vwC pc ro ve kn th sf mk st)] (lay1 h0) ?_
  (repeat (first | refine Ex.go rfl rfl ?_ | refine Ex.gf rfl rfl (ov_get hA 0 rfl) (by rfl) (by rfl) ?_ | refine Ex.gf rfl rfl (ov_get hA 1 rfl) (by rfl) (by rfl) ?_ | refine Ex.gf rfl rfl (ov_get hA 2 rfl) (by rfl) (by rfl) ?_ | refine Ex.gf rfl rfl (ov_get hA 3 rfl) (by rfl) (by rfl) ?_ | refine Ex.gf rfl rfl (ov_get hA 4 rfl) (by rfl) (by rfl) ?_ | refine Ex.gf rfl rfl (ov_get hA 5 rfl) (by rfl) (by rfl) ?_ | refine Ex.gf rfl rfl (ov_get hA 6 rfl) (by rfl) (by rfl) ?_ | (refine Ex.pfo hA 0 rfl rfl rfl (by rfl) (by rfl) (by rfl) ?_; dsimp only [List.set]) | (refine Ex.pfo hA 1 rfl rfl rfl (by rfl) (by rfl) (by rfl) ?_; dsimp only [List.set]) | (refine Ex.pfo hA 2 rfl rfl rfl (by rfl) (by rfl) (by rfl) ?_; dsimp only [List.set]) | (refine Ex.pfo hA 3 rfl rfl rfl (by rfl) (by rfl) (by rfl) ?_; dsimp only [List.set]) | (refine Ex.pfo hA 4 rfl rfl rfl (by rfl) (by rfl) (by rfl) ?_; dsimp only [List.set]) | (refine Ex.pfo hA 5 rfl rfl rfl (by rfl) (by rfl) (by rfl) ?_; dsimp only [List.set]) | (refine Ex.pfo hA 6 rfl rfl rfl (by rfl) (by rfl) (by rfl) ?_; dsimp only [List.set])))
  refine Ex.cs2 rfl rfl rfl rfl rfl rfl ?_
  refine j_min ?_
  (repeat (first | refine Ex.go rfl rfl ?_ | refine Ex.gf rfl rfl (ov_get hA 0 rfl) (by rfl) (by rfl) ?_ | refine Ex.gf rfl rfl (ov_get hA 1 rfl) (by rfl) (by rfl) ?_ | refine Ex.gf rfl rfl (ov_get hA 2 rfl) (by rfl) (by rfl) ?_ | refine Ex.gf rfl rfl (ov_get hA 3 rfl) (by rfl) (by rfl) ?_ | refine Ex.gf rfl rfl (ov_get hA 4 rfl) (by rfl) (by rfl) ?_ | refine Ex.gf rfl rfl (ov_get hA 5 rfl) (by rfl) (by rfl) ?_ | refine Ex.gf rfl rfl (ov_get hA 6 rfl) (by rfl) (by rfl) ?_ | (refine Ex.pfo hA 0 rfl rfl rfl (by rfl) (by rfl) (by rfl) ?_; dsimp only [List.set]) | (refine Ex.pfo hA 1 rfl rfl rfl (by rfl) (by rfl) (by rfl) ?_; dsimp only [List.set]) | (refine Ex.pfo hA 2 rfl rfl rfl (by rfl) (by rfl) (by rfl) ?_; dsimp only [List.set]) | (refine Ex.pfo hA 3 rfl rfl rfl (by rfl) (by rfl) (by rfl) ?_; dsimp only [List.set]) | (refine Ex.pfo hA 4 rfl rfl rfl (by rfl) (by rfl) (by rfl) ?_; dsimp only [List.set]) | (refine Ex.pfo hA 5 rfl rfl rfl (by rfl) (by rfl) (by rfl) ?_; dsimp only [List.set]) | (refine Ex.pfo hA 6 rfl rfl rfl (by rfl) (by rfl) (by rfl) ?_; dsimp only [List.set])))
  exact Ex.retz rfl rfl rfl (Or.inl rfl) k
theorem v_safety (h0 : G[12]? = some (vwC pc ro ve kn th sf mk st)) (k : Q (some (.int sf)) G) : Cx d mX9_safety [.ref 12] G Q := by
  refine Cx.body rfl rfl ?_
  (repeat (first | refine Ex.go rfl rfl ?_ | refine Ex.gf rfl rfl (by assumption) (by rfl) (by first | rfl | assumption) ?_))
  refine Ex.ret rfl rfl rfl ?_
  exact k
end CV1

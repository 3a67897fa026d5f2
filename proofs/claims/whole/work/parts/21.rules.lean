/-! Rules of the walk as a function. -/
def bo_Kd (n : Nat) : Nat → bo_K
  | 0 => fun _ _ _ => none
  | d + 1 => bo_cx n d
theorem bo_cx_eq (n d : Nat) (m : bo_M) (as : List Value) (G : bo_G) : bo_cx n d m as G = match bo_pr m with
    | 0 => bif Nat.ble (lg_sl as).length (bo_ml m) then bo_ex d (bo_Kd n d) m n (0, lv_args 0 as, [], G) else none
    | p => bo_pm d p as G := by
  cases d <;> rfl
theorem bo_ex_mono {d : Nat} {K K' : bo_K} {m : bo_M} (hK : ∀ y as G r, K y as G = some r → K' y as G = some r) : ∀ (n n' : Nat) (S : bo_S) (r : bo_A), n ≤ n' → bo_ex d K m n S = some r → bo_ex d K' m n' S = some r := by
  intro n
  induction n with
  | zero => intro n' S r _ h; cases h
  | succ n ih =>
    intro n' S r hn h
    obtain ⟨n', rfl⟩ : ∃ k, n' = k + 1 := ⟨n' - 1, by omega⟩
    have hn : n ≤ n' := by omega
    obtain ⟨pc, lv, st, G⟩ := S
    unfold bo_ex at h ⊢
    split at h
    · cases h
    · rename_i e he
      split at h
      · rename_i S' hS'
        exact ih n' S' r hn h
      · split at h
        · exact h
        · split at h
          · rename_i st' hst
            simp only [Bool.cond_eq_ite] at h ⊢
            split at h
            · rename_i hb
              rw [if_pos hb]
              exact ih n' _ r hn h
            · cases h
          · split at h
            · rename_i y as st' hc
              simp only [Bool.cond_eq_ite] at h ⊢
              split at h
              · rename_i hb
                rw [if_pos hb]
                split at h
                · rename_i v G' hk
                  rw [hK _ _ _ _ hk]
                  exact ih n' _ r hn h
                · cases h
              · cases h
            · cases h
theorem bo_cx_mono : ∀ (d n n' : Nat) (m : bo_M) (as : List Value) (G : bo_G) (r : bo_A), n ≤ n' → bo_cx n d m as G = some r → bo_cx n' d m as G = some r := by
  intro d
  induction d with
  | zero =>
    intro n n' m as G r hn h
    rw [bo_cx_eq] at h ⊢
    split at h
    · rw [Bool.cond_eq_ite] at h ⊢
      split at h
      · rename_i hb
        rw [if_pos hb]
        exact bo_ex_mono (fun _ _ _ _ h => h) n n' _ r hn h
      · cases h
    · exact h
  | succ d ih =>
    intro n n' m as G r hn h
    rw [bo_cx_eq] at h ⊢
    split at h
    · rw [Bool.cond_eq_ite] at h ⊢
      split at h
      · rename_i hb
        rw [if_pos hb]
        exact bo_ex_mono (fun y as G r hk => ih n n' y as G r hn hk) n n' _ r hn h
      · cases h
    · exact h
theorem bo_Kd_mono {d n n' : Nat} (hn : n ≤ n') : ∀ y as G r, bo_Kd n d y as G = some r → bo_Kd n' d y as G = some r := by
  cases d with
  | zero => intro y as G r h; exact h
  | succ d => intro y as G r h; exact bo_cx_mono d n n' y as G r hn h
/-- a call of m comes to an end with Q -/
def Cx (d : Nat) (m : bo_M) (as : List Value) (G : bo_G) (Q : Option Value → bo_G → Prop) : Prop := ∃ n v G', bo_cx n d m as G = some (v, G') ∧ Q v G'
/-- m, where it stands, comes to an end with Q -/
def Ex (d : Nat) (m : bo_M) (S : bo_S) (Q : Option Value → bo_G → Prop) : Prop := ∃ n v G', bo_ex d (bo_Kd n d) m n S = some (v, G') ∧ Q v G'
section EX
variable {d : Nat} {m : bo_M} {pc : Nat} {en : bo_E} {lv : bo_LV} {st : List Value} {G : bo_G} {Q : Option Value → bo_G → Prop}
theorem Cx.body {as : List Value} (hp : bo_pr m = 0) (hl : Nat.ble (lg_sl as).length (bo_ml m) = true) (k : Ex d m (0, lv_args 0 as, [], G) Q) : Cx d m as G Q := by
  obtain ⟨n, v, G', h, hq⟩ := k
  refine ⟨n, v, G', ?_, hq⟩
  rw [bo_cx_eq, hp, hl]
  exact h
theorem Cx.prim {p : Nat} {as : List Value} {v : Option Value} {G' : bo_G} (hp : bo_pr m = p + 1) (h : bo_pm d (p + 1) as G = some (v, G')) (k : Q v G') : Cx d m as G Q := by
  refine ⟨0, v, G', ?_, k⟩
  rw [bo_cx_eq, hp]
  exact h
theorem Cx.weak {as : List Value} {Q' : Option Value → bo_G → Prop} (k : Cx d m as G Q') (h : ∀ v G', Q' v G' → Q v G') : Cx d m as G Q := by
  obtain ⟨n, v, G', h1, hq⟩ := k
  exact ⟨n, v, G', h1, h v G' hq⟩
theorem Ex.weak {S : bo_S} {Q' : Option Value → bo_G → Prop} (k : Ex d m S Q') (h : ∀ v G', Q' v G' → Q v G') : Ex d m S Q := by
  obtain ⟨n, v, G', h1, hq⟩ := k
  exact ⟨n, v, G', h1, h v G' hq⟩
theorem Ex.go {S' : bo_S} (he : bo_cd m pc = some en) (hs : bo_step m pc en lv st G = some S') (k : Ex d m S' Q) : Ex d m (pc, lv, st, G) Q := by
  obtain ⟨n, v, G', h, hq⟩ := k
  refine ⟨n + 1, v, G', ?_, hq⟩
  unfold bo_ex
  rw [he]
  try dsimp only
  rw [hs]
  exact bo_ex_mono (bo_Kd_mono (Nat.le_succ n)) n n S' _ (Nat.le_refl _) h
theorem Ex.br {P : Prop} [hd : Decidable P] {nx tg : Nat} (kt : P → Ex d m (tg, lv, st, G) Q) (kf : ¬ P → Ex d m (nx, lv, st, G) Q) : Ex d m (bif decide P then tg else nx, lv, st, G) Q := by
  cases hd with
  | isTrue h => exact kt h
  | isFalse h => exact kf h
def bo_b (P : Prop) [Decidable P] : Int32 := if P then 1 else 0
theorem bo_b_01 (P : Prop) [Decidable P] : bo_b P = 0 ∨ bo_b P = 1 := by unfold bo_b; split <;> simp
theorem bo_b_t {P : Prop} [Decidable P] (h : P) : bo_b P = 1 := if_pos h
theorem bo_b_f {P : Prop} [Decidable P] (h : ¬ P) : bo_b P = 0 := if_neg h
theorem bo_b_0 {P : Prop} [Decidable P] : bo_b P = 0 ↔ ¬ P := by unfold bo_b; split <;> simp [*]
theorem Ex.brz {P : Prop} [Decidable P] {nx tg : Nat} (kt : P → Ex d m (nx, lv, st, G) Q) (kf : ¬ P → Ex d m (tg, lv, st, G) Q) : Ex d m (bif bo_c1 .eq (bo_b P) then tg else nx, lv, st, G) Q :=
  Ex.br (P := bo_b P = 0) (fun h => kf (bo_b_0.mp h)) (fun h => kt (Decidable.not_not.mp fun z => h (bo_b_0.mpr z)))
theorem Ex.brn {P : Prop} [Decidable P] {nx tg : Nat} (kt : P → Ex d m (tg, lv, st, G) Q) (kf : ¬ P → Ex d m (nx, lv, st, G) Q) : Ex d m (bif bo_c1 .ne (bo_b P) then tg else nx, lv, st, G) Q :=
  Ex.br (P := ¬ bo_b P = 0) (fun h => kt (Decidable.not_not.mp fun z => h (bo_b_0.mpr z))) (fun h => kf (bo_b_0.mp (Decidable.not_not.mp h)))
theorem Ex.ret {v : Option Value} (he : bo_cd m pc = some en) (h0 : bo_step m pc en lv st G = none) (hr : bo_ret m en.1 st = some v) (k : Q v G) : Ex d m (pc, lv, st, G) Q := by
  refine ⟨1, v, G, ?_, k⟩
  unfold bo_ex
  rw [he]
  try dsimp only
  rw [h0]
  try dsimp only
  rw [hr]
/-- a boolean's return -/
theorem Ex.retz {x : Int32} (he : bo_cd m pc = some en) (hi : en.1 = .ireturn) (hrt : bo_rt m = some .boolean) (hx : x = 0 ∨ x = 1) (k : Q (some (.int x)) G) : Ex d m (pc, lv, [.int x], G) Q := by
  obtain ⟨i, nx, tg, kp⟩ := en
  cases hi
  refine Ex.ret he rfl ?_ k
  unfold bo_ret
  rw [hrt]
  exact if_pos hx
theorem Ex.callr {y : bo_M} {as r : List Value} (he : bo_cd m pc = some en) (h0 : bo_step m pc en lv st G = none) (h1 : bo_ret m en.1 st = none) (h2 : bo_nat m en.1 st = none) (h3 : bo_cal m en.1 st G = some (y, as, r)) (hc : bo_cat r = true) (k : Cx d y as G (fun v G' => Ex (d + 1) m (en.2.1, lv, v.toList ++ r, G') Q)) : Ex (d + 1) m (pc, lv, st, G) Q := by
  obtain ⟨n1, v1, G1, k1, n2, v, G', k2, hq⟩ := k
  refine ⟨max n1 n2 + 1, v, G', ?_, hq⟩
  unfold bo_ex
  rw [he]
  try dsimp only
  rw [h0]
  try dsimp only
  rw [h1]
  try dsimp only
  rw [h2]
  try dsimp only
  rw [h3]
  try dsimp only
  rw [hc]
  have e1 : bo_Kd (max n1 n2 + 1) (d + 1) y as G = some (v1, G1) := bo_cx_mono d n1 _ y as G _ (by omega) k1
  show (bif Nat.blt 0 (d + 1) && true then _ else none) = _
  rw [show Nat.blt 0 (d + 1) = true from rfl, e1]
  exact bo_ex_mono (bo_Kd_mono (by omega)) n2 _ _ _ (by omega) k2
/-- a static call -/
theorem Ex.cs {y : bo_M} {as r : List Value} (he : bo_cd m pc = some en) (h0 : bo_step m pc en lv st G = none) (h1 : bo_ret m en.1 st = none) (h2 : bo_nat m en.1 st = none) (h3 : bo_cal m en.1 st G = some (y, as, r)) (hc : bo_cat r = true) (k : Cx d y as G (fun v G' => Ex (d + 1) m (en.2.1, lv, v.toList ++ r, G') Q)) : Ex (d + 1) m (pc, lv, st, G) Q := Ex.callr he h0 h1 h2 h3 hc k
def bo_kd (c : bo_C) : Nat := match c with
  | .inl o => o.1
  | .inr (.inr (.inr (.inl _))) => 4
  | _ => 99
theorem bo_is_of {a k : Nat} {c : bo_C} (h : G[a]? = some c) (hk : bo_kd c = k) (h9 : k < 12) : bo_is G k (.ref a) = true := by
  subst hk
  unfold bo_is
  try dsimp only
  rw [h]
  match c, h9 with
  | .inl o, _ => exact Nat.beq_refl o.1
  | .inr (.inl w), h9 => exact absurd h9 (by show ¬ 99 < 12; omega)
  | .inr (.inr (.inl w)), h9 => exact absurd h9 (by show ¬ 99 < 12; omega)
  | .inr (.inr (.inr (.inl w))), _ => rfl
  | .inr (.inr (.inr (.inr w))), h9 => exact absurd h9 (by show ¬ 99 < 12; omega)
/-- a call by an object: st is the arguments, last first, then the object, then what stays -/
theorem Ex.cv {k a : Nat} {y : bo_M} {nx tg kp : Nat} {As r : List Value} {c : bo_C} (he : bo_cd m pc = some (.invokevirtual k, nx, tg, kp)) (hl : bo_lk (bo_o m) k = some (0, y)) (hn : bo_na y = As.length) (hG : G[a]? = some c) (hk : bo_kd c = bo_o y) (h9 : bo_o y < 12) (hc : bo_cat r = true) (k1 : Cx d y (.ref a :: As) G (fun v G' => Ex (d + 1) m (nx, lv, v.toList ++ r, G') Q)) (hst : st = As.reverse ++ .ref a :: r) : Ex (d + 1) m (pc, lv, st, G) Q := by
  subst hst
  refine Ex.callr he rfl rfl rfl (y := y) (as := .ref a :: As) (r := r) ?_ hc k1
  unfold bo_cal
  try dsimp only
  rw [hl]
  have e1 : (As.reverse ++ .ref a :: r).take (bo_na y + 1) = As.reverse ++ [.ref a] := by
    rw [hn, show As.length + 1 = (As.reverse ++ [Value.ref a]).length by simp, show As.reverse ++ .ref a :: r = (As.reverse ++ [.ref a]) ++ r by simp, List.take_left]
  have e2 : (As.reverse ++ .ref a :: r).drop (bo_na y + 1) = r := by
    rw [hn, show As.length + 1 = (As.reverse ++ [Value.ref a]).length by simp, show As.reverse ++ .ref a :: r = (As.reverse ++ [.ref a]) ++ r by simp, List.drop_left]
  show (bif bo_is G (bo_o y) ((List.take (bo_na y + 1) (As.reverse ++ .ref a :: r)).getLastD .null) && Nat.beq (List.take (bo_na y + 1) (As.reverse ++ .ref a :: r)).length (bo_na y + 1) then some (y, (List.take (bo_na y + 1) (As.reverse ++ .ref a :: r)).reverse, List.drop (bo_na y + 1) (As.reverse ++ .ref a :: r)) else none) = _
  rw [e1, e2]
  have e3 : (As.reverse ++ [Value.ref a]).getLastD .null = .ref a := by simp
  rw [e3, bo_is_of hG hk h9]
  have e4 : Nat.beq (As.reverse ++ [Value.ref a]).length (bo_na y + 1) = true := by rw [hn]; simp
  rw [e4]
  simp
/-- a call of a constructor -/
theorem Ex.ci {k a q : Nat} {y : bo_M} {nx tg kp : Nat} {As r : List Value} {c : bo_C} (he : bo_cd m pc = some (.invokespecial k, nx, tg, kp)) (hl : bo_lk (bo_o m) k = some (q, y)) (hq : q = 2 ∨ q = 4) (hn : bo_na y = As.length) (hG : G[a]? = some c) (hk : bo_kd c = bo_o y) (h9 : bo_o y < 12) (hc : bo_cat r = true) (k1 : Cx d y (.ref a :: As) G (fun v G' => Ex (d + 1) m (nx, lv, v.toList ++ r, G') Q)) (hst : st = As.reverse ++ .ref a :: r) : Ex (d + 1) m (pc, lv, st, G) Q := by
  subst hst
  have e1 : (As.reverse ++ .ref a :: r).take (bo_na y + 1) = As.reverse ++ [.ref a] := by
    rw [hn, show As.length + 1 = (As.reverse ++ [Value.ref a]).length by simp, show As.reverse ++ .ref a :: r = (As.reverse ++ [.ref a]) ++ r by simp, List.take_left]
  have e2 : (As.reverse ++ .ref a :: r).drop (bo_na y + 1) = r := by
    rw [hn, show As.length + 1 = (As.reverse ++ [Value.ref a]).length by simp, show As.reverse ++ .ref a :: r = (As.reverse ++ [.ref a]) ++ r by simp, List.drop_left]
  have e3 : (As.reverse ++ [Value.ref a]).getLastD .null = .ref a := by simp
  have e4 : Nat.beq (As.reverse ++ [Value.ref a]).length (bo_na y + 1) = true := by rw [hn]; simp
  refine Ex.callr he rfl rfl ?_ (y := y) (as := .ref a :: As) (r := r) ?_ hc k1
  · unfold bo_nat
    try dsimp only
    rw [hl]
    rcases hq with rfl | rfl <;> rfl
  · unfold bo_cal
    try dsimp only
    rw [hl]
    rcases hq with rfl | rfl <;> (show (bif bo_is G (bo_o y) ((List.take (bo_na y + 1) (As.reverse ++ .ref a :: r)).getLastD .null) && Nat.beq (List.take (bo_na y + 1) (As.reverse ++ .ref a :: r)).length (bo_na y + 1) then some (y, (List.take (bo_na y + 1) (As.reverse ++ .ref a :: r)).reverse, List.drop (bo_na y + 1) (As.reverse ++ .ref a :: r)) else none) = _; rw [e1, e2, e3, bo_is_of hG hk h9, e4]; simp)
theorem Ex.cv0 {k a : Nat} {y : bo_M} {nx tg kp : Nat} {r : List Value} {c : bo_C} (he : bo_cd m pc = some (.invokevirtual k, nx, tg, kp)) (hl : bo_lk (bo_o m) k = some (0, y)) (hn : bo_na y = 0) (hG : G[a]? = some c) (hk : bo_kd c = bo_o y) (h9 : bo_o y < 12) (hc : bo_cat r = true) (k1 : Cx d y [.ref a] G (fun v G' => Ex (d + 1) m (nx, lv, v.toList ++ r, G') Q)) : Ex (d + 1) m (pc, lv, .ref a :: r, G) Q := Ex.cv (As := []) he hl hn hG hk h9 hc k1 rfl
theorem Ex.ci0 {k a q : Nat} {y : bo_M} {nx tg kp : Nat} {r : List Value} {c : bo_C} (he : bo_cd m pc = some (.invokespecial k, nx, tg, kp)) (hl : bo_lk (bo_o m) k = some (q, y)) (hq : q = 2 ∨ q = 4) (hn : bo_na y = 0) (hG : G[a]? = some c) (hk : bo_kd c = bo_o y) (h9 : bo_o y < 12) (hc : bo_cat r = true) (k1 : Cx d y [.ref a] G (fun v G' => Ex (d + 1) m (nx, lv, v.toList ++ r, G') Q)) : Ex (d + 1) m (pc, lv, .ref a :: r, G) Q := Ex.ci (As := []) he hl hq hn hG hk h9 hc k1 rfl
theorem Ex.cv1 {k a : Nat} {y : bo_M} {nx tg kp : Nat} {x1 : Value} {r : List Value} {c : bo_C} (he : bo_cd m pc = some (.invokevirtual k, nx, tg, kp)) (hl : bo_lk (bo_o m) k = some (0, y)) (hn : bo_na y = 1) (hG : G[a]? = some c) (hk : bo_kd c = bo_o y) (h9 : bo_o y < 12) (hc : bo_cat r = true) (k1 : Cx d y [.ref a, x1] G (fun v G' => Ex (d + 1) m (nx, lv, v.toList ++ r, G') Q)) : Ex (d + 1) m (pc, lv, x1 :: .ref a :: r, G) Q := Ex.cv (As := [x1]) he hl hn hG hk h9 hc k1 rfl
theorem Ex.ci1 {k a q : Nat} {y : bo_M} {nx tg kp : Nat} {x1 : Value} {r : List Value} {c : bo_C} (he : bo_cd m pc = some (.invokespecial k, nx, tg, kp)) (hl : bo_lk (bo_o m) k = some (q, y)) (hq : q = 2 ∨ q = 4) (hn : bo_na y = 1) (hG : G[a]? = some c) (hk : bo_kd c = bo_o y) (h9 : bo_o y < 12) (hc : bo_cat r = true) (k1 : Cx d y [.ref a, x1] G (fun v G' => Ex (d + 1) m (nx, lv, v.toList ++ r, G') Q)) : Ex (d + 1) m (pc, lv, x1 :: .ref a :: r, G) Q := Ex.ci (As := [x1]) he hl hq hn hG hk h9 hc k1 rfl
theorem Ex.cv2 {k a : Nat} {y : bo_M} {nx tg kp : Nat} {x1 x2 : Value} {r : List Value} {c : bo_C} (he : bo_cd m pc = some (.invokevirtual k, nx, tg, kp)) (hl : bo_lk (bo_o m) k = some (0, y)) (hn : bo_na y = 2) (hG : G[a]? = some c) (hk : bo_kd c = bo_o y) (h9 : bo_o y < 12) (hc : bo_cat r = true) (k1 : Cx d y [.ref a, x1, x2] G (fun v G' => Ex (d + 1) m (nx, lv, v.toList ++ r, G') Q)) : Ex (d + 1) m (pc, lv, x2 :: x1 :: .ref a :: r, G) Q := Ex.cv (As := [x1, x2]) he hl hn hG hk h9 hc k1 rfl
theorem Ex.ci2 {k a q : Nat} {y : bo_M} {nx tg kp : Nat} {x1 x2 : Value} {r : List Value} {c : bo_C} (he : bo_cd m pc = some (.invokespecial k, nx, tg, kp)) (hl : bo_lk (bo_o m) k = some (q, y)) (hq : q = 2 ∨ q = 4) (hn : bo_na y = 2) (hG : G[a]? = some c) (hk : bo_kd c = bo_o y) (h9 : bo_o y < 12) (hc : bo_cat r = true) (k1 : Cx d y [.ref a, x1, x2] G (fun v G' => Ex (d + 1) m (nx, lv, v.toList ++ r, G') Q)) : Ex (d + 1) m (pc, lv, x2 :: x1 :: .ref a :: r, G) Q := Ex.ci (As := [x1, x2]) he hl hq hn hG hk h9 hc k1 rfl
theorem Ex.cv3 {k a : Nat} {y : bo_M} {nx tg kp : Nat} {x1 x2 x3 : Value} {r : List Value} {c : bo_C} (he : bo_cd m pc = some (.invokevirtual k, nx, tg, kp)) (hl : bo_lk (bo_o m) k = some (0, y)) (hn : bo_na y = 3) (hG : G[a]? = some c) (hk : bo_kd c = bo_o y) (h9 : bo_o y < 12) (hc : bo_cat r = true) (k1 : Cx d y [.ref a, x1, x2, x3] G (fun v G' => Ex (d + 1) m (nx, lv, v.toList ++ r, G') Q)) : Ex (d + 1) m (pc, lv, x3 :: x2 :: x1 :: .ref a :: r, G) Q := Ex.cv (As := [x1, x2, x3]) he hl hn hG hk h9 hc k1 rfl
theorem Ex.ci3 {k a q : Nat} {y : bo_M} {nx tg kp : Nat} {x1 x2 x3 : Value} {r : List Value} {c : bo_C} (he : bo_cd m pc = some (.invokespecial k, nx, tg, kp)) (hl : bo_lk (bo_o m) k = some (q, y)) (hq : q = 2 ∨ q = 4) (hn : bo_na y = 3) (hG : G[a]? = some c) (hk : bo_kd c = bo_o y) (h9 : bo_o y < 12) (hc : bo_cat r = true) (k1 : Cx d y [.ref a, x1, x2, x3] G (fun v G' => Ex (d + 1) m (nx, lv, v.toList ++ r, G') Q)) : Ex (d + 1) m (pc, lv, x3 :: x2 :: x1 :: .ref a :: r, G) Q := Ex.ci (As := [x1, x2, x3]) he hl hq hn hG hk h9 hc k1 rfl
theorem Ex.cv4 {k a : Nat} {y : bo_M} {nx tg kp : Nat} {x1 x2 x3 x4 : Value} {r : List Value} {c : bo_C} (he : bo_cd m pc = some (.invokevirtual k, nx, tg, kp)) (hl : bo_lk (bo_o m) k = some (0, y)) (hn : bo_na y = 4) (hG : G[a]? = some c) (hk : bo_kd c = bo_o y) (h9 : bo_o y < 12) (hc : bo_cat r = true) (k1 : Cx d y [.ref a, x1, x2, x3, x4] G (fun v G' => Ex (d + 1) m (nx, lv, v.toList ++ r, G') Q)) : Ex (d + 1) m (pc, lv, x4 :: x3 :: x2 :: x1 :: .ref a :: r, G) Q := Ex.cv (As := [x1, x2, x3, x4]) he hl hn hG hk h9 hc k1 rfl
theorem Ex.ci4 {k a q : Nat} {y : bo_M} {nx tg kp : Nat} {x1 x2 x3 x4 : Value} {r : List Value} {c : bo_C} (he : bo_cd m pc = some (.invokespecial k, nx, tg, kp)) (hl : bo_lk (bo_o m) k = some (q, y)) (hq : q = 2 ∨ q = 4) (hn : bo_na y = 4) (hG : G[a]? = some c) (hk : bo_kd c = bo_o y) (h9 : bo_o y < 12) (hc : bo_cat r = true) (k1 : Cx d y [.ref a, x1, x2, x3, x4] G (fun v G' => Ex (d + 1) m (nx, lv, v.toList ++ r, G') Q)) : Ex (d + 1) m (pc, lv, x4 :: x3 :: x2 :: x1 :: .ref a :: r, G) Q := Ex.ci (As := [x1, x2, x3, x4]) he hl hq hn hG hk h9 hc k1 rfl
theorem Ex.cv5 {k a : Nat} {y : bo_M} {nx tg kp : Nat} {x1 x2 x3 x4 x5 : Value} {r : List Value} {c : bo_C} (he : bo_cd m pc = some (.invokevirtual k, nx, tg, kp)) (hl : bo_lk (bo_o m) k = some (0, y)) (hn : bo_na y = 5) (hG : G[a]? = some c) (hk : bo_kd c = bo_o y) (h9 : bo_o y < 12) (hc : bo_cat r = true) (k1 : Cx d y [.ref a, x1, x2, x3, x4, x5] G (fun v G' => Ex (d + 1) m (nx, lv, v.toList ++ r, G') Q)) : Ex (d + 1) m (pc, lv, x5 :: x4 :: x3 :: x2 :: x1 :: .ref a :: r, G) Q := Ex.cv (As := [x1, x2, x3, x4, x5]) he hl hn hG hk h9 hc k1 rfl
theorem Ex.ci5 {k a q : Nat} {y : bo_M} {nx tg kp : Nat} {x1 x2 x3 x4 x5 : Value} {r : List Value} {c : bo_C} (he : bo_cd m pc = some (.invokespecial k, nx, tg, kp)) (hl : bo_lk (bo_o m) k = some (q, y)) (hq : q = 2 ∨ q = 4) (hn : bo_na y = 5) (hG : G[a]? = some c) (hk : bo_kd c = bo_o y) (h9 : bo_o y < 12) (hc : bo_cat r = true) (k1 : Cx d y [.ref a, x1, x2, x3, x4, x5] G (fun v G' => Ex (d + 1) m (nx, lv, v.toList ++ r, G') Q)) : Ex (d + 1) m (pc, lv, x5 :: x4 :: x3 :: x2 :: x1 :: .ref a :: r, G) Q := Ex.ci (As := [x1, x2, x3, x4, x5]) he hl hq hn hG hk h9 hc k1 rfl
theorem Ex.cv6 {k a : Nat} {y : bo_M} {nx tg kp : Nat} {x1 x2 x3 x4 x5 x6 : Value} {r : List Value} {c : bo_C} (he : bo_cd m pc = some (.invokevirtual k, nx, tg, kp)) (hl : bo_lk (bo_o m) k = some (0, y)) (hn : bo_na y = 6) (hG : G[a]? = some c) (hk : bo_kd c = bo_o y) (h9 : bo_o y < 12) (hc : bo_cat r = true) (k1 : Cx d y [.ref a, x1, x2, x3, x4, x5, x6] G (fun v G' => Ex (d + 1) m (nx, lv, v.toList ++ r, G') Q)) : Ex (d + 1) m (pc, lv, x6 :: x5 :: x4 :: x3 :: x2 :: x1 :: .ref a :: r, G) Q := Ex.cv (As := [x1, x2, x3, x4, x5, x6]) he hl hn hG hk h9 hc k1 rfl
theorem Ex.ci6 {k a q : Nat} {y : bo_M} {nx tg kp : Nat} {x1 x2 x3 x4 x5 x6 : Value} {r : List Value} {c : bo_C} (he : bo_cd m pc = some (.invokespecial k, nx, tg, kp)) (hl : bo_lk (bo_o m) k = some (q, y)) (hq : q = 2 ∨ q = 4) (hn : bo_na y = 6) (hG : G[a]? = some c) (hk : bo_kd c = bo_o y) (h9 : bo_o y < 12) (hc : bo_cat r = true) (k1 : Cx d y [.ref a, x1, x2, x3, x4, x5, x6] G (fun v G' => Ex (d + 1) m (nx, lv, v.toList ++ r, G') Q)) : Ex (d + 1) m (pc, lv, x6 :: x5 :: x4 :: x3 :: x2 :: x1 :: .ref a :: r, G) Q := Ex.ci (As := [x1, x2, x3, x4, x5, x6]) he hl hq hn hG hk h9 hc k1 rfl
/-- Object's constructor -/
theorem Ex.co {k a : Nat} {y : bo_M} {nx tg kp : Nat} {r : List Value} (he : bo_cd m pc = some (.invokespecial k, nx, tg, kp)) (hl : bo_lk (bo_o m) k = some (5, y)) (hc : bo_cat r = true) (k1 : Ex (d + 1) m (nx, lv, r, G) Q) : Ex (d + 1) m (pc, lv, .ref a :: r, G) Q := by
  obtain ⟨n, v, G', h, hq⟩ := k1
  refine ⟨n + 1, v, G', ?_, hq⟩
  have hn : bo_nat m (.invokespecial k) (.ref a :: r) = some r := by
    unfold bo_nat
    try dsimp only
    rw [hl]
    rfl
  unfold bo_ex
  rw [he]
  show (match bo_nat m (.invokespecial k) (.ref a :: r) with
    | some r => bif Nat.blt 0 (d + 1) && bo_cat r then bo_ex (d + 1) (bo_Kd (n + 1) (d + 1)) m n (nx, lv, r, G) else none
    | none => _) = _
  rw [hn]
  try dsimp only
  rw [hc]
  exact bo_ex_mono (bo_Kd_mono (Nat.le_succ n)) n n _ _ (Nat.le_refl _) h
/-- a float by its bits -/
theorem Ex.cf {k : Nat} {b : Int32} {y : bo_M} {nx tg kp : Nat} {r : List Value} (he : bo_cd m pc = some (.invokestatic k, nx, tg, kp)) (hl : bo_lk (bo_o m) k = some (6, y)) (hb : (b.toUInt32 &&& 0x7fffffff > 0x7f800000 && b.toUInt32 &&& 0x00400000 == 0) = false) (hc : bo_cat (.float b.toUInt32 :: r) = true) (k1 : Ex (d + 1) m (nx, lv, .float b.toUInt32 :: r, G) Q) : Ex (d + 1) m (pc, lv, .int b :: r, G) Q := by
  obtain ⟨n, v, G', h, hq⟩ := k1
  refine ⟨n + 1, v, G', ?_, hq⟩
  have hn : bo_nat m (.invokestatic k) (.int b :: r) = some (.float b.toUInt32 :: r) := by
    unfold bo_nat
    try dsimp only
    rw [hl]
    exact if_pos hb
  unfold bo_ex
  rw [he]
  show (match bo_nat m (.invokestatic k) (.int b :: r) with
    | some r => bif Nat.blt 0 (d + 1) && bo_cat r then bo_ex (d + 1) (bo_Kd (n + 1) (d + 1)) m n (nx, lv, r, G) else none
    | none => _) = _
  rw [hn]
  try dsimp only
  rw [hc]
  exact bo_ex_mono (bo_Kd_mono (Nat.le_succ n)) n n _ _ (Nat.le_refl _) h
-- fields and rows, by what is known of the cells
theorem Ex.gf {k a : Nat} {nx tg kp : Nat} {ck : Nat × Nat} {cn : Nat} {fs r : List Value} {v : Value} (he : bo_cd m pc = some (.getfield k, nx, tg, kp)) (hf : bo_fk (bo_o m) k = some ck) (hG : G[a]? = some (cO cn fs)) (hc : Nat.beq cn ck.1 = true) (hv : fs[ck.2]? = some v) (k1 : Ex d m (nx, lv, v :: r, G) Q) : Ex d m (pc, lv, .ref a :: r, G) Q := by
  refine Ex.go he ?_ k1
  show (match bo_fk (bo_o m) k with
    | some ck => bo_gf ck lv nx (.ref a :: r) G
    | none => none) = _
  rw [hf]
  unfold bo_gf
  try dsimp only
  rw [hG]
  try dsimp only
  rw [hc]
  dsimp only [cond_true]
  rw [hv]
/-- a Row's size -/
theorem Ex.gsz {k a : Nat} {nx tg kp lim cap : Nat} {xs : List Int32} {r : List Value} (he : bo_cd m pc = some (.getfield k, nx, tg, kp)) (hf : bo_fk (bo_o m) k = some (4, 2)) (hG : G[a]? = some (cR lim cap xs)) (k1 : Ex d m (nx, lv, .int (Int32.ofNat xs.length) :: r, G) Q) : Ex d m (pc, lv, .ref a :: r, G) Q := by
  refine Ex.go he ?_ k1
  show (match bo_fk (bo_o m) k with
    | some ck => bo_gf ck lv nx (.ref a :: r) G
    | none => none) = _
  rw [hf]
  unfold bo_gf
  try dsimp only
  rw [hG]
  rfl
/-- a Row's limit -/
theorem Ex.glm {k a : Nat} {nx tg kp lim cap : Nat} {xs : List Int32} {r : List Value} (he : bo_cd m pc = some (.getfield k, nx, tg, kp)) (hf : bo_fk (bo_o m) k = some (4, 0)) (hG : G[a]? = some (cR lim cap xs)) (k1 : Ex d m (nx, lv, .int (Int32.ofNat lim) :: r, G) Q) : Ex d m (pc, lv, .ref a :: r, G) Q := by
  refine Ex.go he ?_ k1
  show (match bo_fk (bo_o m) k with
    | some ck => bo_gf ck lv nx (.ref a :: r) G
    | none => none) = _
  rw [hf]
  unfold bo_gf
  try dsimp only
  rw [hG]
  rfl
theorem Ex.pf {k a : Nat} {nx tg kp : Nat} {ck : Nat × Nat} {cn : Nat} {fs r : List Value} {v : Value} (he : bo_cd m pc = some (.putfield k, nx, tg, kp)) (hf : bo_fk (bo_o m) k = some ck) (hG : G[a]? = some (cO cn fs)) (hc : Nat.beq cn ck.1 = true) (hl : Nat.blt ck.2 fs.length = true) (hw : bo_wr m ck v = true) (k1 : Ex d m (nx, lv, r, G.set a (cO cn (fs.set ck.2 v))) Q) : Ex d m (pc, lv, v :: .ref a :: r, G) Q := by
  refine Ex.go he ?_ k1
  show (match bo_fk (bo_o m) k with
    | some ck => bo_pf m ck lv nx (v :: .ref a :: r) G
    | none => none) = _
  rw [hf]
  unfold bo_pf
  try dsimp only
  rw [hG]
  try dsimp only
  rw [hc, hl, hw]
  rfl
/-- a Row is cut down -/
theorem Ex.psz {k a : Nat} {nx tg kp lim cap n : Nat} {xs : List Int32} {r : List Value} {x : Int32} (he : bo_cd m pc = some (.putfield k, nx, tg, kp)) (hf : bo_fk (bo_o m) k = some (4, 2)) (ho : bo_o m = 4) (hG : G[a]? = some (cR lim cap xs)) (h0 : 0 ≤ x) (hn : x.toNatClampNeg = n) (hx : n ≤ xs.length) (k1 : Ex d m (nx, lv, r, G.set a (cR lim cap (xs.take n))) Q) : Ex d m (pc, lv, .int x :: .ref a :: r, G) Q := by
  subst hn
  refine Ex.go he ?_ k1
  show (match bo_fk (bo_o m) k with
    | some ck => bo_pf m ck lv nx (.int x :: .ref a :: r) G
    | none => none) = _
  rw [hf]
  unfold bo_pf
  try dsimp only
  rw [hG, ho]
  show (if 0 ≤ x ∧ x.toNatClampNeg ≤ xs.length then _ else none) = _
  rw [if_pos ⟨h0, hx⟩]
theorem Ex.ial {a nx tg kp n : Nat} {i : Int32} {f : Nat → Int32} {r : List Value} (he : bo_cd m pc = some (.iaload, nx, tg, kp)) (hG : G[a]? = some (cI n f)) (hi : 0 ≤ i ∧ i.toNatClampNeg < n) (k1 : Ex d m (nx, lv, .int (f i.toNatClampNeg) :: r, G) Q) : Ex d m (pc, lv, .int i :: .ref a :: r, G) Q := by
  refine Ex.go he ?_ k1
  show bo_ial lv nx (.int i :: .ref a :: r) G = _
  unfold bo_ial
  try dsimp only
  rw [hG]
  try dsimp only
  rw [if_pos hi]
theorem Ex.ials {a nx tg kp n : Nat} {i : Int32} {f : Nat → Int32} {r : List Value} (he : bo_cd m pc = some (.iaload, nx, tg, kp)) (hG : G[a]? = some (cS n f)) (hi : 0 ≤ i ∧ i.toNatClampNeg < n) (k1 : Ex d m (nx, lv, .int (f i.toNatClampNeg) :: r, G) Q) : Ex d m (pc, lv, .int i :: .ref a :: r, G) Q := by
  refine Ex.go he ?_ k1
  show bo_ial lv nx (.int i :: .ref a :: r) G = _
  unfold bo_ial
  try dsimp only
  rw [hG]
  try dsimp only
  rw [if_pos hi]
theorem Ex.ias {a nx tg kp n : Nat} {i x : Int32} {f : Nat → Int32} {r : List Value} (he : bo_cd m pc = some (.iastore, nx, tg, kp)) (hG : G[a]? = some (cI n f)) (hi : 0 ≤ i ∧ i.toNatClampNeg < n) (k1 : Ex d m (nx, lv, r, G.set a (cI n (upd f i.toNatClampNeg x))) Q) : Ex d m (pc, lv, .int x :: .int i :: .ref a :: r, G) Q := by
  refine Ex.go he ?_ k1
  show bo_ias lv nx (.int x :: .int i :: .ref a :: r) G = _
  unfold bo_ias
  try dsimp only
  rw [hG]
  try dsimp only
  rw [if_pos hi]
theorem Ex.aal {a nx tg kp n cn : Nat} {i : Int32} {f : Nat → Option Nat} {r : List Value} (he : bo_cd m pc = some (.aaload, nx, tg, kp)) (hG : G[a]? = some (cQ cn n f)) (hi : 0 ≤ i ∧ i.toNatClampNeg < n) (k1 : Ex d m (nx, lv, va_rf (f i.toNatClampNeg) :: r, G) Q) : Ex d m (pc, lv, .int i :: .ref a :: r, G) Q := by
  refine Ex.go he ?_ k1
  show bo_aal lv nx (.int i :: .ref a :: r) G = _
  unfold bo_aal
  try dsimp only
  rw [hG]
  try dsimp only
  rw [if_pos hi]
theorem Ex.aas {a v nx tg kp n cn : Nat} {i : Int32} {f : Nat → Option Nat} {fs r : List Value} (he : bo_cd m pc = some (.aastore, nx, tg, kp)) (hG : G[a]? = some (cQ cn n f)) (hV : G[v]? = some (cO cn fs)) (hi : 0 ≤ i ∧ i.toNatClampNeg < n) (k1 : Ex d m (nx, lv, r, G.set a (cQ cn n (va_up f i.toNatClampNeg (some v)))) Q) : Ex d m (pc, lv, .ref v :: .int i :: .ref a :: r, G) Q := by
  refine Ex.go he ?_ k1
  show bo_aas lv nx (.ref v :: .int i :: .ref a :: r) G = _
  unfold bo_aas
  try dsimp only
  rw [hG]
  try dsimp only
  rw [hV]
  try dsimp only
  rw [if_pos ⟨hi.1, hi.2, rfl⟩]
theorem Ex.ali {a nx tg kp n : Nat} {f : Nat → Int32} {r : List Value} (he : bo_cd m pc = some (.arraylength, nx, tg, kp)) (hG : G[a]? = some (cI n f)) (k1 : Ex d m (nx, lv, .int (Int32.ofNat n) :: r, G) Q) : Ex d m (pc, lv, .ref a :: r, G) Q := by
  refine Ex.go he ?_ k1
  show bo_al lv nx (.ref a :: r) G = _
  unfold bo_al
  try dsimp only
  rw [hG]
theorem Ex.alq {a nx tg kp n cn : Nat} {f : Nat → Option Nat} {r : List Value} (he : bo_cd m pc = some (.arraylength, nx, tg, kp)) (hG : G[a]? = some (cQ cn n f)) (k1 : Ex d m (nx, lv, .int (Int32.ofNat n) :: r, G) Q) : Ex d m (pc, lv, .ref a :: r, G) Q := by
  refine Ex.go he ?_ k1
  show bo_al lv nx (.ref a :: r) G = _
  unfold bo_al
  try dsimp only
  rw [hG]
theorem Ex.als {a nx tg kp n : Nat} {f : Nat → Int32} {r : List Value} (he : bo_cd m pc = some (.arraylength, nx, tg, kp)) (hG : G[a]? = some (cS n f)) (k1 : Ex d m (nx, lv, .int (Int32.ofNat n) :: r, G) Q) : Ex d m (pc, lv, .ref a :: r, G) Q := by
  refine Ex.go he ?_ k1
  show bo_al lv nx (.ref a :: r) G = _
  unfold bo_al
  try dsimp only
  rw [hG]
end EX
-- Row's own four
theorem Cx.rinit {d a : Nat} {n : Int32} {G : bo_G} {Q : Option Value → bo_G → Prop} (hG : G[a]? = some (cO 4 (bo_df 4))) (h1 : 1 ≤ n) (h2 : n ≤ 40000) (k : Q none (G.set a (cR n.toNatClampNeg (min n.toNatClampNeg 16) []))) : Cx (d + 1) mX4_init [.ref a, .int n] G Q := by
  refine Cx.prim (p := 0) rfl ?_ k
  show (match G[a]? with
    | some (.inl o) => if Nat.beq o.1 4 = true ∧ 1 ≤ d + 1 ∧ 1 ≤ n ∧ n ≤ 40000 ∧ o.2 = bo_df 4 then some (none, G.set a (cR n.toNatClampNeg (min n.toNatClampNeg 16) [])) else none
    | _ => none) = _
  rw [hG]
  exact if_pos ⟨rfl, by omega, h1, h2, rfl⟩
theorem Cx.rat {d a lim cap : Nat} {i : Int32} {xs : List Int32} {G : bo_G} {Q : Option Value → bo_G → Prop} (hG : G[a]? = some (cR lim cap xs)) (k : Q (some (.int (bo_at xs i))) G) : Cx d mX4_at [.ref a, .int i] G Q := by
  refine Cx.prim (p := 1) rfl ?_ k
  show (match G[a]? with
    | some (.inr (.inr (.inr (.inl w)))) => some (some (Value.int (bo_at w.2.2 i)), G)
    | _ => none) = _
  rw [hG]
theorem Cx.rput {d a lim cap : Nat} {i v : Int32} {xs : List Int32} {G : bo_G} {Q : Option Value → bo_G → Prop} (hG : G[a]? = some (cR lim cap xs)) (k : Q none (G.set a (cR lim cap (bo_put xs i v)))) : Cx d mX4_put [.ref a, .int i, .int v] G Q := by
  refine Cx.prim (p := 2) rfl ?_ k
  show (match G[a]? with
    | some (.inr (.inr (.inr (.inl w)))) => some (none, G.set a (cR w.1 w.2.1 (bo_put w.2.2 i v)))
    | _ => none) = _
  rw [hG]
theorem Cx.radd {d a lim cap : Nat} {v : Int32} {xs : List Int32} {G : bo_G} {Q : Option Value → bo_G → Prop} (hG : G[a]? = some (cR lim cap xs)) (k : Q (some (.ref a)) (G.set a (cR lim (bo_cap lim cap xs.length) (bo_add lim xs v)))) : Cx (d + 2) mX4_add [.ref a, .int v] G Q := by
  refine Cx.prim (p := 3) rfl ?_ k
  show (match G[a]? with
    | some (.inr (.inr (.inr (.inl w)))) => if 2 ≤ d + 2 then some (some (Value.ref a), G.set a (cR w.1 (bo_cap w.1 w.2.1 w.2.2.length) (bo_add w.1 w.2.2 v))) else none
    | _ => none) = _
  rw [hG]
  exact if_pos (by omega)
theorem Cx.rlen {d : Nat} {c : Int32} {G : bo_G} {Q : Option Value → bo_G → Prop} (k : Q (some (.int (if 0 ≤ c ∧ c < 12 then bo_LEN c.toNatClampNeg else 0))) G) : Cx d mX3_lengthOf [.int c] G Q :=
  Cx.prim (p := 4) rfl rfl k

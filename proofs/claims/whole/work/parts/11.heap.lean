/-! Instructions that read and write locals and cells. -/
section BOS2
variable {p : Program} {l : Launch} {e : Env} {R : Room} {s : State} {mm : MethodId} {args : Array Value} {below : List Frame} {meth : Method} {c : Code} {Q : State → Prop}
variable {X : bo_X} {kC kS n0 : Nat} {ad0 : Nat → Nat} {m : bo_M}
theorem bo_Wg.ldI {pc nx i : Nat} {lv : bo_LV} {st : List Value} {G : bo_G} {S' : bo_S} (hs : bo_ldI lv i nx st G = some S') (k : bo_Wg p l e R s mm args below meth c Q X kC kS n0 ad0 m S')
    (row : ∀ (H : Heap) (locs : List Loc) (ls : Array Slot) (cells slots : Nat) (rest : List Value) (x : Int32), ls[i]? = some (.val (.int x)) → W p l e R s mm args below meth c H locs cells slots Q (F0 mm nx ls (.int x :: rest)) → W p l e R s mm args below meth c H locs cells slots Q (F0 mm pc ls rest)) : bo_Wg p l e R s mm args below meth c Q X kC kS n0 ad0 m (pc, lv, st, G) := by
  unfold bo_ldI at hs
  split at hs
  · rename_i hk
    cases hs
    exact k.pure (fun h => h.cons trivial) fun H locs ls ad pa h1 h2 kk => row _ _ _ _ _ _ _ (bo_has h2 hk) kk
  · cases hs
theorem bo_Wg.ldL {pc nx i : Nat} {lv : bo_LV} {st : List Value} {G : bo_G} {S' : bo_S} (hs : bo_ldL lv i nx st G = some S') (k : bo_Wg p l e R s mm args below meth c Q X kC kS n0 ad0 m S')
    (row : ∀ (H : Heap) (locs : List Loc) (ls : Array Slot) (cells slots : Nat) (rest : List Value) (x : Int64), ls[i]? = some (.val (.long x)) → W p l e R s mm args below meth c H locs cells slots Q (F0 mm nx ls (.long x :: rest)) → W p l e R s mm args below meth c H locs cells slots Q (F0 mm pc ls rest)) : bo_Wg p l e R s mm args below meth c Q X kC kS n0 ad0 m (pc, lv, st, G) := by
  unfold bo_ldL at hs
  split at hs
  · rename_i hk
    cases hs
    exact k.pure (fun h => h.cons trivial) fun H locs ls ad pa h1 h2 kk => row _ _ _ _ _ _ _ (bo_has h2 hk) kk
  · cases hs
theorem bo_Wg.ldA {pc nx i : Nat} {lv : bo_LV} {st : List Value} {G : bo_G} {S' : bo_S} (hs : bo_ldA lv i nx st G = some S') (k : bo_Wg p l e R s mm args below meth c Q X kC kS n0 ad0 m S')
    (row : ∀ (H : Heap) (locs : List Loc) (ls : Array Slot) (cells slots : Nat) (rest : List Value) (x : Nat), ls[i]? = some (.val (.ref x)) → W p l e R s mm args below meth c H locs cells slots Q (F0 mm nx ls (.ref x :: rest)) → W p l e R s mm args below meth c H locs cells slots Q (F0 mm pc ls rest))
    (rowN : ∀ (H : Heap) (locs : List Loc) (ls : Array Slot) (cells slots : Nat) (rest : List Value), ls[i]? = some (.val .null) → W p l e R s mm args below meth c H locs cells slots Q (F0 mm nx ls (.null :: rest)) → W p l e R s mm args below meth c H locs cells slots Q (F0 mm pc ls rest)) : bo_Wg p l e R s mm args below meth c Q X kC kS n0 ad0 m (pc, lv, st, G) := by
  unfold bo_ldA at hs
  split at hs
  · rename_i hk
    cases hs
    exact k.pure (fun h => h.cons (h.1 _ (bo_look hk))) fun H locs ls ad pa h1 h2 kk => row _ _ _ _ _ _ _ (bo_has h2 hk) kk
  · rename_i hk
    cases hs
    exact k.pure (fun h => h.cons trivial) fun H locs ls ad pa h1 h2 kk => rowN _ _ _ _ _ _ (bo_has h2 hk) kk
  · cases hs
theorem bo_Wg.s1 {pc nx i : Nat} {lv : bo_LV} {v : Value} {r : List Value} {G : bo_G} (k : bo_Wg p l e R s mm args below meth c Q X kC kS n0 ad0 m (nx, bo_s1 lv i v, r, G))
    (row : ∀ (H : Heap) (locs : List Loc) (ls : Array Slot) (cells slots : Nat) (rest : List Value) (ad : Nat → Nat), lv_has ls (bo_ml m) (bo_lm ad lv) → (∀ ls' : Array Slot, lv_has ls' (bo_ml m) ((i, bo_sv ad v) :: (bo_lm ad lv).filter (fun q => !(q.1 == i) && !(q.1 + 1 == i && q.2.category == 2))) → W p l e R s mm args below meth c H locs cells slots Q (F0 mm nx ls' rest)) → W p l e R s mm args below meth c H locs cells slots Q (F0 mm pc ls (bo_sv ad v :: rest))) : bo_Wg p l e R s mm args below meth c Q X kC kS n0 ad0 m (pc, lv, v :: r, G) := by
  intro H locs ls ad pa h1 h2 h3 h4 h5 h6 h7 h8
  refine row H locs ls _ _ _ ad h2 fun ls' h2' => ?_
  rw [bo_lm_s1] at h2'
  exact k H locs ls' ad pa h1 (bo_has_sub h2' bo_s1_sub) (h3.s1 i) h4 h5 h6 h7 h8
theorem bo_Wg.s2 {pc nx i : Nat} {lv : bo_LV} {v : Value} {r : List Value} {G : bo_G} (k : bo_Wg p l e R s mm args below meth c Q X kC kS n0 ad0 m (nx, bo_s2 lv i v, r, G))
    (row : ∀ (H : Heap) (locs : List Loc) (ls : Array Slot) (cells slots : Nat) (rest : List Value) (ad : Nat → Nat), lv_has ls (bo_ml m) (bo_lm ad lv) → (∀ ls' : Array Slot, lv_has ls' (bo_ml m) ((i, bo_sv ad v) :: (bo_lm ad lv).filter (fun q => !(q.1 == i) && (!(q.1 == i + 1) && !(q.1 + 1 == i && q.2.category == 2)))) → W p l e R s mm args below meth c H locs cells slots Q (F0 mm nx ls' rest)) → W p l e R s mm args below meth c H locs cells slots Q (F0 mm pc ls (bo_sv ad v :: rest))) : bo_Wg p l e R s mm args below meth c Q X kC kS n0 ad0 m (pc, lv, v :: r, G) := by
  intro H locs ls ad pa h1 h2 h3 h4 h5 h6 h7 h8
  refine row H locs ls _ _ _ ad h2 fun ls' h2' => ?_
  rw [bo_lm_s2] at h2'
  exact k H locs ls' ad pa h1 (bo_has_sub h2' bo_s2_sub) (h3.s2 i) h4 h5 h6 h7 h8
theorem bo_Wg.stI {pc nx i : Nat} {lv : bo_LV} {st : List Value} {G : bo_G} {S' : bo_S} (hs : bo_stI (bo_ml m) lv i nx st G = some S') (k : bo_Wg p l e R s mm args below meth c Q X kC kS n0 ad0 m S')
    (row : ∀ (H : Heap) (locs : List Loc) (ls : Array Slot) (cells slots : Nat) (rest : List Value) (lw : bo_LV) (x : Int32), i < bo_ml m → lv_has ls (bo_ml m) lw → (∀ ls' : Array Slot, lv_has ls' (bo_ml m) ((i, Value.int x) :: lw.filter (fun q => !(q.1 == i) && !(q.1 + 1 == i && q.2.category == 2))) → W p l e R s mm args below meth c H locs cells slots Q (F0 mm nx ls' rest)) → W p l e R s mm args below meth c H locs cells slots Q (F0 mm pc ls (.int x :: rest))) : bo_Wg p l e R s mm args below meth c Q X kC kS n0 ad0 m (pc, lv, st, G) := by
  unfold bo_stI at hs
  split at hs
  · cases hb : Nat.blt i (bo_ml m) <;> rw [hb] at hs
    · cases hs
    · cases hs
      exact k.s1 fun H locs ls cells slots rest ad h2 kk => row _ _ _ _ _ _ _ _ (Nat.le_of_ble_eq_true hb) h2 kk
  · cases hs
theorem bo_Wg.stL {pc nx i : Nat} {lv : bo_LV} {st : List Value} {G : bo_G} {S' : bo_S} (hs : bo_stL (bo_ml m) lv i nx st G = some S') (k : bo_Wg p l e R s mm args below meth c Q X kC kS n0 ad0 m S')
    (row : ∀ (H : Heap) (locs : List Loc) (ls : Array Slot) (cells slots : Nat) (rest : List Value) (lw : bo_LV) (x : Int64), i + 1 < bo_ml m → lv_has ls (bo_ml m) lw → (∀ ls' : Array Slot, lv_has ls' (bo_ml m) ((i, Value.long x) :: lw.filter (fun q => !(q.1 == i) && (!(q.1 == i + 1) && !(q.1 + 1 == i && q.2.category == 2)))) → W p l e R s mm args below meth c H locs cells slots Q (F0 mm nx ls' rest)) → W p l e R s mm args below meth c H locs cells slots Q (F0 mm pc ls (.long x :: rest))) : bo_Wg p l e R s mm args below meth c Q X kC kS n0 ad0 m (pc, lv, st, G) := by
  unfold bo_stL at hs
  split at hs
  · cases hb : Nat.blt (i + 1) (bo_ml m) <;> rw [hb] at hs
    · cases hs
    · cases hs
      exact k.s2 fun H locs ls cells slots rest ad h2 kk => row _ _ _ _ _ _ _ _ (Nat.le_of_ble_eq_true hb) h2 kk
  · cases hs
theorem bo_Wg.stA {pc nx i : Nat} {lv : bo_LV} {st : List Value} {G : bo_G} {S' : bo_S} (hs : bo_stA (bo_ml m) lv i nx st G = some S') (k : bo_Wg p l e R s mm args below meth c Q X kC kS n0 ad0 m S')
    (row : ∀ (H : Heap) (locs : List Loc) (ls : Array Slot) (cells slots : Nat) (rest : List Value) (lw : bo_LV) (x : Nat), i < bo_ml m → lv_has ls (bo_ml m) lw → (∀ ls' : Array Slot, lv_has ls' (bo_ml m) ((i, Value.ref x) :: lw.filter (fun q => !(q.1 == i) && !(q.1 + 1 == i && q.2.category == 2))) → W p l e R s mm args below meth c H locs cells slots Q (F0 mm nx ls' rest)) → W p l e R s mm args below meth c H locs cells slots Q (F0 mm pc ls (.ref x :: rest)))
    (rowN : ∀ (H : Heap) (locs : List Loc) (ls : Array Slot) (cells slots : Nat) (rest : List Value) (lw : bo_LV), i < bo_ml m → lv_has ls (bo_ml m) lw → (∀ ls' : Array Slot, lv_has ls' (bo_ml m) ((i, Value.null) :: lw.filter (fun q => !(q.1 == i) && !(q.1 + 1 == i && q.2.category == 2))) → W p l e R s mm args below meth c H locs cells slots Q (F0 mm nx ls' rest)) → W p l e R s mm args below meth c H locs cells slots Q (F0 mm pc ls (.null :: rest))) : bo_Wg p l e R s mm args below meth c Q X kC kS n0 ad0 m (pc, lv, st, G) := by
  unfold bo_stA at hs
  split at hs
  · cases hb : Nat.blt i (bo_ml m) <;> rw [hb] at hs
    · cases hs
    · cases hs
      exact k.s1 fun H locs ls cells slots rest ad h2 kk => row _ _ _ _ _ _ _ _ (Nat.le_of_ble_eq_true hb) h2 kk
  · cases hb : Nat.blt i (bo_ml m) <;> rw [hb] at hs
    · cases hs
    · cases hs
      exact k.s1 fun H locs ls cells slots rest ad h2 kk => rowN _ _ _ _ _ _ _ (Nat.le_of_ble_eq_true hb) h2 kk
  · cases hs
theorem bo_Wg.inc {pc nx i : Nat} {n : Int} {lv : bo_LV} {st : List Value} {G : bo_G} {S' : bo_S} (hs : bo_inc (bo_ml m) lv i n nx st G = some S') (k : bo_Wg p l e R s mm args below meth c Q X kC kS n0 ad0 m S')
    (row : ∀ (H : Heap) (locs : List Loc) (ls : Array Slot) (cells slots : Nat) (rest : List Value) (lw : bo_LV) (x : Int32) (k : Nat), lw[k]? = some (i, .int x) → i < bo_ml m → lv_has ls (bo_ml m) lw → (∀ ls' : Array Slot, lv_has ls' (bo_ml m) ((i, Value.int (x + Int32.ofInt n)) :: lw.filter (fun q => !(q.1 == i) && !(q.1 + 1 == i && q.2.category == 2))) → W p l e R s mm args below meth c H locs cells slots Q (F0 mm nx ls' rest)) → W p l e R s mm args below meth c H locs cells slots Q (F0 mm pc ls rest)) : bo_Wg p l e R s mm args below meth c Q X kC kS n0 ad0 m (pc, lv, st, G) := by
  unfold bo_inc at hs
  split at hs
  · rename_i x hk
    cases hb : Nat.blt i (bo_ml m) <;> rw [hb] at hs
    · cases hs
    · cases hs
      intro H locs ls ad pa h1 h2 h3 h4 h5 h6 h7 h8
      obtain ⟨q, hq⟩ := List.getElem?_of_mem (bo_look hk)
      have hq' : (bo_lm ad lv)[q]? = some (i, .int x) := by
        unfold bo_lm
        rw [List.getElem?_map, hq]
        rfl
      refine row H locs ls _ _ _ _ x q hq' (Nat.le_of_ble_eq_true hb) h2 fun ls' h2' => ?_
      have h2'' : lv_has ls' (bo_ml m) (bo_lm ad (bo_s1 lv i (.int (x + Int32.ofInt n)))) := bo_has_sub (by rw [← bo_lm_s1]; exact h2') bo_s1_sub
      exact k H locs ls' ad pa h1 h2'' ⟨fun w hw => (List.mem_cons.mp (bo_ins_mem hw)).elim (fun z => by rw [z]; trivial) (fun z => h3.1 w (List.mem_filter.mp z).1), h3.2⟩ h4 h5 h6 h7 h8
  · cases hs
theorem bo_tyok : ∀ c, c < 12 → ∀ k, k < bo_N c → parseFieldDescriptor (bo_T c k).2.2.1 = some (bo_ty c k) := by
  intro c hc
  match c, hc with
  | 0, _ => exact tyX0_ok
  | 1, _ => exact tyX1_ok
  | 2, _ => exact tyX2_ok
  | 3, _ => exact tyX3_ok
  | 4, _ => exact tyX4_ok
  | 5, _ => exact tyX5_ok
  | 6, _ => exact tyX6_ok
  | 7, _ => exact tyX7_ok
  | 8, _ => exact tyX8_ok
  | 9, _ => exact tyX9_ok
  | 10, _ => exact tyX10_ok
  | 11, _ => exact tyX11_ok
  | c + 12, hc => exact absurd hc (by omega)
theorem bo_nmok : ∀ c, c < 12 → ∀ a, a < bo_N c → ∀ b, b < bo_N c → a ≠ b → (bo_T c a).2.1 ≠ (bo_T c b).2.1 := by
  intro c hc
  match c, hc with
  | 0, _ => exact nmX0
  | 1, _ => exact nmX1
  | 2, _ => exact nmX2
  | 3, _ => exact nmX3
  | 4, _ => exact nmX4
  | 5, _ => exact nmX5
  | 6, _ => exact nmX6
  | 7, _ => exact nmX7
  | 8, _ => exact nmX8
  | 9, _ => exact nmX9
  | 10, _ => exact nmX10
  | 11, _ => exact nmX11
  | c + 12, hc => exact absurd hc (by omega)
theorem bo_clok : ∀ c, c < 12 → bo_Cls[c]? = some (bo_R c, bo_T c, bo_N c) := by
  intro c hc
  match c, hc with
  | 0, _ => rfl
  | 1, _ => rfl
  | 2, _ => rfl
  | 3, _ => rfl
  | 4, _ => rfl
  | 5, _ => rfl
  | 6, _ => rfl
  | 7, _ => rfl
  | 8, _ => rfl
  | 9, _ => rfl
  | 10, _ => rfl
  | 11, _ => rfl
  | c + 12, hc => exact absurd hc (by omega)
/-- each field's class is the object's own -/
theorem bo_decl : ∀ c, c < 12 → ∀ k, k < bo_N c → (bo_T c k).1 = bo_R c := by decide +kernel
theorem bo_dfok : ∀ c, c < 12 → ∀ j, j < bo_N c → defaultValue (bo_ty c j) = vp_V (bo_df c) j := by decide +kernel
theorem bo_dflen : ∀ c, c < 12 → (bo_df c).length = bo_N c := by decide +kernel
theorem bo_dfrk : ∀ c, c < 12 → ∀ v ∈ bo_df c, v = .int 0 ∨ v = .long 0 ∨ v = .null := by decide +kernel
theorem bo_wr_ok {m : bo_M} {ck : Nat × Nat} {v : Value} (h : bo_wr m ck v = true) : bo_o m = ck.1 ∧ ((bo_T ck.1 ck.2).2.2.2 = false ∨ bo_in m = true) ∧ narrow (bo_ty ck.1 ck.2) v = v ∧ fits (bo_ty ck.1 ck.2) v = true := by
  unfold bo_wr at h
  rw [Bool.and_eq_true, Bool.and_eq_true, Bool.or_eq_true] at h
  obtain ⟨h1, h2, h3⟩ := h
  refine ⟨Nat.eq_of_beq_eq_true h1, h2.imp (fun q => by simpa using q) id, ?_⟩
  split at h3 <;> first | (cases h3; done) | (rename_i hty; rw [hty]; first | (refine ⟨rfl, rfl⟩; done) | (rcases of_decide_eq_true h3 with rfl | rfl <;> exact ⟨rfl, rfl⟩))
end BOS2

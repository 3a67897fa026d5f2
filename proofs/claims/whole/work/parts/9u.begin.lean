/-! What stands when both are made keeps all that is asked. -/
section BG
variable {L : Nat} {xs : Nat → Int32}
def A0 (L : Nat) (xs : Nat → Int32) : bo_G := cS L xs :: cO 10 [.ref 2, .ref 7, .ref 12, .ref 358, .ref 360, .ref 361, .ref 363, .int 0, .int 0] :: (rolL 2 ++ rolL 7)
def B0 : bo_G := shtL 358 ++ [cR 12 12 []] ++ lisL 361 ++ [cR 40000 16 []] ++ mdlL
def G0 (L : Nat) (xs : Nat → Int32) : bo_G := [cS L xs] ++ mainL 1 ++ mdlL
theorem G0_eq : G0 L xs = A0 L xs ++ vwL 12 ++ B0 := by
  unfold G0 A0 B0 mainL
  simp only [List.append_assoc, List.cons_append, List.nil_append]
theorem A0_len : (A0 L xs).length = 12 := rfl
theorem G0_len : (G0 L xs).length = 378 := by
  rw [G0_eq, List.length_append, List.length_append, vwL_len]
  rfl
theorem G0_A {j : Nat} (h : j < 12) : (G0 L xs)[j]? = (A0 L xs)[j]? := by
  rw [G0_eq, List.append_assoc, List.getElem?_append_left (by rw [A0_len]; exact h)]
theorem G0_V {j : Nat} (h : j < 346) : (G0 L xs)[12 + j]? = (vwL 12)[j]? := by
  rw [G0_eq, List.getElem?_append_left (by rw [List.length_append, A0_len, vwL_len]; omega), List.getElem?_append_right (by rw [A0_len]; omega), A0_len, show 12 + j - 12 = j by omega]
theorem G0_B {j : Nat} : (G0 L xs)[358 + j]? = B0[j]? := by
  rw [G0_eq, List.getElem?_append_right (by rw [List.length_append, A0_len, vwL_len]; omega), List.length_append, A0_len, vwL_len, show 358 + j - (12 + 346) = j by omega]
theorem pvs_get {u p j : Nat} (hj : j < 14) : ∀ n, p < n → (pvs u n)[14 * p + j]? = (pvL (u + 14 * p))[j]?
  | 0, h => absurd h (Nat.not_lt_zero p)
  | n + 1, h => by
    show (pvs u n ++ pvL (u + 14 * n))[14 * p + j]? = _
    by_cases c : p = n
    · subst c
      rw [List.getElem?_append_right (by rw [pvs_len]; omega), pvs_len, show 14 * p + j - 14 * p = j by omega]
    · rw [List.getElem?_append_left (by rw [pvs_len]; omega)]
      exact pvs_get hj n (by omega)
theorem G0_W {j : Nat} (h : j < 10) : (G0 L xs)[12 + j]? = (vwZ 12 .null :: cQ 2 24 vwQ :: (valL 14 ++ papL 18))[j]? := by
  rw [G0_V (by omega)]
  show ((vwZ 12 .null :: cQ 2 24 vwQ :: (valL 14 ++ papL 18)) ++ pvs 22 24)[j]? = _
  exact List.getElem?_append_left h
theorem G0_P {p j : Nat} (hp : p < 24) (hj : j < 14) : (G0 L xs)[22 + 14 * p + j]? = (pvL (22 + 14 * p))[j]? := by
  rw [show 22 + 14 * p + j = 12 + (10 + (14 * p + j)) by omega, G0_V (by omega)]
  show ((vwZ 12 .null :: cQ 2 24 vwQ :: (valL 14 ++ papL 18)) ++ pvs 22 24)[10 + (14 * p + j)]? = _
  rw [List.getElem?_append_right (Nat.le_add_right 10 _), show 10 + (14 * p + j) - (vwZ 12 .null :: cQ 2 24 vwQ :: (valL 14 ++ papL 18)).length = 14 * p + j by show 10 + (14 * p + j) - 10 = _; omega]
  exact pvs_get hj 24 hp
theorem sel0 {P : Nat → Bool} : sel 0 P = [] := rfl
theorem G0_CR {b : Nat} (hb : b = 2 ∨ b = 7) : CR (G0 L xs) b [] zI 0 (nI 0) := by
  refine ⟨?_, Nat.zero_le _, Nat.le_refl _, List.nodup_nil, fun u hu => absurd hu List.not_mem_nil, fun j u h => by cases h⟩
  rcases hb with e | e <;> subst e
  · exact ⟨(G0_A (by decide)).trans rfl, ⟨16, (G0_A (by decide)).trans rfl⟩, ⟨16, (G0_A (by decide)).trans rfl⟩, ⟨16, (G0_A (by decide)).trans rfl⟩, (G0_A (by decide)).trans rfl⟩
  · exact ⟨(G0_A (by decide)).trans rfl, ⟨16, (G0_A (by decide)).trans rfl⟩, ⟨16, (G0_A (by decide)).trans rfl⟩, ⟨16, (G0_A (by decide)).trans rfl⟩, (G0_A (by decide)).trans rfl⟩
theorem WF_0 : WF zI 0 := ⟨fun i hi => absurd hi (Nat.not_lt_zero i), Nat.zero_le _, Nat.zero_le _, Nat.zero_le _⟩
theorem G0_VI : VI (G0 L xs) := by
  refine ⟨0, none, -1, 0, 0, 1, 0, 0, [], [], [], 0, 0, 0, 0, 0, 0, 0, [], [], [], (G0_W (j := 0) (by decide)).trans rfl, (G0_W (j := 1) (by decide)).trans rfl, fun p hp => ?_, ⟨(G0_W (j := 2) (by decide)).trans rfl, ⟨6, (G0_W (j := 3) (by decide)).trans rfl⟩, ⟨6, (G0_W (j := 4) (by decide)).trans rfl⟩, ⟨6, (G0_W (j := 5) (by decide)).trans rfl⟩⟩, ⟨Nat.zero_le _, Nat.zero_le _, Nat.zero_le _⟩, ⟨(G0_W (j := 6) (by decide)).trans rfl, ⟨3, (G0_W (j := 7) (by decide)).trans rfl⟩, ⟨3, (G0_W (j := 8) (by decide)).trans rfl⟩, ⟨3, (G0_W (j := 9) (by decide)).trans rfl⟩⟩⟩
  refine ⟨pvZ (22 + 14 * p), fun _ => (0, 0, 0, 0), isPv_mk, ⟨(G0_P hp (j := 0) (by decide)).trans rfl, (G0_P hp (j := 1) (by decide)).trans rfl, fun i hi => ?_⟩, fun h => absurd h (Nat.not_lt_zero p)⟩
  rw [show 22 + 14 * p + 2 + i = 22 + 14 * p + (2 + i) by omega, G0_P hp (by omega)]
  unfold pvL
  rw [show 2 + i = i + 1 + 1 by omega, List.getElem?_cons_succ, List.getElem?_cons_succ, List.getElem?_replicate, if_pos hi]
theorem G0_KS : KS (G0 L xs) 2 [] [] zI 0 0 0 (-1) [] 0 [] [] 0 := by
  refine ⟨⟨Or.inl rfl, (G0_A (by decide)).trans rfl, Nat.zero_le _⟩, ⟨G0_CR (Or.inl rfl), WF_0, Nat.le_refl _, fun i _ h => absurd h (Nat.not_lt_zero i)⟩, ⟨G0_VI, ⟨(G0_B (j := 0)).trans rfl, ⟨16, (G0_B (j := 1)).trans rfl⟩⟩, Nat.zero_le _, ⟨12, [], (G0_B (j := 2)).trans rfl⟩, ⟨(G0_B (j := 3)).trans rfl, ⟨16, (G0_B (j := 4)).trans rfl⟩⟩, Nat.zero_le _, ⟨16, (G0_B (j := 5)).trans rfl⟩, Nat.zero_le _⟩, G0_len, ⟨zI, 0, nI 0, G0_CR (Or.inr rfl), WF_0⟩, fun u hu => absurd hu List.not_mem_nil⟩
theorem G0_RS : RS (G0 L xs) zI 0 0 0 (-1) 0 zI 0 zI [] (nI 0) := by
  refine ⟨zI, 0, zI, zI, zI, ⟨(.int 0, .int 0, .int 0, .int 0, .int 0), zI, zI, zI, zI, zI, zI, ⟨⟨(G0_B (j := 6)).trans rfl, rfl, rfl, rfl, rfl, rfl, rfl, rfl, rfl, rfl, rfl, rfl⟩, ⟨(G0_B (j := 7)).trans rfl, (G0_B (j := 9)).trans rfl, (G0_B (j := 10)).trans rfl, (G0_B (j := 11)).trans rfl, (G0_B (j := 12)).trans rfl, (G0_B (j := 13)).trans rfl, (G0_B (j := 14)).trans rfl, (G0_B (j := 15)).trans rfl⟩, Nat.zero_le _, Nat.zero_le _⟩, ?_⟩, ⟨(G0_B (j := 8)).trans rfl, (G0_B (j := 16)).trans rfl, (G0_B (j := 17)).trans rfl, (G0_B (j := 18)).trans rfl, (G0_B (j := 19)).trans rfl⟩, fun j hj => absurd hj (Nat.not_lt_zero j), Nat.zero_le _⟩
  exact ⟨rfl, fun v h => absurd h (Nat.not_lt_zero v), fun v h => absurd h (Nat.not_lt_zero v), fun v p h => absurd h (Nat.not_lt_zero v), fun v h => absurd h (Nat.not_lt_zero v), fun v w h => absurd h (Nat.not_lt_zero v), fun v h => absurd h (Nat.not_lt_zero v)⟩
theorem G0_INV : INV (G0 L xs) := ⟨2, [], [], zI, 0, 0, 0, -1, 0, zI, [], 0, zI, 0, [], [], 0, G0_KS, G0_RS, fun i hi => absurd hi (Nat.not_lt_zero i), ⟨Or.inl ⟨rfl, rfl, by decide, by decide⟩, Nat.zero_le _⟩, 0, Nat.zero_le _, LSi_0⟩
theorem G0_0 : (G0 L xs)[0]? = some (cS L xs) := (G0_A (by decide)).trans rfl
end BG

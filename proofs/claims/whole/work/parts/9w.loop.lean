/-! The law's loop, and the law. -/
def lwT (i : Nat) : Nat := ([192, 215, 268, 343, 406, 439, 472, 515, 590, 643, 696, 749, 802, 865, 908, 921, 934, 967, 1030, 1083, 1136, 1179, 1232, 1285, 1328, 1371, 1414, 1467, 1530, 1563, 1596, 1609, 1632, 1695, 1718, 1731] : List Nat).getD i 1744
def lwE : bo_E := (.tableswitch 1711 0 35 #[159, 182, 235, 310, 373, 406, 439, 482, 557, 610, 663, 716, 769, 832, 875, 888, 901, 934, 997, 1050, 1103, 1146, 1199, 1252, 1295, 1338, 1381, 1434, 1497, 1530, 1563, 1576, 1599, 1662, 1685, 1698], 192, 0, 0)
theorem lw_step {lv : bo_LV} {r : List Value} {G : bo_G} : ∀ i, i < 36 → bo_step mL_law 33 lwE lv (.int (nI i) :: r) G = some (lwT i, lv, r, G)
  | 0, _ => rfl
  | 1, _ => rfl
  | 2, _ => rfl
  | 3, _ => rfl
  | 4, _ => rfl
  | 5, _ => rfl
  | 6, _ => rfl
  | 7, _ => rfl
  | 8, _ => rfl
  | 9, _ => rfl
  | 10, _ => rfl
  | 11, _ => rfl
  | 12, _ => rfl
  | 13, _ => rfl
  | 14, _ => rfl
  | 15, _ => rfl
  | 16, _ => rfl
  | 17, _ => rfl
  | 18, _ => rfl
  | 19, _ => rfl
  | 20, _ => rfl
  | 21, _ => rfl
  | 22, _ => rfl
  | 23, _ => rfl
  | 24, _ => rfl
  | 25, _ => rfl
  | 26, _ => rfl
  | 27, _ => rfl
  | 28, _ => rfl
  | 29, _ => rfl
  | 30, _ => rfl
  | 31, _ => rfl
  | 32, _ => rfl
  | 33, _ => rfl
  | 34, _ => rfl
  | 35, _ => rfl
  | i + 36, h => absurd h (by omega)
theorem lw_def {lv : bo_LV} {r : List Value} {G : bo_G} {c : Int32} (h : ¬ (0 ≤ c.toInt ∧ c.toInt < 36)) : bo_step mL_law 33 lwE lv (.int c :: r) G = some (1744, lv, r, G) := by
  have e : bo_tsw 33 1711 0 35 #[159, 182, 235, 310, 373, 406, 439, 482, 557, 610, 663, 716, 769, 832, 875, 888, 901, 934, 997, 1050, 1103, 1146, 1199, 1252, 1295, 1338, 1381, 1434, 1497, 1530, 1563, 1576, 1599, 1662, 1685, 1698] c.toInt = 1744 := by
    unfold bo_tsw
    rw [if_pos (by omega)]
    rfl
  show (if 0 ≤ bo_tsw 33 1711 0 35 #[159, 182, 235, 310, 373, 406, 439, 482, 557, 610, 663, 716, 769, 832, 875, 888, 901, 934, 997, 1050, 1103, 1146, 1199, 1252, 1295, 1338, 1381, 1434, 1497, 1530, 1563, 1576, 1599, 1662, 1685, 1698] c.toInt ∧ (((35 : Int) - 0).toNat < 36) then some ((bo_tsw 33 1711 0 35 #[159, 182, 235, 310, 373, 406, 439, 482, 557, 610, 663, 716, 769, 832, 875, 888, 901, 934, 997, 1050, 1103, 1146, 1199, 1252, 1295, 1338, 1381, 1434, 1497, 1530, 1563, 1576, 1599, 1662, 1685, 1698] c.toInt).toNat, lv, r, G) else none) = _
  rw [e, if_pos (by decide)]
  rfl
theorem lw_sw {d : Nat} {lv : bo_LV} {r : List Value} {G : bo_G} {Q : Option Value → bo_G → Prop} {c : Int32} (k : ∀ i, i < 36 → Ex d mL_law (lwT i, lv, r, G) Q) (kd : Ex d mL_law (1744, lv, r, G) Q) : Ex d mL_law (33, lv, .int c :: r, G) Q := by
  by_cases h : 0 ≤ c.toInt ∧ c.toInt < 36
  · obtain ⟨e1, e2, -⟩ := nI_iof h.1
    have h1 : c.toNatClampNeg < 36 := by omega
    rw [e1]
    exact Ex.go (en := lwE) rfl (lw_step _ h1) (k _ h1)
  · exact Ex.go (en := lwE) rfl (lw_def h) kd
section LO
variable {L : Nat} {xs : Nat → Int32}
def lwQ (L : Nat) (xs : Nat → Int32) : Option Value → bo_G → Prop := fun v G => v = some (.int 1) ∧ INV G ∧ G[0]? = some (cS L xs)
theorem lw_loop (hL : L ≤ 3584) : ∀ (f n : Nat) (G : bo_G), L ≤ n + f → n ≤ L + 7 → INV G → G[0]? = some (cS L xs) → Ex 12 mL_law (18, [(0, .ref 0), (1, .ref 1), (2, .ref 364), (3, .int (nI n))], [], G) (lwQ L xs)
  | f, n, G, hf, hn, hI, h0 => by
    (repeat (first | refine Ex.go rfl rfl ?_ | refine Ex.gf rfl rfl (by assumption) (by rfl) (by first | rfl | assumption) ?_))
    refine Ex.als rfl h0 ?_
    (repeat (first | refine Ex.go rfl rfl ?_ | refine Ex.gf rfl rfl (by assumption) (by rfl) (by first | rfl | assumption) ?_))
    refine Ex.br (fun c1 => ?_) (fun c1 => ?_)
    · (repeat (first | refine Ex.go rfl rfl ?_ | refine Ex.gf rfl rfl (by assumption) (by rfl) (by first | rfl | assumption) ?_))
      refine Ex.retz rfl rfl rfl (Or.inr rfl) ?_
      exact ⟨rfl, hI, h0⟩
    have e1 : (nI L - 7).toInt = (L : Int) - 7 := z_sub (nI_toInt (by omega)) rfl (by omega)
    have e2 : (nI n).toInt = (n : Int) := nI_toInt (by omega)
    have hn7 : n + 7 ≤ L := by
      have c2 : ¬ (nI L - 7 < nI n) := c1
      rw [Int32.lt_iff_toInt_lt] at c2
      omega
    match f with
    | 0 => omega
    | f + 1 =>
    have kn : ∀ G', INV G' → G'[0]? = some (cS L xs) → Ex 12 mL_law (1744, [(0, .ref 0), (1, .ref 1), (2, .ref 364), (3, .int (nI n))], [], G') (lwQ L xs) := fun G' hI' h0' => by
      have ih := lw_loop hL f (n + 7) G' (by omega) (by omega) hI' h0'
      rw [show nI (n + 7) = nI n + Int32.ofInt 7 from (nI_add n 7).symm] at ih
      (repeat (first | exact ih | refine Ex.go rfl rfl ?_ | refine Ex.gf rfl rfl (by assumption) (by rfl) (by first | rfl | assumption) ?_))
    (repeat (first | refine Ex.go rfl rfl ?_ | refine Ex.gf rfl rfl (by assumption) (by rfl) (by first | rfl | assumption) ?_))
    refine Ex.ialsN rfl (j := n) rfl h0 (by omega) (by omega) ?_
    refine Ex.go rfl rfl ?_
    refine Ex.go rfl rfl ?_
    refine lw_sw (fun i hi => ?_) (kn G hI h0)
    match i, hi with
    | 0, _ => exact L_pass hI h0 hn7 hL kn
    | 1, _ => exact L_vessel hI h0 hn7 hL kn
    | 2, _ => exact L_part hI h0 hn7 hL kn
    | 3, _ => exact L_shape hI h0 hn7 hL kn
    | 4, _ => exact L_sheet hI h0 hn7 hL kn
    | 5, _ => exact L_entry hI h0 hn7 hL kn
    | 6, _ => exact L_measure hI h0 hn7 hL kn
    | 7, _ => exact L_patch hI h0 hn7 hL kn
    | 8, _ => exact L_plate hI h0 hn7 hL kn
    | 9, _ => exact L_plug hI h0 hn7 hL kn
    | 10, _ => exact L_valve hI h0 hn7 hL kn
    | 11, _ => exact L_set hI h0 hn7 hL kn
    | 12, _ => exact L_paper hI h0 hn7 hL kn
    | 13, _ => exact L_rule hI h0 hn7 hL kn
    | 14, _ => exact L_undo hI h0 hn7 hL kn
    | 15, _ => exact L_status hI h0 hn7 hL kn
    | 16, _ => exact L_count hI h0 hn7 hL kn
    | 17, _ => exact L_thick hI h0 hn7 hL kn
    | 18, _ => exact L_doubts hI h0 hn7 hL kn
    | 19, _ => exact L_bears hI h0 hn7 hL kn
    | 20, _ => exact L_weakest hI h0 hn7 hL kn
    | 21, _ => exact L_holds hI h0 hn7 hL kn
    | 22, _ => exact L_due hI h0 hn7 hL kn
    | 23, _ => exact L_why hI h0 hn7 hL kn
    | 24, _ => exact L_may hI h0 hn7 hL kn
    | 25, _ => exact L_until hI h0 hn7 hL kn
    | 26, _ => exact L_when hI h0 hn7 hL kn
    | 27, _ => exact L_check hI h0 hn7 hL kn
    | 28, _ => exact L_list hI h0 hn7 hL kn
    | 29, _ => exact L_listed hI h0 hn7 hL kn
    | 30, _ => exact L_image hI h0 hn7 hL kn
    | 31, _ => exact L_imageAt hI h0 hn7 hL kn
    | 32, _ => exact L_feed hI h0 hn7 hL kn
    | 33, _ => exact L_end hI h0 hn7 hL kn
    | 34, _ => exact L_again hI h0 hn7 hL kn
    | 35, _ => exact L_restore hI h0 hn7 hL kn
    | i + 36, h => exact absurd h (by omega)
theorem CP_1 : CP [cS L xs] := by
  intro i lim cap ys h
  cases i with
  | zero => cases h
  | succ i => cases h
theorem law_all (hL : L ≤ 3584) : bo_Law L xs := by
  refine Ex.caps CP_1 ?_
  have r := lw_loop (xs := xs) hL L 0 (G0 L xs) (by omega) (by omega) G0_INV G0_0
  have r2 := Ex.weak r (Q := fun v G => CP G → v = some (.int 1) ∧ bo_uC G ≤ 600000 ∧ bo_uS G ≤ 7302250) fun v G h hc => ⟨h.1, h.2.1.room hc h.2.2⟩
  (repeat (first | refine Ex.go rfl rfl ?_ | refine Ex.gf rfl rfl (by assumption) (by rfl) (by first | rfl | assumption) ?_))
  refine Ex.ci0 rfl rfl (by first | exact Or.inl rfl | exact Or.inr rfl) rfl (app_get (G := [cS L xs])) rfl (by decide) rfl ?_
  refine k_mainL (H := [cS L xs]) (u := 1) rfl ?_
  (repeat (first | refine Ex.go rfl rfl ?_ | refine Ex.gf rfl rfl (by assumption) (by rfl) (by first | rfl | assumption) ?_))
  refine Ex.ci0 rfl rfl (by first | exact Or.inl rfl | exact Or.inr rfl) rfl app_get rfl (by decide) rfl ?_
  have e : ([cS L xs] ++ mainL 1).length = 364 := by
    unfold mainL
    simp only [List.length_append, List.length_cons, List.length_nil, rolL_len, vwL_len, shtL_len, lisL_len]
  rw [e]
  refine k_mdlL e ?_
  (repeat (first | exact r2 | refine Ex.go rfl rfl ?_ | refine Ex.gf rfl rfl (by assumption) (by rfl) (by first | rfl | assumption) ?_))
end LO

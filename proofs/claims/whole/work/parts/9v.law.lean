/-! The law: both are called by the script, step by step. -/
theorem Ex.ialsN {d : Nat} {m : bo_M} {pc : Nat} {lv : bo_LV} {G : bo_G} {Q : Option Value → bo_G → Prop} {a nx tg kp n j : Nat} {i : Int32} {f : Nat → Int32} {r : List Value} (he : bo_cd m pc = some (.iaload, nx, tg, kp)) (hj : i = nI j) (hG : G[a]? = some (cS n f)) (hi : j < n) (hn : n < 2 ^ 31) (k1 : Ex d m (nx, lv, .int (f j) :: r, G) Q) : Ex d m (pc, lv, .int i :: .ref a :: r, G) Q := by
  subst hj
  refine Ex.ials he hG ⟨nI_pos' (by omega), by rw [nI_clamp (by omega)]; exact hi⟩ ?_
  rw [nI_clamp (by omega)]
  exact k1
theorem INV.main {G : bo_G} (h : INV G) : ∃ fs, G[1]? = some (cO 10 fs) := by
  obtain ⟨b, us, ws, lg, E, fx, st, sh, shs, gv, es, mn, ls, on, ks, ts, rs, K, -⟩ := h
  exact ⟨_, K.1.2.1⟩
section LA
variable {L n : Nat} {xs : Nat → Int32} {G : bo_G} {Q : Option Value → bo_G → Prop}
theorem L_pass (hI : INV G) (h0 : G[0]? = some (cS L xs)) (hn : n + 7 ≤ L) (hL : L ≤ 3584) (k : ∀ G', INV G' → G'[0]? = some (cS L xs) → Ex 12 mL_law (1744, [(0, .ref 0), (1, .ref 1), (2, .ref 364), (3, .int (nI n))], [], G') Q) : Ex 12 mL_law (192, [(0, .ref 0), (1, .ref 1), (2, .ref 364), (3, .int (nI n))], [], G) Q := by
  have r := P_pass (a1 := xs (n + 1)) G L xs hI h0
  obtain ⟨f1, g1⟩ := hI.main
  (repeat (first | refine Ex.go rfl rfl ?_ | refine Ex.gf rfl rfl (by assumption) (by rfl) (by first | rfl | assumption) ?_))
  refine Ex.ialsN rfl (j := n + 1) (nI_add n 1) h0 (by omega) (by omega) ?_
  (repeat (first | refine Ex.go rfl rfl ?_ | refine Ex.gf rfl rfl (by assumption) (by rfl) (by first | rfl | assumption) ?_))
  refine Ex.cv1 rfl rfl rfl g1 (by rfl) (by decide) rfl ?_
  refine Cx.weak r ?_
  rintro v G1 ⟨r1, rfl, h02, ⟨f2, g2⟩, q⟩
  (repeat (first | refine Ex.go rfl rfl ?_ | refine Ex.gf rfl rfl (by assumption) (by rfl) (by first | rfl | assumption) ?_))
  refine Ex.ialsN rfl (j := n + 1) (nI_add n 1) h02 (by omega) (by omega) ?_
  (repeat (first | refine Ex.go rfl rfl ?_ | refine Ex.gf rfl rfl (by assumption) (by rfl) (by first | rfl | assumption) ?_))
  refine Ex.cv1 rfl rfl rfl g2 (by rfl) (by decide) rfl ?_
  refine Cx.weak q ?_
  rintro v G2 ⟨rfl, h03, hI2⟩
  (repeat (first | refine Ex.go rfl rfl ?_ | refine Ex.gf rfl rfl (by assumption) (by rfl) (by first | rfl | assumption) ?_))
  refine Ex.br (P := r1 = r1) (fun _ => ?_) (fun c => absurd rfl c)
  exact k G2 hI2 h03
theorem L_vessel (hI : INV G) (h0 : G[0]? = some (cS L xs)) (hn : n + 7 ≤ L) (hL : L ≤ 3584) (k : ∀ G', INV G' → G'[0]? = some (cS L xs) → Ex 12 mL_law (1744, [(0, .ref 0), (1, .ref 1), (2, .ref 364), (3, .int (nI n))], [], G') Q) : Ex 12 mL_law (215, [(0, .ref 0), (1, .ref 1), (2, .ref 364), (3, .int (nI n))], [], G) Q := by
  have r := P_vessel (a1 := xs (n + 1)) (a2 := xs (n + 2)) (a3 := xs (n + 3)) (a4 := xs (n + 4)) G L xs hI h0
  obtain ⟨f1, g1⟩ := hI.main
  (repeat (first | refine Ex.go rfl rfl ?_ | refine Ex.gf rfl rfl (by assumption) (by rfl) (by first | rfl | assumption) ?_))
  refine Ex.ialsN rfl (j := n + 1) (nI_add n 1) h0 (by omega) (by omega) ?_
  (repeat (first | refine Ex.go rfl rfl ?_ | refine Ex.gf rfl rfl (by assumption) (by rfl) (by first | rfl | assumption) ?_))
  refine Ex.ialsN rfl (j := n + 2) (nI_add n 2) h0 (by omega) (by omega) ?_
  (repeat (first | refine Ex.go rfl rfl ?_ | refine Ex.gf rfl rfl (by assumption) (by rfl) (by first | rfl | assumption) ?_))
  refine Ex.ialsN rfl (j := n + 3) (nI_add n 3) h0 (by omega) (by omega) ?_
  (repeat (first | refine Ex.go rfl rfl ?_ | refine Ex.gf rfl rfl (by assumption) (by rfl) (by first | rfl | assumption) ?_))
  refine Ex.ialsN rfl (j := n + 4) (nI_add n 4) h0 (by omega) (by omega) ?_
  (repeat (first | refine Ex.go rfl rfl ?_ | refine Ex.gf rfl rfl (by assumption) (by rfl) (by first | rfl | assumption) ?_))
  refine Ex.cv4 rfl rfl rfl g1 (by rfl) (by decide) rfl ?_
  refine Cx.weak r ?_
  rintro v G1 ⟨r1, rfl, h02, ⟨f2, g2⟩, q⟩
  (repeat (first | refine Ex.go rfl rfl ?_ | refine Ex.gf rfl rfl (by assumption) (by rfl) (by first | rfl | assumption) ?_))
  refine Ex.ialsN rfl (j := n + 1) (nI_add n 1) h02 (by omega) (by omega) ?_
  (repeat (first | refine Ex.go rfl rfl ?_ | refine Ex.gf rfl rfl (by assumption) (by rfl) (by first | rfl | assumption) ?_))
  refine Ex.ialsN rfl (j := n + 2) (nI_add n 2) h02 (by omega) (by omega) ?_
  (repeat (first | refine Ex.go rfl rfl ?_ | refine Ex.gf rfl rfl (by assumption) (by rfl) (by first | rfl | assumption) ?_))
  refine Ex.ialsN rfl (j := n + 3) (nI_add n 3) h02 (by omega) (by omega) ?_
  (repeat (first | refine Ex.go rfl rfl ?_ | refine Ex.gf rfl rfl (by assumption) (by rfl) (by first | rfl | assumption) ?_))
  refine Ex.ialsN rfl (j := n + 4) (nI_add n 4) h02 (by omega) (by omega) ?_
  (repeat (first | refine Ex.go rfl rfl ?_ | refine Ex.gf rfl rfl (by assumption) (by rfl) (by first | rfl | assumption) ?_))
  refine Ex.cv4 rfl rfl rfl g2 (by rfl) (by decide) rfl ?_
  refine Cx.weak q ?_
  rintro v G2 ⟨rfl, h03, hI2⟩
  (repeat (first | refine Ex.go rfl rfl ?_ | refine Ex.gf rfl rfl (by assumption) (by rfl) (by first | rfl | assumption) ?_))
  refine Ex.br (P := r1 = r1) (fun _ => ?_) (fun c => absurd rfl c)
  exact k G2 hI2 h03
theorem L_part (hI : INV G) (h0 : G[0]? = some (cS L xs)) (hn : n + 7 ≤ L) (hL : L ≤ 3584) (k : ∀ G', INV G' → G'[0]? = some (cS L xs) → Ex 12 mL_law (1744, [(0, .ref 0), (1, .ref 1), (2, .ref 364), (3, .int (nI n))], [], G') Q) : Ex 12 mL_law (268, [(0, .ref 0), (1, .ref 1), (2, .ref 364), (3, .int (nI n))], [], G) Q := by
  have r := P_part (a1 := xs (n + 1)) (a2 := xs (n + 2)) (a3 := xs (n + 3)) (a4 := xs (n + 4)) (a5 := xs (n + 5)) (a6 := xs (n + 6)) G L xs hI h0
  obtain ⟨f1, g1⟩ := hI.main
  (repeat (first | refine Ex.go rfl rfl ?_ | refine Ex.gf rfl rfl (by assumption) (by rfl) (by first | rfl | assumption) ?_))
  refine Ex.ialsN rfl (j := n + 1) (nI_add n 1) h0 (by omega) (by omega) ?_
  (repeat (first | refine Ex.go rfl rfl ?_ | refine Ex.gf rfl rfl (by assumption) (by rfl) (by first | rfl | assumption) ?_))
  refine Ex.ialsN rfl (j := n + 2) (nI_add n 2) h0 (by omega) (by omega) ?_
  (repeat (first | refine Ex.go rfl rfl ?_ | refine Ex.gf rfl rfl (by assumption) (by rfl) (by first | rfl | assumption) ?_))
  refine Ex.ialsN rfl (j := n + 3) (nI_add n 3) h0 (by omega) (by omega) ?_
  (repeat (first | refine Ex.go rfl rfl ?_ | refine Ex.gf rfl rfl (by assumption) (by rfl) (by first | rfl | assumption) ?_))
  refine Ex.ialsN rfl (j := n + 4) (nI_add n 4) h0 (by omega) (by omega) ?_
  (repeat (first | refine Ex.go rfl rfl ?_ | refine Ex.gf rfl rfl (by assumption) (by rfl) (by first | rfl | assumption) ?_))
  refine Ex.ialsN rfl (j := n + 5) (nI_add n 5) h0 (by omega) (by omega) ?_
  (repeat (first | refine Ex.go rfl rfl ?_ | refine Ex.gf rfl rfl (by assumption) (by rfl) (by first | rfl | assumption) ?_))
  refine Ex.ialsN rfl (j := n + 6) (nI_add n 6) h0 (by omega) (by omega) ?_
  (repeat (first | refine Ex.go rfl rfl ?_ | refine Ex.gf rfl rfl (by assumption) (by rfl) (by first | rfl | assumption) ?_))
  refine Ex.cv6 rfl rfl rfl g1 (by rfl) (by decide) rfl ?_
  refine Cx.weak r ?_
  rintro v G1 ⟨r1, rfl, h02, ⟨f2, g2⟩, q⟩
  (repeat (first | refine Ex.go rfl rfl ?_ | refine Ex.gf rfl rfl (by assumption) (by rfl) (by first | rfl | assumption) ?_))
  refine Ex.ialsN rfl (j := n + 1) (nI_add n 1) h02 (by omega) (by omega) ?_
  (repeat (first | refine Ex.go rfl rfl ?_ | refine Ex.gf rfl rfl (by assumption) (by rfl) (by first | rfl | assumption) ?_))
  refine Ex.ialsN rfl (j := n + 2) (nI_add n 2) h02 (by omega) (by omega) ?_
  (repeat (first | refine Ex.go rfl rfl ?_ | refine Ex.gf rfl rfl (by assumption) (by rfl) (by first | rfl | assumption) ?_))
  refine Ex.ialsN rfl (j := n + 3) (nI_add n 3) h02 (by omega) (by omega) ?_
  (repeat (first | refine Ex.go rfl rfl ?_ | refine Ex.gf rfl rfl (by assumption) (by rfl) (by first | rfl | assumption) ?_))
  refine Ex.ialsN rfl (j := n + 4) (nI_add n 4) h02 (by omega) (by omega) ?_
  (repeat (first | refine Ex.go rfl rfl ?_ | refine Ex.gf rfl rfl (by assumption) (by rfl) (by first | rfl | assumption) ?_))
  refine Ex.ialsN rfl (j := n + 5) (nI_add n 5) h02 (by omega) (by omega) ?_
  (repeat (first | refine Ex.go rfl rfl ?_ | refine Ex.gf rfl rfl (by assumption) (by rfl) (by first | rfl | assumption) ?_))
  refine Ex.ialsN rfl (j := n + 6) (nI_add n 6) h02 (by omega) (by omega) ?_
  (repeat (first | refine Ex.go rfl rfl ?_ | refine Ex.gf rfl rfl (by assumption) (by rfl) (by first | rfl | assumption) ?_))
  refine Ex.cv6 rfl rfl rfl g2 (by rfl) (by decide) rfl ?_
  refine Cx.weak q ?_
  rintro v G2 ⟨rfl, h03, hI2⟩
  (repeat (first | refine Ex.go rfl rfl ?_ | refine Ex.gf rfl rfl (by assumption) (by rfl) (by first | rfl | assumption) ?_))
  refine Ex.br (P := r1 = r1) (fun _ => ?_) (fun c => absurd rfl c)
  exact k G2 hI2 h03
theorem L_shape (hI : INV G) (h0 : G[0]? = some (cS L xs)) (hn : n + 7 ≤ L) (hL : L ≤ 3584) (k : ∀ G', INV G' → G'[0]? = some (cS L xs) → Ex 12 mL_law (1744, [(0, .ref 0), (1, .ref 1), (2, .ref 364), (3, .int (nI n))], [], G') Q) : Ex 12 mL_law (343, [(0, .ref 0), (1, .ref 1), (2, .ref 364), (3, .int (nI n))], [], G) Q := by
  have r := P_shape (a1 := xs (n + 1)) (a2 := xs (n + 2)) (a3 := xs (n + 3)) (a4 := xs (n + 4)) (a5 := xs (n + 5)) G L xs hI h0
  obtain ⟨f1, g1⟩ := hI.main
  (repeat (first | refine Ex.go rfl rfl ?_ | refine Ex.gf rfl rfl (by assumption) (by rfl) (by first | rfl | assumption) ?_))
  refine Ex.ialsN rfl (j := n + 1) (nI_add n 1) h0 (by omega) (by omega) ?_
  (repeat (first | refine Ex.go rfl rfl ?_ | refine Ex.gf rfl rfl (by assumption) (by rfl) (by first | rfl | assumption) ?_))
  refine Ex.ialsN rfl (j := n + 2) (nI_add n 2) h0 (by omega) (by omega) ?_
  (repeat (first | refine Ex.go rfl rfl ?_ | refine Ex.gf rfl rfl (by assumption) (by rfl) (by first | rfl | assumption) ?_))
  refine Ex.ialsN rfl (j := n + 3) (nI_add n 3) h0 (by omega) (by omega) ?_
  (repeat (first | refine Ex.go rfl rfl ?_ | refine Ex.gf rfl rfl (by assumption) (by rfl) (by first | rfl | assumption) ?_))
  refine Ex.ialsN rfl (j := n + 4) (nI_add n 4) h0 (by omega) (by omega) ?_
  (repeat (first | refine Ex.go rfl rfl ?_ | refine Ex.gf rfl rfl (by assumption) (by rfl) (by first | rfl | assumption) ?_))
  refine Ex.ialsN rfl (j := n + 5) (nI_add n 5) h0 (by omega) (by omega) ?_
  (repeat (first | refine Ex.go rfl rfl ?_ | refine Ex.gf rfl rfl (by assumption) (by rfl) (by first | rfl | assumption) ?_))
  refine Ex.cv5 rfl rfl rfl g1 (by rfl) (by decide) rfl ?_
  refine Cx.weak r ?_
  rintro v G1 ⟨r1, rfl, h02, ⟨f2, g2⟩, q⟩
  (repeat (first | refine Ex.go rfl rfl ?_ | refine Ex.gf rfl rfl (by assumption) (by rfl) (by first | rfl | assumption) ?_))
  refine Ex.ialsN rfl (j := n + 1) (nI_add n 1) h02 (by omega) (by omega) ?_
  (repeat (first | refine Ex.go rfl rfl ?_ | refine Ex.gf rfl rfl (by assumption) (by rfl) (by first | rfl | assumption) ?_))
  refine Ex.ialsN rfl (j := n + 2) (nI_add n 2) h02 (by omega) (by omega) ?_
  (repeat (first | refine Ex.go rfl rfl ?_ | refine Ex.gf rfl rfl (by assumption) (by rfl) (by first | rfl | assumption) ?_))
  refine Ex.ialsN rfl (j := n + 3) (nI_add n 3) h02 (by omega) (by omega) ?_
  (repeat (first | refine Ex.go rfl rfl ?_ | refine Ex.gf rfl rfl (by assumption) (by rfl) (by first | rfl | assumption) ?_))
  refine Ex.ialsN rfl (j := n + 4) (nI_add n 4) h02 (by omega) (by omega) ?_
  (repeat (first | refine Ex.go rfl rfl ?_ | refine Ex.gf rfl rfl (by assumption) (by rfl) (by first | rfl | assumption) ?_))
  refine Ex.ialsN rfl (j := n + 5) (nI_add n 5) h02 (by omega) (by omega) ?_
  (repeat (first | refine Ex.go rfl rfl ?_ | refine Ex.gf rfl rfl (by assumption) (by rfl) (by first | rfl | assumption) ?_))
  refine Ex.cv5 rfl rfl rfl g2 (by rfl) (by decide) rfl ?_
  refine Cx.weak q ?_
  rintro v G2 ⟨rfl, h03, hI2⟩
  (repeat (first | refine Ex.go rfl rfl ?_ | refine Ex.gf rfl rfl (by assumption) (by rfl) (by first | rfl | assumption) ?_))
  refine Ex.br (P := r1 = r1) (fun _ => ?_) (fun c => absurd rfl c)
  exact k G2 hI2 h03
theorem L_sheet (hI : INV G) (h0 : G[0]? = some (cS L xs)) (hn : n + 7 ≤ L) (hL : L ≤ 3584) (k : ∀ G', INV G' → G'[0]? = some (cS L xs) → Ex 12 mL_law (1744, [(0, .ref 0), (1, .ref 1), (2, .ref 364), (3, .int (nI n))], [], G') Q) : Ex 12 mL_law (406, [(0, .ref 0), (1, .ref 1), (2, .ref 364), (3, .int (nI n))], [], G) Q := by
  have r := P_sheet (a1 := xs (n + 1)) (a2 := xs (n + 2)) G L xs hI h0
  obtain ⟨f1, g1⟩ := hI.main
  (repeat (first | refine Ex.go rfl rfl ?_ | refine Ex.gf rfl rfl (by assumption) (by rfl) (by first | rfl | assumption) ?_))
  refine Ex.ialsN rfl (j := n + 1) (nI_add n 1) h0 (by omega) (by omega) ?_
  (repeat (first | refine Ex.go rfl rfl ?_ | refine Ex.gf rfl rfl (by assumption) (by rfl) (by first | rfl | assumption) ?_))
  refine Ex.ialsN rfl (j := n + 2) (nI_add n 2) h0 (by omega) (by omega) ?_
  (repeat (first | refine Ex.go rfl rfl ?_ | refine Ex.gf rfl rfl (by assumption) (by rfl) (by first | rfl | assumption) ?_))
  refine Ex.cv2 rfl rfl rfl g1 (by rfl) (by decide) rfl ?_
  refine Cx.weak r ?_
  rintro v G1 ⟨r1, rfl, h02, ⟨f2, g2⟩, q⟩
  (repeat (first | refine Ex.go rfl rfl ?_ | refine Ex.gf rfl rfl (by assumption) (by rfl) (by first | rfl | assumption) ?_))
  refine Ex.ialsN rfl (j := n + 1) (nI_add n 1) h02 (by omega) (by omega) ?_
  (repeat (first | refine Ex.go rfl rfl ?_ | refine Ex.gf rfl rfl (by assumption) (by rfl) (by first | rfl | assumption) ?_))
  refine Ex.ialsN rfl (j := n + 2) (nI_add n 2) h02 (by omega) (by omega) ?_
  (repeat (first | refine Ex.go rfl rfl ?_ | refine Ex.gf rfl rfl (by assumption) (by rfl) (by first | rfl | assumption) ?_))
  refine Ex.cv2 rfl rfl rfl g2 (by rfl) (by decide) rfl ?_
  refine Cx.weak q ?_
  rintro v G2 ⟨rfl, h03, hI2⟩
  (repeat (first | refine Ex.go rfl rfl ?_ | refine Ex.gf rfl rfl (by assumption) (by rfl) (by first | rfl | assumption) ?_))
  refine Ex.br (P := r1 = r1) (fun _ => ?_) (fun c => absurd rfl c)
  exact k G2 hI2 h03
theorem L_entry (hI : INV G) (h0 : G[0]? = some (cS L xs)) (hn : n + 7 ≤ L) (hL : L ≤ 3584) (k : ∀ G', INV G' → G'[0]? = some (cS L xs) → Ex 12 mL_law (1744, [(0, .ref 0), (1, .ref 1), (2, .ref 364), (3, .int (nI n))], [], G') Q) : Ex 12 mL_law (439, [(0, .ref 0), (1, .ref 1), (2, .ref 364), (3, .int (nI n))], [], G) Q := by
  have r := P_entry (a1 := xs (n + 1)) (a2 := xs (n + 2)) G L xs hI h0
  obtain ⟨f1, g1⟩ := hI.main
  (repeat (first | refine Ex.go rfl rfl ?_ | refine Ex.gf rfl rfl (by assumption) (by rfl) (by first | rfl | assumption) ?_))
  refine Ex.ialsN rfl (j := n + 1) (nI_add n 1) h0 (by omega) (by omega) ?_
  (repeat (first | refine Ex.go rfl rfl ?_ | refine Ex.gf rfl rfl (by assumption) (by rfl) (by first | rfl | assumption) ?_))
  refine Ex.ialsN rfl (j := n + 2) (nI_add n 2) h0 (by omega) (by omega) ?_
  (repeat (first | refine Ex.go rfl rfl ?_ | refine Ex.gf rfl rfl (by assumption) (by rfl) (by first | rfl | assumption) ?_))
  refine Ex.cv2 rfl rfl rfl g1 (by rfl) (by decide) rfl ?_
  refine Cx.weak r ?_
  rintro v G1 ⟨r1, rfl, h02, ⟨f2, g2⟩, q⟩
  (repeat (first | refine Ex.go rfl rfl ?_ | refine Ex.gf rfl rfl (by assumption) (by rfl) (by first | rfl | assumption) ?_))
  refine Ex.ialsN rfl (j := n + 1) (nI_add n 1) h02 (by omega) (by omega) ?_
  (repeat (first | refine Ex.go rfl rfl ?_ | refine Ex.gf rfl rfl (by assumption) (by rfl) (by first | rfl | assumption) ?_))
  refine Ex.ialsN rfl (j := n + 2) (nI_add n 2) h02 (by omega) (by omega) ?_
  (repeat (first | refine Ex.go rfl rfl ?_ | refine Ex.gf rfl rfl (by assumption) (by rfl) (by first | rfl | assumption) ?_))
  refine Ex.cv2 rfl rfl rfl g2 (by rfl) (by decide) rfl ?_
  refine Cx.weak q ?_
  rintro v G2 ⟨rfl, h03, hI2⟩
  (repeat (first | refine Ex.go rfl rfl ?_ | refine Ex.gf rfl rfl (by assumption) (by rfl) (by first | rfl | assumption) ?_))
  refine Ex.br (P := r1 = r1) (fun _ => ?_) (fun c => absurd rfl c)
  exact k G2 hI2 h03
theorem L_measure (hI : INV G) (h0 : G[0]? = some (cS L xs)) (hn : n + 7 ≤ L) (hL : L ≤ 3584) (k : ∀ G', INV G' → G'[0]? = some (cS L xs) → Ex 12 mL_law (1744, [(0, .ref 0), (1, .ref 1), (2, .ref 364), (3, .int (nI n))], [], G') Q) : Ex 12 mL_law (472, [(0, .ref 0), (1, .ref 1), (2, .ref 364), (3, .int (nI n))], [], G) Q := by
  have r := P_measure (a1 := xs (n + 1)) (a2 := xs (n + 2)) (a3 := xs (n + 3)) G L xs hI h0
  obtain ⟨f1, g1⟩ := hI.main
  (repeat (first | refine Ex.go rfl rfl ?_ | refine Ex.gf rfl rfl (by assumption) (by rfl) (by first | rfl | assumption) ?_))
  refine Ex.ialsN rfl (j := n + 1) (nI_add n 1) h0 (by omega) (by omega) ?_
  (repeat (first | refine Ex.go rfl rfl ?_ | refine Ex.gf rfl rfl (by assumption) (by rfl) (by first | rfl | assumption) ?_))
  refine Ex.ialsN rfl (j := n + 2) (nI_add n 2) h0 (by omega) (by omega) ?_
  (repeat (first | refine Ex.go rfl rfl ?_ | refine Ex.gf rfl rfl (by assumption) (by rfl) (by first | rfl | assumption) ?_))
  refine Ex.ialsN rfl (j := n + 3) (nI_add n 3) h0 (by omega) (by omega) ?_
  (repeat (first | refine Ex.go rfl rfl ?_ | refine Ex.gf rfl rfl (by assumption) (by rfl) (by first | rfl | assumption) ?_))
  refine Ex.cv3 rfl rfl rfl g1 (by rfl) (by decide) rfl ?_
  refine Cx.weak r ?_
  rintro v G1 ⟨r1, rfl, h02, ⟨f2, g2⟩, q⟩
  (repeat (first | refine Ex.go rfl rfl ?_ | refine Ex.gf rfl rfl (by assumption) (by rfl) (by first | rfl | assumption) ?_))
  refine Ex.ialsN rfl (j := n + 1) (nI_add n 1) h02 (by omega) (by omega) ?_
  (repeat (first | refine Ex.go rfl rfl ?_ | refine Ex.gf rfl rfl (by assumption) (by rfl) (by first | rfl | assumption) ?_))
  refine Ex.ialsN rfl (j := n + 2) (nI_add n 2) h02 (by omega) (by omega) ?_
  (repeat (first | refine Ex.go rfl rfl ?_ | refine Ex.gf rfl rfl (by assumption) (by rfl) (by first | rfl | assumption) ?_))
  refine Ex.ialsN rfl (j := n + 3) (nI_add n 3) h02 (by omega) (by omega) ?_
  (repeat (first | refine Ex.go rfl rfl ?_ | refine Ex.gf rfl rfl (by assumption) (by rfl) (by first | rfl | assumption) ?_))
  refine Ex.cv3 rfl rfl rfl g2 (by rfl) (by decide) rfl ?_
  refine Cx.weak q ?_
  rintro v G2 ⟨rfl, h03, hI2⟩
  (repeat (first | refine Ex.go rfl rfl ?_ | refine Ex.gf rfl rfl (by assumption) (by rfl) (by first | rfl | assumption) ?_))
  refine Ex.br (P := r1 = r1) (fun _ => ?_) (fun c => absurd rfl c)
  exact k G2 hI2 h03
theorem L_patch (hI : INV G) (h0 : G[0]? = some (cS L xs)) (hn : n + 7 ≤ L) (hL : L ≤ 3584) (k : ∀ G', INV G' → G'[0]? = some (cS L xs) → Ex 12 mL_law (1744, [(0, .ref 0), (1, .ref 1), (2, .ref 364), (3, .int (nI n))], [], G') Q) : Ex 12 mL_law (515, [(0, .ref 0), (1, .ref 1), (2, .ref 364), (3, .int (nI n))], [], G) Q := by
  have r := P_patch (a1 := xs (n + 1)) (a2 := xs (n + 2)) (a3 := xs (n + 3)) (a4 := xs (n + 4)) (a5 := xs (n + 5)) (a6 := xs (n + 6)) G L xs hI h0
  obtain ⟨f1, g1⟩ := hI.main
  (repeat (first | refine Ex.go rfl rfl ?_ | refine Ex.gf rfl rfl (by assumption) (by rfl) (by first | rfl | assumption) ?_))
  refine Ex.ialsN rfl (j := n + 1) (nI_add n 1) h0 (by omega) (by omega) ?_
  (repeat (first | refine Ex.go rfl rfl ?_ | refine Ex.gf rfl rfl (by assumption) (by rfl) (by first | rfl | assumption) ?_))
  refine Ex.ialsN rfl (j := n + 2) (nI_add n 2) h0 (by omega) (by omega) ?_
  (repeat (first | refine Ex.go rfl rfl ?_ | refine Ex.gf rfl rfl (by assumption) (by rfl) (by first | rfl | assumption) ?_))
  refine Ex.ialsN rfl (j := n + 3) (nI_add n 3) h0 (by omega) (by omega) ?_
  (repeat (first | refine Ex.go rfl rfl ?_ | refine Ex.gf rfl rfl (by assumption) (by rfl) (by first | rfl | assumption) ?_))
  refine Ex.ialsN rfl (j := n + 4) (nI_add n 4) h0 (by omega) (by omega) ?_
  (repeat (first | refine Ex.go rfl rfl ?_ | refine Ex.gf rfl rfl (by assumption) (by rfl) (by first | rfl | assumption) ?_))
  refine Ex.ialsN rfl (j := n + 5) (nI_add n 5) h0 (by omega) (by omega) ?_
  (repeat (first | refine Ex.go rfl rfl ?_ | refine Ex.gf rfl rfl (by assumption) (by rfl) (by first | rfl | assumption) ?_))
  refine Ex.ialsN rfl (j := n + 6) (nI_add n 6) h0 (by omega) (by omega) ?_
  (repeat (first | refine Ex.go rfl rfl ?_ | refine Ex.gf rfl rfl (by assumption) (by rfl) (by first | rfl | assumption) ?_))
  refine Ex.cv6 rfl rfl rfl g1 (by rfl) (by decide) rfl ?_
  refine Cx.weak r ?_
  rintro v G1 ⟨r1, rfl, h02, ⟨f2, g2⟩, q⟩
  (repeat (first | refine Ex.go rfl rfl ?_ | refine Ex.gf rfl rfl (by assumption) (by rfl) (by first | rfl | assumption) ?_))
  refine Ex.ialsN rfl (j := n + 1) (nI_add n 1) h02 (by omega) (by omega) ?_
  (repeat (first | refine Ex.go rfl rfl ?_ | refine Ex.gf rfl rfl (by assumption) (by rfl) (by first | rfl | assumption) ?_))
  refine Ex.ialsN rfl (j := n + 2) (nI_add n 2) h02 (by omega) (by omega) ?_
  (repeat (first | refine Ex.go rfl rfl ?_ | refine Ex.gf rfl rfl (by assumption) (by rfl) (by first | rfl | assumption) ?_))
  refine Ex.ialsN rfl (j := n + 3) (nI_add n 3) h02 (by omega) (by omega) ?_
  (repeat (first | refine Ex.go rfl rfl ?_ | refine Ex.gf rfl rfl (by assumption) (by rfl) (by first | rfl | assumption) ?_))
  refine Ex.ialsN rfl (j := n + 4) (nI_add n 4) h02 (by omega) (by omega) ?_
  (repeat (first | refine Ex.go rfl rfl ?_ | refine Ex.gf rfl rfl (by assumption) (by rfl) (by first | rfl | assumption) ?_))
  refine Ex.ialsN rfl (j := n + 5) (nI_add n 5) h02 (by omega) (by omega) ?_
  (repeat (first | refine Ex.go rfl rfl ?_ | refine Ex.gf rfl rfl (by assumption) (by rfl) (by first | rfl | assumption) ?_))
  refine Ex.ialsN rfl (j := n + 6) (nI_add n 6) h02 (by omega) (by omega) ?_
  (repeat (first | refine Ex.go rfl rfl ?_ | refine Ex.gf rfl rfl (by assumption) (by rfl) (by first | rfl | assumption) ?_))
  refine Ex.cv6 rfl rfl rfl g2 (by rfl) (by decide) rfl ?_
  refine Cx.weak q ?_
  rintro v G2 ⟨rfl, h03, hI2⟩
  (repeat (first | refine Ex.go rfl rfl ?_ | refine Ex.gf rfl rfl (by assumption) (by rfl) (by first | rfl | assumption) ?_))
  refine Ex.br (P := r1 = r1) (fun _ => ?_) (fun c => absurd rfl c)
  exact k G2 hI2 h03
theorem L_plate (hI : INV G) (h0 : G[0]? = some (cS L xs)) (hn : n + 7 ≤ L) (hL : L ≤ 3584) (k : ∀ G', INV G' → G'[0]? = some (cS L xs) → Ex 12 mL_law (1744, [(0, .ref 0), (1, .ref 1), (2, .ref 364), (3, .int (nI n))], [], G') Q) : Ex 12 mL_law (590, [(0, .ref 0), (1, .ref 1), (2, .ref 364), (3, .int (nI n))], [], G) Q := by
  have r := P_plate (a1 := xs (n + 1)) (a2 := xs (n + 2)) (a3 := xs (n + 3)) (a4 := xs (n + 4)) G L xs hI h0
  obtain ⟨f1, g1⟩ := hI.main
  (repeat (first | refine Ex.go rfl rfl ?_ | refine Ex.gf rfl rfl (by assumption) (by rfl) (by first | rfl | assumption) ?_))
  refine Ex.ialsN rfl (j := n + 1) (nI_add n 1) h0 (by omega) (by omega) ?_
  (repeat (first | refine Ex.go rfl rfl ?_ | refine Ex.gf rfl rfl (by assumption) (by rfl) (by first | rfl | assumption) ?_))
  refine Ex.ialsN rfl (j := n + 2) (nI_add n 2) h0 (by omega) (by omega) ?_
  (repeat (first | refine Ex.go rfl rfl ?_ | refine Ex.gf rfl rfl (by assumption) (by rfl) (by first | rfl | assumption) ?_))
  refine Ex.ialsN rfl (j := n + 3) (nI_add n 3) h0 (by omega) (by omega) ?_
  (repeat (first | refine Ex.go rfl rfl ?_ | refine Ex.gf rfl rfl (by assumption) (by rfl) (by first | rfl | assumption) ?_))
  refine Ex.ialsN rfl (j := n + 4) (nI_add n 4) h0 (by omega) (by omega) ?_
  (repeat (first | refine Ex.go rfl rfl ?_ | refine Ex.gf rfl rfl (by assumption) (by rfl) (by first | rfl | assumption) ?_))
  refine Ex.cv4 rfl rfl rfl g1 (by rfl) (by decide) rfl ?_
  refine Cx.weak r ?_
  rintro v G1 ⟨r1, rfl, h02, ⟨f2, g2⟩, q⟩
  (repeat (first | refine Ex.go rfl rfl ?_ | refine Ex.gf rfl rfl (by assumption) (by rfl) (by first | rfl | assumption) ?_))
  refine Ex.ialsN rfl (j := n + 1) (nI_add n 1) h02 (by omega) (by omega) ?_
  (repeat (first | refine Ex.go rfl rfl ?_ | refine Ex.gf rfl rfl (by assumption) (by rfl) (by first | rfl | assumption) ?_))
  refine Ex.ialsN rfl (j := n + 2) (nI_add n 2) h02 (by omega) (by omega) ?_
  (repeat (first | refine Ex.go rfl rfl ?_ | refine Ex.gf rfl rfl (by assumption) (by rfl) (by first | rfl | assumption) ?_))
  refine Ex.ialsN rfl (j := n + 3) (nI_add n 3) h02 (by omega) (by omega) ?_
  (repeat (first | refine Ex.go rfl rfl ?_ | refine Ex.gf rfl rfl (by assumption) (by rfl) (by first | rfl | assumption) ?_))
  refine Ex.ialsN rfl (j := n + 4) (nI_add n 4) h02 (by omega) (by omega) ?_
  (repeat (first | refine Ex.go rfl rfl ?_ | refine Ex.gf rfl rfl (by assumption) (by rfl) (by first | rfl | assumption) ?_))
  refine Ex.cv4 rfl rfl rfl g2 (by rfl) (by decide) rfl ?_
  refine Cx.weak q ?_
  rintro v G2 ⟨rfl, h03, hI2⟩
  (repeat (first | refine Ex.go rfl rfl ?_ | refine Ex.gf rfl rfl (by assumption) (by rfl) (by first | rfl | assumption) ?_))
  refine Ex.br (P := r1 = r1) (fun _ => ?_) (fun c => absurd rfl c)
  exact k G2 hI2 h03
theorem L_plug (hI : INV G) (h0 : G[0]? = some (cS L xs)) (hn : n + 7 ≤ L) (hL : L ≤ 3584) (k : ∀ G', INV G' → G'[0]? = some (cS L xs) → Ex 12 mL_law (1744, [(0, .ref 0), (1, .ref 1), (2, .ref 364), (3, .int (nI n))], [], G') Q) : Ex 12 mL_law (643, [(0, .ref 0), (1, .ref 1), (2, .ref 364), (3, .int (nI n))], [], G) Q := by
  have r := P_plug (a1 := xs (n + 1)) (a2 := xs (n + 2)) (a3 := xs (n + 3)) (a4 := xs (n + 4)) G L xs hI h0
  obtain ⟨f1, g1⟩ := hI.main
  (repeat (first | refine Ex.go rfl rfl ?_ | refine Ex.gf rfl rfl (by assumption) (by rfl) (by first | rfl | assumption) ?_))
  refine Ex.ialsN rfl (j := n + 1) (nI_add n 1) h0 (by omega) (by omega) ?_
  (repeat (first | refine Ex.go rfl rfl ?_ | refine Ex.gf rfl rfl (by assumption) (by rfl) (by first | rfl | assumption) ?_))
  refine Ex.ialsN rfl (j := n + 2) (nI_add n 2) h0 (by omega) (by omega) ?_
  (repeat (first | refine Ex.go rfl rfl ?_ | refine Ex.gf rfl rfl (by assumption) (by rfl) (by first | rfl | assumption) ?_))
  refine Ex.ialsN rfl (j := n + 3) (nI_add n 3) h0 (by omega) (by omega) ?_
  (repeat (first | refine Ex.go rfl rfl ?_ | refine Ex.gf rfl rfl (by assumption) (by rfl) (by first | rfl | assumption) ?_))
  refine Ex.ialsN rfl (j := n + 4) (nI_add n 4) h0 (by omega) (by omega) ?_
  (repeat (first | refine Ex.go rfl rfl ?_ | refine Ex.gf rfl rfl (by assumption) (by rfl) (by first | rfl | assumption) ?_))
  refine Ex.cv4 rfl rfl rfl g1 (by rfl) (by decide) rfl ?_
  refine Cx.weak r ?_
  rintro v G1 ⟨r1, rfl, h02, ⟨f2, g2⟩, q⟩
  (repeat (first | refine Ex.go rfl rfl ?_ | refine Ex.gf rfl rfl (by assumption) (by rfl) (by first | rfl | assumption) ?_))
  refine Ex.ialsN rfl (j := n + 1) (nI_add n 1) h02 (by omega) (by omega) ?_
  (repeat (first | refine Ex.go rfl rfl ?_ | refine Ex.gf rfl rfl (by assumption) (by rfl) (by first | rfl | assumption) ?_))
  refine Ex.ialsN rfl (j := n + 2) (nI_add n 2) h02 (by omega) (by omega) ?_
  (repeat (first | refine Ex.go rfl rfl ?_ | refine Ex.gf rfl rfl (by assumption) (by rfl) (by first | rfl | assumption) ?_))
  refine Ex.ialsN rfl (j := n + 3) (nI_add n 3) h02 (by omega) (by omega) ?_
  (repeat (first | refine Ex.go rfl rfl ?_ | refine Ex.gf rfl rfl (by assumption) (by rfl) (by first | rfl | assumption) ?_))
  refine Ex.ialsN rfl (j := n + 4) (nI_add n 4) h02 (by omega) (by omega) ?_
  (repeat (first | refine Ex.go rfl rfl ?_ | refine Ex.gf rfl rfl (by assumption) (by rfl) (by first | rfl | assumption) ?_))
  refine Ex.cv4 rfl rfl rfl g2 (by rfl) (by decide) rfl ?_
  refine Cx.weak q ?_
  rintro v G2 ⟨rfl, h03, hI2⟩
  (repeat (first | refine Ex.go rfl rfl ?_ | refine Ex.gf rfl rfl (by assumption) (by rfl) (by first | rfl | assumption) ?_))
  refine Ex.br (P := r1 = r1) (fun _ => ?_) (fun c => absurd rfl c)
  exact k G2 hI2 h03
theorem L_valve (hI : INV G) (h0 : G[0]? = some (cS L xs)) (hn : n + 7 ≤ L) (hL : L ≤ 3584) (k : ∀ G', INV G' → G'[0]? = some (cS L xs) → Ex 12 mL_law (1744, [(0, .ref 0), (1, .ref 1), (2, .ref 364), (3, .int (nI n))], [], G') Q) : Ex 12 mL_law (696, [(0, .ref 0), (1, .ref 1), (2, .ref 364), (3, .int (nI n))], [], G) Q := by
  have r := P_valve (a1 := xs (n + 1)) (a2 := xs (n + 2)) (a3 := xs (n + 3)) (a4 := xs (n + 4)) G L xs hI h0
  obtain ⟨f1, g1⟩ := hI.main
  (repeat (first | refine Ex.go rfl rfl ?_ | refine Ex.gf rfl rfl (by assumption) (by rfl) (by first | rfl | assumption) ?_))
  refine Ex.ialsN rfl (j := n + 1) (nI_add n 1) h0 (by omega) (by omega) ?_
  (repeat (first | refine Ex.go rfl rfl ?_ | refine Ex.gf rfl rfl (by assumption) (by rfl) (by first | rfl | assumption) ?_))
  refine Ex.ialsN rfl (j := n + 2) (nI_add n 2) h0 (by omega) (by omega) ?_
  (repeat (first | refine Ex.go rfl rfl ?_ | refine Ex.gf rfl rfl (by assumption) (by rfl) (by first | rfl | assumption) ?_))
  refine Ex.ialsN rfl (j := n + 3) (nI_add n 3) h0 (by omega) (by omega) ?_
  (repeat (first | refine Ex.go rfl rfl ?_ | refine Ex.gf rfl rfl (by assumption) (by rfl) (by first | rfl | assumption) ?_))
  refine Ex.ialsN rfl (j := n + 4) (nI_add n 4) h0 (by omega) (by omega) ?_
  (repeat (first | refine Ex.go rfl rfl ?_ | refine Ex.gf rfl rfl (by assumption) (by rfl) (by first | rfl | assumption) ?_))
  refine Ex.cv4 rfl rfl rfl g1 (by rfl) (by decide) rfl ?_
  refine Cx.weak r ?_
  rintro v G1 ⟨r1, rfl, h02, ⟨f2, g2⟩, q⟩
  (repeat (first | refine Ex.go rfl rfl ?_ | refine Ex.gf rfl rfl (by assumption) (by rfl) (by first | rfl | assumption) ?_))
  refine Ex.ialsN rfl (j := n + 1) (nI_add n 1) h02 (by omega) (by omega) ?_
  (repeat (first | refine Ex.go rfl rfl ?_ | refine Ex.gf rfl rfl (by assumption) (by rfl) (by first | rfl | assumption) ?_))
  refine Ex.ialsN rfl (j := n + 2) (nI_add n 2) h02 (by omega) (by omega) ?_
  (repeat (first | refine Ex.go rfl rfl ?_ | refine Ex.gf rfl rfl (by assumption) (by rfl) (by first | rfl | assumption) ?_))
  refine Ex.ialsN rfl (j := n + 3) (nI_add n 3) h02 (by omega) (by omega) ?_
  (repeat (first | refine Ex.go rfl rfl ?_ | refine Ex.gf rfl rfl (by assumption) (by rfl) (by first | rfl | assumption) ?_))
  refine Ex.ialsN rfl (j := n + 4) (nI_add n 4) h02 (by omega) (by omega) ?_
  (repeat (first | refine Ex.go rfl rfl ?_ | refine Ex.gf rfl rfl (by assumption) (by rfl) (by first | rfl | assumption) ?_))
  refine Ex.cv4 rfl rfl rfl g2 (by rfl) (by decide) rfl ?_
  refine Cx.weak q ?_
  rintro v G2 ⟨rfl, h03, hI2⟩
  (repeat (first | refine Ex.go rfl rfl ?_ | refine Ex.gf rfl rfl (by assumption) (by rfl) (by first | rfl | assumption) ?_))
  refine Ex.br (P := r1 = r1) (fun _ => ?_) (fun c => absurd rfl c)
  exact k G2 hI2 h03
theorem L_set (hI : INV G) (h0 : G[0]? = some (cS L xs)) (hn : n + 7 ≤ L) (hL : L ≤ 3584) (k : ∀ G', INV G' → G'[0]? = some (cS L xs) → Ex 12 mL_law (1744, [(0, .ref 0), (1, .ref 1), (2, .ref 364), (3, .int (nI n))], [], G') Q) : Ex 12 mL_law (749, [(0, .ref 0), (1, .ref 1), (2, .ref 364), (3, .int (nI n))], [], G) Q := by
  have r := P_set (a1 := xs (n + 1)) (a2 := xs (n + 2)) (a3 := xs (n + 3)) (a4 := xs (n + 4)) G L xs hI h0
  obtain ⟨f1, g1⟩ := hI.main
  (repeat (first | refine Ex.go rfl rfl ?_ | refine Ex.gf rfl rfl (by assumption) (by rfl) (by first | rfl | assumption) ?_))
  refine Ex.ialsN rfl (j := n + 1) (nI_add n 1) h0 (by omega) (by omega) ?_
  (repeat (first | refine Ex.go rfl rfl ?_ | refine Ex.gf rfl rfl (by assumption) (by rfl) (by first | rfl | assumption) ?_))
  refine Ex.ialsN rfl (j := n + 2) (nI_add n 2) h0 (by omega) (by omega) ?_
  (repeat (first | refine Ex.go rfl rfl ?_ | refine Ex.gf rfl rfl (by assumption) (by rfl) (by first | rfl | assumption) ?_))
  refine Ex.ialsN rfl (j := n + 3) (nI_add n 3) h0 (by omega) (by omega) ?_
  (repeat (first | refine Ex.go rfl rfl ?_ | refine Ex.gf rfl rfl (by assumption) (by rfl) (by first | rfl | assumption) ?_))
  refine Ex.ialsN rfl (j := n + 4) (nI_add n 4) h0 (by omega) (by omega) ?_
  (repeat (first | refine Ex.go rfl rfl ?_ | refine Ex.gf rfl rfl (by assumption) (by rfl) (by first | rfl | assumption) ?_))
  refine Ex.cv4 rfl rfl rfl g1 (by rfl) (by decide) rfl ?_
  refine Cx.weak r ?_
  rintro v G1 ⟨r1, rfl, h02, ⟨f2, g2⟩, q⟩
  (repeat (first | refine Ex.go rfl rfl ?_ | refine Ex.gf rfl rfl (by assumption) (by rfl) (by first | rfl | assumption) ?_))
  refine Ex.ialsN rfl (j := n + 1) (nI_add n 1) h02 (by omega) (by omega) ?_
  (repeat (first | refine Ex.go rfl rfl ?_ | refine Ex.gf rfl rfl (by assumption) (by rfl) (by first | rfl | assumption) ?_))
  refine Ex.ialsN rfl (j := n + 2) (nI_add n 2) h02 (by omega) (by omega) ?_
  (repeat (first | refine Ex.go rfl rfl ?_ | refine Ex.gf rfl rfl (by assumption) (by rfl) (by first | rfl | assumption) ?_))
  refine Ex.ialsN rfl (j := n + 3) (nI_add n 3) h02 (by omega) (by omega) ?_
  (repeat (first | refine Ex.go rfl rfl ?_ | refine Ex.gf rfl rfl (by assumption) (by rfl) (by first | rfl | assumption) ?_))
  refine Ex.ialsN rfl (j := n + 4) (nI_add n 4) h02 (by omega) (by omega) ?_
  (repeat (first | refine Ex.go rfl rfl ?_ | refine Ex.gf rfl rfl (by assumption) (by rfl) (by first | rfl | assumption) ?_))
  refine Ex.cv4 rfl rfl rfl g2 (by rfl) (by decide) rfl ?_
  refine Cx.weak q ?_
  rintro v G2 ⟨rfl, h03, hI2⟩
  (repeat (first | refine Ex.go rfl rfl ?_ | refine Ex.gf rfl rfl (by assumption) (by rfl) (by first | rfl | assumption) ?_))
  refine Ex.br (P := r1 = r1) (fun _ => ?_) (fun c => absurd rfl c)
  exact k G2 hI2 h03
theorem L_paper (hI : INV G) (h0 : G[0]? = some (cS L xs)) (hn : n + 7 ≤ L) (hL : L ≤ 3584) (k : ∀ G', INV G' → G'[0]? = some (cS L xs) → Ex 12 mL_law (1744, [(0, .ref 0), (1, .ref 1), (2, .ref 364), (3, .int (nI n))], [], G') Q) : Ex 12 mL_law (802, [(0, .ref 0), (1, .ref 1), (2, .ref 364), (3, .int (nI n))], [], G) Q := by
  have r := P_paper (a1 := xs (n + 1)) (a2 := xs (n + 2)) (a3 := xs (n + 3)) (a4 := xs (n + 4)) (a5 := xs (n + 5)) G L xs hI h0
  obtain ⟨f1, g1⟩ := hI.main
  (repeat (first | refine Ex.go rfl rfl ?_ | refine Ex.gf rfl rfl (by assumption) (by rfl) (by first | rfl | assumption) ?_))
  refine Ex.ialsN rfl (j := n + 1) (nI_add n 1) h0 (by omega) (by omega) ?_
  (repeat (first | refine Ex.go rfl rfl ?_ | refine Ex.gf rfl rfl (by assumption) (by rfl) (by first | rfl | assumption) ?_))
  refine Ex.ialsN rfl (j := n + 2) (nI_add n 2) h0 (by omega) (by omega) ?_
  (repeat (first | refine Ex.go rfl rfl ?_ | refine Ex.gf rfl rfl (by assumption) (by rfl) (by first | rfl | assumption) ?_))
  refine Ex.ialsN rfl (j := n + 3) (nI_add n 3) h0 (by omega) (by omega) ?_
  (repeat (first | refine Ex.go rfl rfl ?_ | refine Ex.gf rfl rfl (by assumption) (by rfl) (by first | rfl | assumption) ?_))
  refine Ex.ialsN rfl (j := n + 4) (nI_add n 4) h0 (by omega) (by omega) ?_
  (repeat (first | refine Ex.go rfl rfl ?_ | refine Ex.gf rfl rfl (by assumption) (by rfl) (by first | rfl | assumption) ?_))
  refine Ex.ialsN rfl (j := n + 5) (nI_add n 5) h0 (by omega) (by omega) ?_
  (repeat (first | refine Ex.go rfl rfl ?_ | refine Ex.gf rfl rfl (by assumption) (by rfl) (by first | rfl | assumption) ?_))
  refine Ex.cv5 rfl rfl rfl g1 (by rfl) (by decide) rfl ?_
  refine Cx.weak r ?_
  rintro v G1 ⟨r1, rfl, h02, ⟨f2, g2⟩, q⟩
  (repeat (first | refine Ex.go rfl rfl ?_ | refine Ex.gf rfl rfl (by assumption) (by rfl) (by first | rfl | assumption) ?_))
  refine Ex.ialsN rfl (j := n + 1) (nI_add n 1) h02 (by omega) (by omega) ?_
  (repeat (first | refine Ex.go rfl rfl ?_ | refine Ex.gf rfl rfl (by assumption) (by rfl) (by first | rfl | assumption) ?_))
  refine Ex.ialsN rfl (j := n + 2) (nI_add n 2) h02 (by omega) (by omega) ?_
  (repeat (first | refine Ex.go rfl rfl ?_ | refine Ex.gf rfl rfl (by assumption) (by rfl) (by first | rfl | assumption) ?_))
  refine Ex.ialsN rfl (j := n + 3) (nI_add n 3) h02 (by omega) (by omega) ?_
  (repeat (first | refine Ex.go rfl rfl ?_ | refine Ex.gf rfl rfl (by assumption) (by rfl) (by first | rfl | assumption) ?_))
  refine Ex.ialsN rfl (j := n + 4) (nI_add n 4) h02 (by omega) (by omega) ?_
  (repeat (first | refine Ex.go rfl rfl ?_ | refine Ex.gf rfl rfl (by assumption) (by rfl) (by first | rfl | assumption) ?_))
  refine Ex.ialsN rfl (j := n + 5) (nI_add n 5) h02 (by omega) (by omega) ?_
  (repeat (first | refine Ex.go rfl rfl ?_ | refine Ex.gf rfl rfl (by assumption) (by rfl) (by first | rfl | assumption) ?_))
  refine Ex.cv5 rfl rfl rfl g2 (by rfl) (by decide) rfl ?_
  refine Cx.weak q ?_
  rintro v G2 ⟨rfl, h03, hI2⟩
  (repeat (first | refine Ex.go rfl rfl ?_ | refine Ex.gf rfl rfl (by assumption) (by rfl) (by first | rfl | assumption) ?_))
  refine Ex.br (P := r1 = r1) (fun _ => ?_) (fun c => absurd rfl c)
  exact k G2 hI2 h03
theorem L_rule (hI : INV G) (h0 : G[0]? = some (cS L xs)) (hn : n + 7 ≤ L) (hL : L ≤ 3584) (k : ∀ G', INV G' → G'[0]? = some (cS L xs) → Ex 12 mL_law (1744, [(0, .ref 0), (1, .ref 1), (2, .ref 364), (3, .int (nI n))], [], G') Q) : Ex 12 mL_law (865, [(0, .ref 0), (1, .ref 1), (2, .ref 364), (3, .int (nI n))], [], G) Q := by
  have r := P_rule (a1 := xs (n + 1)) (a2 := xs (n + 2)) (a3 := xs (n + 3)) G L xs hI h0
  obtain ⟨f1, g1⟩ := hI.main
  (repeat (first | refine Ex.go rfl rfl ?_ | refine Ex.gf rfl rfl (by assumption) (by rfl) (by first | rfl | assumption) ?_))
  refine Ex.ialsN rfl (j := n + 1) (nI_add n 1) h0 (by omega) (by omega) ?_
  (repeat (first | refine Ex.go rfl rfl ?_ | refine Ex.gf rfl rfl (by assumption) (by rfl) (by first | rfl | assumption) ?_))
  refine Ex.ialsN rfl (j := n + 2) (nI_add n 2) h0 (by omega) (by omega) ?_
  (repeat (first | refine Ex.go rfl rfl ?_ | refine Ex.gf rfl rfl (by assumption) (by rfl) (by first | rfl | assumption) ?_))
  refine Ex.ialsN rfl (j := n + 3) (nI_add n 3) h0 (by omega) (by omega) ?_
  (repeat (first | refine Ex.go rfl rfl ?_ | refine Ex.gf rfl rfl (by assumption) (by rfl) (by first | rfl | assumption) ?_))
  refine Ex.cv3 rfl rfl rfl g1 (by rfl) (by decide) rfl ?_
  refine Cx.weak r ?_
  rintro v G1 ⟨r1, rfl, h02, ⟨f2, g2⟩, q⟩
  (repeat (first | refine Ex.go rfl rfl ?_ | refine Ex.gf rfl rfl (by assumption) (by rfl) (by first | rfl | assumption) ?_))
  refine Ex.ialsN rfl (j := n + 1) (nI_add n 1) h02 (by omega) (by omega) ?_
  (repeat (first | refine Ex.go rfl rfl ?_ | refine Ex.gf rfl rfl (by assumption) (by rfl) (by first | rfl | assumption) ?_))
  refine Ex.ialsN rfl (j := n + 2) (nI_add n 2) h02 (by omega) (by omega) ?_
  (repeat (first | refine Ex.go rfl rfl ?_ | refine Ex.gf rfl rfl (by assumption) (by rfl) (by first | rfl | assumption) ?_))
  refine Ex.ialsN rfl (j := n + 3) (nI_add n 3) h02 (by omega) (by omega) ?_
  (repeat (first | refine Ex.go rfl rfl ?_ | refine Ex.gf rfl rfl (by assumption) (by rfl) (by first | rfl | assumption) ?_))
  refine Ex.cv3 rfl rfl rfl g2 (by rfl) (by decide) rfl ?_
  refine Cx.weak q ?_
  rintro v G2 ⟨rfl, h03, hI2⟩
  (repeat (first | refine Ex.go rfl rfl ?_ | refine Ex.gf rfl rfl (by assumption) (by rfl) (by first | rfl | assumption) ?_))
  refine Ex.br (P := r1 = r1) (fun _ => ?_) (fun c => absurd rfl c)
  exact k G2 hI2 h03
theorem L_undo (hI : INV G) (h0 : G[0]? = some (cS L xs)) (hn : n + 7 ≤ L) (hL : L ≤ 3584) (k : ∀ G', INV G' → G'[0]? = some (cS L xs) → Ex 12 mL_law (1744, [(0, .ref 0), (1, .ref 1), (2, .ref 364), (3, .int (nI n))], [], G') Q) : Ex 12 mL_law (908, [(0, .ref 0), (1, .ref 1), (2, .ref 364), (3, .int (nI n))], [], G) Q := by
  have r := P_undo  G L xs hI h0
  obtain ⟨f1, g1⟩ := hI.main
  (repeat (first | refine Ex.go rfl rfl ?_ | refine Ex.gf rfl rfl (by assumption) (by rfl) (by first | rfl | assumption) ?_))
  refine Ex.cv0 rfl rfl rfl g1 (by rfl) (by decide) rfl ?_
  refine Cx.weak r ?_
  rintro v G1 ⟨r1, rfl, h02, ⟨f2, g2⟩, q⟩
  (repeat (first | refine Ex.go rfl rfl ?_ | refine Ex.gf rfl rfl (by assumption) (by rfl) (by first | rfl | assumption) ?_))
  refine Ex.cv0 rfl rfl rfl g2 (by rfl) (by decide) rfl ?_
  refine Cx.weak q ?_
  rintro v G2 ⟨rfl, h03, hI2⟩
  (repeat (first | refine Ex.go rfl rfl ?_ | refine Ex.gf rfl rfl (by assumption) (by rfl) (by first | rfl | assumption) ?_))
  refine Ex.br (P := r1 = r1) (fun _ => ?_) (fun c => absurd rfl c)
  exact k G2 hI2 h03
theorem L_status (hI : INV G) (h0 : G[0]? = some (cS L xs)) (hn : n + 7 ≤ L) (hL : L ≤ 3584) (k : ∀ G', INV G' → G'[0]? = some (cS L xs) → Ex 12 mL_law (1744, [(0, .ref 0), (1, .ref 1), (2, .ref 364), (3, .int (nI n))], [], G') Q) : Ex 12 mL_law (921, [(0, .ref 0), (1, .ref 1), (2, .ref 364), (3, .int (nI n))], [], G) Q := by
  have r := P_status  G L xs hI h0
  obtain ⟨f1, g1⟩ := hI.main
  (repeat (first | refine Ex.go rfl rfl ?_ | refine Ex.gf rfl rfl (by assumption) (by rfl) (by first | rfl | assumption) ?_))
  refine Ex.cv0 rfl rfl rfl g1 (by rfl) (by decide) rfl ?_
  refine Cx.weak r ?_
  rintro v G1 ⟨r1, rfl, h02, ⟨f2, g2⟩, q⟩
  (repeat (first | refine Ex.go rfl rfl ?_ | refine Ex.gf rfl rfl (by assumption) (by rfl) (by first | rfl | assumption) ?_))
  refine Ex.cv0 rfl rfl rfl g2 (by rfl) (by decide) rfl ?_
  refine Cx.weak q ?_
  rintro v G2 ⟨rfl, h03, hI2⟩
  (repeat (first | refine Ex.go rfl rfl ?_ | refine Ex.gf rfl rfl (by assumption) (by rfl) (by first | rfl | assumption) ?_))
  refine Ex.br (P := r1 = r1) (fun _ => ?_) (fun c => absurd rfl c)
  exact k G2 hI2 h03
theorem L_count (hI : INV G) (h0 : G[0]? = some (cS L xs)) (hn : n + 7 ≤ L) (hL : L ≤ 3584) (k : ∀ G', INV G' → G'[0]? = some (cS L xs) → Ex 12 mL_law (1744, [(0, .ref 0), (1, .ref 1), (2, .ref 364), (3, .int (nI n))], [], G') Q) : Ex 12 mL_law (934, [(0, .ref 0), (1, .ref 1), (2, .ref 364), (3, .int (nI n))], [], G) Q := by
  have r := P_count (a1 := xs (n + 1)) (a2 := xs (n + 2)) G L xs hI h0
  obtain ⟨f1, g1⟩ := hI.main
  (repeat (first | refine Ex.go rfl rfl ?_ | refine Ex.gf rfl rfl (by assumption) (by rfl) (by first | rfl | assumption) ?_))
  refine Ex.ialsN rfl (j := n + 1) (nI_add n 1) h0 (by omega) (by omega) ?_
  (repeat (first | refine Ex.go rfl rfl ?_ | refine Ex.gf rfl rfl (by assumption) (by rfl) (by first | rfl | assumption) ?_))
  refine Ex.ialsN rfl (j := n + 2) (nI_add n 2) h0 (by omega) (by omega) ?_
  (repeat (first | refine Ex.go rfl rfl ?_ | refine Ex.gf rfl rfl (by assumption) (by rfl) (by first | rfl | assumption) ?_))
  refine Ex.cv2 rfl rfl rfl g1 (by rfl) (by decide) rfl ?_
  refine Cx.weak r ?_
  rintro v G1 ⟨r1, rfl, h02, ⟨f2, g2⟩, q⟩
  (repeat (first | refine Ex.go rfl rfl ?_ | refine Ex.gf rfl rfl (by assumption) (by rfl) (by first | rfl | assumption) ?_))
  refine Ex.ialsN rfl (j := n + 1) (nI_add n 1) h02 (by omega) (by omega) ?_
  (repeat (first | refine Ex.go rfl rfl ?_ | refine Ex.gf rfl rfl (by assumption) (by rfl) (by first | rfl | assumption) ?_))
  refine Ex.ialsN rfl (j := n + 2) (nI_add n 2) h02 (by omega) (by omega) ?_
  (repeat (first | refine Ex.go rfl rfl ?_ | refine Ex.gf rfl rfl (by assumption) (by rfl) (by first | rfl | assumption) ?_))
  refine Ex.cv2 rfl rfl rfl g2 (by rfl) (by decide) rfl ?_
  refine Cx.weak q ?_
  rintro v G2 ⟨rfl, h03, hI2⟩
  (repeat (first | refine Ex.go rfl rfl ?_ | refine Ex.gf rfl rfl (by assumption) (by rfl) (by first | rfl | assumption) ?_))
  refine Ex.br (P := r1 = r1) (fun _ => ?_) (fun c => absurd rfl c)
  exact k G2 hI2 h03
theorem L_thick (hI : INV G) (h0 : G[0]? = some (cS L xs)) (hn : n + 7 ≤ L) (hL : L ≤ 3584) (k : ∀ G', INV G' → G'[0]? = some (cS L xs) → Ex 12 mL_law (1744, [(0, .ref 0), (1, .ref 1), (2, .ref 364), (3, .int (nI n))], [], G') Q) : Ex 12 mL_law (967, [(0, .ref 0), (1, .ref 1), (2, .ref 364), (3, .int (nI n))], [], G) Q := by
  have r := P_thick (a1 := xs (n + 1)) (a2 := xs (n + 2)) (a3 := xs (n + 3)) (a4 := xs (n + 4)) (a5 := xs (n + 5)) G L xs hI h0
  obtain ⟨f1, g1⟩ := hI.main
  (repeat (first | refine Ex.go rfl rfl ?_ | refine Ex.gf rfl rfl (by assumption) (by rfl) (by first | rfl | assumption) ?_))
  refine Ex.ialsN rfl (j := n + 1) (nI_add n 1) h0 (by omega) (by omega) ?_
  (repeat (first | refine Ex.go rfl rfl ?_ | refine Ex.gf rfl rfl (by assumption) (by rfl) (by first | rfl | assumption) ?_))
  refine Ex.ialsN rfl (j := n + 2) (nI_add n 2) h0 (by omega) (by omega) ?_
  (repeat (first | refine Ex.go rfl rfl ?_ | refine Ex.gf rfl rfl (by assumption) (by rfl) (by first | rfl | assumption) ?_))
  refine Ex.ialsN rfl (j := n + 3) (nI_add n 3) h0 (by omega) (by omega) ?_
  (repeat (first | refine Ex.go rfl rfl ?_ | refine Ex.gf rfl rfl (by assumption) (by rfl) (by first | rfl | assumption) ?_))
  refine Ex.ialsN rfl (j := n + 4) (nI_add n 4) h0 (by omega) (by omega) ?_
  (repeat (first | refine Ex.go rfl rfl ?_ | refine Ex.gf rfl rfl (by assumption) (by rfl) (by first | rfl | assumption) ?_))
  refine Ex.ialsN rfl (j := n + 5) (nI_add n 5) h0 (by omega) (by omega) ?_
  (repeat (first | refine Ex.go rfl rfl ?_ | refine Ex.gf rfl rfl (by assumption) (by rfl) (by first | rfl | assumption) ?_))
  refine Ex.cv5 rfl rfl rfl g1 (by rfl) (by decide) rfl ?_
  refine Cx.weak r ?_
  rintro v G1 ⟨r1, rfl, h02, ⟨f2, g2⟩, q⟩
  (repeat (first | refine Ex.go rfl rfl ?_ | refine Ex.gf rfl rfl (by assumption) (by rfl) (by first | rfl | assumption) ?_))
  refine Ex.ialsN rfl (j := n + 1) (nI_add n 1) h02 (by omega) (by omega) ?_
  (repeat (first | refine Ex.go rfl rfl ?_ | refine Ex.gf rfl rfl (by assumption) (by rfl) (by first | rfl | assumption) ?_))
  refine Ex.ialsN rfl (j := n + 2) (nI_add n 2) h02 (by omega) (by omega) ?_
  (repeat (first | refine Ex.go rfl rfl ?_ | refine Ex.gf rfl rfl (by assumption) (by rfl) (by first | rfl | assumption) ?_))
  refine Ex.ialsN rfl (j := n + 3) (nI_add n 3) h02 (by omega) (by omega) ?_
  (repeat (first | refine Ex.go rfl rfl ?_ | refine Ex.gf rfl rfl (by assumption) (by rfl) (by first | rfl | assumption) ?_))
  refine Ex.ialsN rfl (j := n + 4) (nI_add n 4) h02 (by omega) (by omega) ?_
  (repeat (first | refine Ex.go rfl rfl ?_ | refine Ex.gf rfl rfl (by assumption) (by rfl) (by first | rfl | assumption) ?_))
  refine Ex.ialsN rfl (j := n + 5) (nI_add n 5) h02 (by omega) (by omega) ?_
  (repeat (first | refine Ex.go rfl rfl ?_ | refine Ex.gf rfl rfl (by assumption) (by rfl) (by first | rfl | assumption) ?_))
  refine Ex.cv5 rfl rfl rfl g2 (by rfl) (by decide) rfl ?_
  refine Cx.weak q ?_
  rintro v G2 ⟨rfl, h03, hI2⟩
  (repeat (first | refine Ex.go rfl rfl ?_ | refine Ex.gf rfl rfl (by assumption) (by rfl) (by first | rfl | assumption) ?_))
  refine Ex.br (P := r1 = r1) (fun _ => ?_) (fun c => absurd rfl c)
  exact k G2 hI2 h03
theorem L_doubts (hI : INV G) (h0 : G[0]? = some (cS L xs)) (hn : n + 7 ≤ L) (hL : L ≤ 3584) (k : ∀ G', INV G' → G'[0]? = some (cS L xs) → Ex 12 mL_law (1744, [(0, .ref 0), (1, .ref 1), (2, .ref 364), (3, .int (nI n))], [], G') Q) : Ex 12 mL_law (1030, [(0, .ref 0), (1, .ref 1), (2, .ref 364), (3, .int (nI n))], [], G) Q := by
  have r := P_doubts (a1 := xs (n + 1)) (a2 := xs (n + 2)) (a3 := xs (n + 3)) (a4 := xs (n + 4)) G L xs hI h0
  obtain ⟨f1, g1⟩ := hI.main
  (repeat (first | refine Ex.go rfl rfl ?_ | refine Ex.gf rfl rfl (by assumption) (by rfl) (by first | rfl | assumption) ?_))
  refine Ex.ialsN rfl (j := n + 1) (nI_add n 1) h0 (by omega) (by omega) ?_
  (repeat (first | refine Ex.go rfl rfl ?_ | refine Ex.gf rfl rfl (by assumption) (by rfl) (by first | rfl | assumption) ?_))
  refine Ex.ialsN rfl (j := n + 2) (nI_add n 2) h0 (by omega) (by omega) ?_
  (repeat (first | refine Ex.go rfl rfl ?_ | refine Ex.gf rfl rfl (by assumption) (by rfl) (by first | rfl | assumption) ?_))
  refine Ex.ialsN rfl (j := n + 3) (nI_add n 3) h0 (by omega) (by omega) ?_
  (repeat (first | refine Ex.go rfl rfl ?_ | refine Ex.gf rfl rfl (by assumption) (by rfl) (by first | rfl | assumption) ?_))
  refine Ex.ialsN rfl (j := n + 4) (nI_add n 4) h0 (by omega) (by omega) ?_
  (repeat (first | refine Ex.go rfl rfl ?_ | refine Ex.gf rfl rfl (by assumption) (by rfl) (by first | rfl | assumption) ?_))
  refine Ex.cv4 rfl rfl rfl g1 (by rfl) (by decide) rfl ?_
  refine Cx.weak r ?_
  rintro v G1 ⟨r1, rfl, h02, ⟨f2, g2⟩, q⟩
  (repeat (first | refine Ex.go rfl rfl ?_ | refine Ex.gf rfl rfl (by assumption) (by rfl) (by first | rfl | assumption) ?_))
  refine Ex.ialsN rfl (j := n + 1) (nI_add n 1) h02 (by omega) (by omega) ?_
  (repeat (first | refine Ex.go rfl rfl ?_ | refine Ex.gf rfl rfl (by assumption) (by rfl) (by first | rfl | assumption) ?_))
  refine Ex.ialsN rfl (j := n + 2) (nI_add n 2) h02 (by omega) (by omega) ?_
  (repeat (first | refine Ex.go rfl rfl ?_ | refine Ex.gf rfl rfl (by assumption) (by rfl) (by first | rfl | assumption) ?_))
  refine Ex.ialsN rfl (j := n + 3) (nI_add n 3) h02 (by omega) (by omega) ?_
  (repeat (first | refine Ex.go rfl rfl ?_ | refine Ex.gf rfl rfl (by assumption) (by rfl) (by first | rfl | assumption) ?_))
  refine Ex.ialsN rfl (j := n + 4) (nI_add n 4) h02 (by omega) (by omega) ?_
  (repeat (first | refine Ex.go rfl rfl ?_ | refine Ex.gf rfl rfl (by assumption) (by rfl) (by first | rfl | assumption) ?_))
  refine Ex.cv4 rfl rfl rfl g2 (by rfl) (by decide) rfl ?_
  refine Cx.weak q ?_
  rintro v G2 ⟨rfl, h03, hI2⟩
  (repeat (first | refine Ex.go rfl rfl ?_ | refine Ex.gf rfl rfl (by assumption) (by rfl) (by first | rfl | assumption) ?_))
  refine Ex.br (P := r1 = r1) (fun _ => ?_) (fun c => absurd rfl c)
  exact k G2 hI2 h03
theorem L_bears (hI : INV G) (h0 : G[0]? = some (cS L xs)) (hn : n + 7 ≤ L) (hL : L ≤ 3584) (k : ∀ G', INV G' → G'[0]? = some (cS L xs) → Ex 12 mL_law (1744, [(0, .ref 0), (1, .ref 1), (2, .ref 364), (3, .int (nI n))], [], G') Q) : Ex 12 mL_law (1083, [(0, .ref 0), (1, .ref 1), (2, .ref 364), (3, .int (nI n))], [], G) Q := by
  have r := P_bears (a1 := xs (n + 1)) (a2 := xs (n + 2)) (a3 := xs (n + 3)) (a4 := xs (n + 4)) G L xs hI h0
  obtain ⟨f1, g1⟩ := hI.main
  (repeat (first | refine Ex.go rfl rfl ?_ | refine Ex.gf rfl rfl (by assumption) (by rfl) (by first | rfl | assumption) ?_))
  refine Ex.ialsN rfl (j := n + 1) (nI_add n 1) h0 (by omega) (by omega) ?_
  (repeat (first | refine Ex.go rfl rfl ?_ | refine Ex.gf rfl rfl (by assumption) (by rfl) (by first | rfl | assumption) ?_))
  refine Ex.ialsN rfl (j := n + 2) (nI_add n 2) h0 (by omega) (by omega) ?_
  (repeat (first | refine Ex.go rfl rfl ?_ | refine Ex.gf rfl rfl (by assumption) (by rfl) (by first | rfl | assumption) ?_))
  refine Ex.ialsN rfl (j := n + 3) (nI_add n 3) h0 (by omega) (by omega) ?_
  (repeat (first | refine Ex.go rfl rfl ?_ | refine Ex.gf rfl rfl (by assumption) (by rfl) (by first | rfl | assumption) ?_))
  refine Ex.ialsN rfl (j := n + 4) (nI_add n 4) h0 (by omega) (by omega) ?_
  (repeat (first | refine Ex.go rfl rfl ?_ | refine Ex.gf rfl rfl (by assumption) (by rfl) (by first | rfl | assumption) ?_))
  refine Ex.cv4 rfl rfl rfl g1 (by rfl) (by decide) rfl ?_
  refine Cx.weak r ?_
  rintro v G1 ⟨r1, rfl, h02, ⟨f2, g2⟩, q⟩
  (repeat (first | refine Ex.go rfl rfl ?_ | refine Ex.gf rfl rfl (by assumption) (by rfl) (by first | rfl | assumption) ?_))
  refine Ex.ialsN rfl (j := n + 1) (nI_add n 1) h02 (by omega) (by omega) ?_
  (repeat (first | refine Ex.go rfl rfl ?_ | refine Ex.gf rfl rfl (by assumption) (by rfl) (by first | rfl | assumption) ?_))
  refine Ex.ialsN rfl (j := n + 2) (nI_add n 2) h02 (by omega) (by omega) ?_
  (repeat (first | refine Ex.go rfl rfl ?_ | refine Ex.gf rfl rfl (by assumption) (by rfl) (by first | rfl | assumption) ?_))
  refine Ex.ialsN rfl (j := n + 3) (nI_add n 3) h02 (by omega) (by omega) ?_
  (repeat (first | refine Ex.go rfl rfl ?_ | refine Ex.gf rfl rfl (by assumption) (by rfl) (by first | rfl | assumption) ?_))
  refine Ex.ialsN rfl (j := n + 4) (nI_add n 4) h02 (by omega) (by omega) ?_
  (repeat (first | refine Ex.go rfl rfl ?_ | refine Ex.gf rfl rfl (by assumption) (by rfl) (by first | rfl | assumption) ?_))
  refine Ex.cv4 rfl rfl rfl g2 (by rfl) (by decide) rfl ?_
  refine Cx.weak q ?_
  rintro v G2 ⟨rfl, h03, hI2⟩
  (repeat (first | refine Ex.go rfl rfl ?_ | refine Ex.gf rfl rfl (by assumption) (by rfl) (by first | rfl | assumption) ?_))
  refine Ex.br (P := r1 = r1) (fun _ => ?_) (fun c => absurd rfl c)
  exact k G2 hI2 h03
theorem L_weakest (hI : INV G) (h0 : G[0]? = some (cS L xs)) (hn : n + 7 ≤ L) (hL : L ≤ 3584) (k : ∀ G', INV G' → G'[0]? = some (cS L xs) → Ex 12 mL_law (1744, [(0, .ref 0), (1, .ref 1), (2, .ref 364), (3, .int (nI n))], [], G') Q) : Ex 12 mL_law (1136, [(0, .ref 0), (1, .ref 1), (2, .ref 364), (3, .int (nI n))], [], G) Q := by
  have r := P_weakest (a1 := xs (n + 1)) (a2 := xs (n + 2)) (a3 := xs (n + 3)) G L xs hI h0
  obtain ⟨f1, g1⟩ := hI.main
  (repeat (first | refine Ex.go rfl rfl ?_ | refine Ex.gf rfl rfl (by assumption) (by rfl) (by first | rfl | assumption) ?_))
  refine Ex.ialsN rfl (j := n + 1) (nI_add n 1) h0 (by omega) (by omega) ?_
  (repeat (first | refine Ex.go rfl rfl ?_ | refine Ex.gf rfl rfl (by assumption) (by rfl) (by first | rfl | assumption) ?_))
  refine Ex.ialsN rfl (j := n + 2) (nI_add n 2) h0 (by omega) (by omega) ?_
  (repeat (first | refine Ex.go rfl rfl ?_ | refine Ex.gf rfl rfl (by assumption) (by rfl) (by first | rfl | assumption) ?_))
  refine Ex.ialsN rfl (j := n + 3) (nI_add n 3) h0 (by omega) (by omega) ?_
  (repeat (first | refine Ex.go rfl rfl ?_ | refine Ex.gf rfl rfl (by assumption) (by rfl) (by first | rfl | assumption) ?_))
  refine Ex.cv3 rfl rfl rfl g1 (by rfl) (by decide) rfl ?_
  refine Cx.weak r ?_
  rintro v G1 ⟨r1, rfl, h02, ⟨f2, g2⟩, q⟩
  (repeat (first | refine Ex.go rfl rfl ?_ | refine Ex.gf rfl rfl (by assumption) (by rfl) (by first | rfl | assumption) ?_))
  refine Ex.ialsN rfl (j := n + 1) (nI_add n 1) h02 (by omega) (by omega) ?_
  (repeat (first | refine Ex.go rfl rfl ?_ | refine Ex.gf rfl rfl (by assumption) (by rfl) (by first | rfl | assumption) ?_))
  refine Ex.ialsN rfl (j := n + 2) (nI_add n 2) h02 (by omega) (by omega) ?_
  (repeat (first | refine Ex.go rfl rfl ?_ | refine Ex.gf rfl rfl (by assumption) (by rfl) (by first | rfl | assumption) ?_))
  refine Ex.ialsN rfl (j := n + 3) (nI_add n 3) h02 (by omega) (by omega) ?_
  (repeat (first | refine Ex.go rfl rfl ?_ | refine Ex.gf rfl rfl (by assumption) (by rfl) (by first | rfl | assumption) ?_))
  refine Ex.cv3 rfl rfl rfl g2 (by rfl) (by decide) rfl ?_
  refine Cx.weak q ?_
  rintro v G2 ⟨rfl, h03, hI2⟩
  (repeat (first | refine Ex.go rfl rfl ?_ | refine Ex.gf rfl rfl (by assumption) (by rfl) (by first | rfl | assumption) ?_))
  refine Ex.br (P := r1 = r1) (fun _ => ?_) (fun c => absurd rfl c)
  exact k G2 hI2 h03
theorem L_holds (hI : INV G) (h0 : G[0]? = some (cS L xs)) (hn : n + 7 ≤ L) (hL : L ≤ 3584) (k : ∀ G', INV G' → G'[0]? = some (cS L xs) → Ex 12 mL_law (1744, [(0, .ref 0), (1, .ref 1), (2, .ref 364), (3, .int (nI n))], [], G') Q) : Ex 12 mL_law (1179, [(0, .ref 0), (1, .ref 1), (2, .ref 364), (3, .int (nI n))], [], G) Q := by
  have r := P_holds (a1 := xs (n + 1)) (a2 := xs (n + 2)) (a3 := xs (n + 3)) (a4 := xs (n + 4)) G L xs hI h0
  obtain ⟨f1, g1⟩ := hI.main
  (repeat (first | refine Ex.go rfl rfl ?_ | refine Ex.gf rfl rfl (by assumption) (by rfl) (by first | rfl | assumption) ?_))
  refine Ex.ialsN rfl (j := n + 1) (nI_add n 1) h0 (by omega) (by omega) ?_
  (repeat (first | refine Ex.go rfl rfl ?_ | refine Ex.gf rfl rfl (by assumption) (by rfl) (by first | rfl | assumption) ?_))
  refine Ex.ialsN rfl (j := n + 2) (nI_add n 2) h0 (by omega) (by omega) ?_
  (repeat (first | refine Ex.go rfl rfl ?_ | refine Ex.gf rfl rfl (by assumption) (by rfl) (by first | rfl | assumption) ?_))
  refine Ex.ialsN rfl (j := n + 3) (nI_add n 3) h0 (by omega) (by omega) ?_
  (repeat (first | refine Ex.go rfl rfl ?_ | refine Ex.gf rfl rfl (by assumption) (by rfl) (by first | rfl | assumption) ?_))
  refine Ex.ialsN rfl (j := n + 4) (nI_add n 4) h0 (by omega) (by omega) ?_
  (repeat (first | refine Ex.go rfl rfl ?_ | refine Ex.gf rfl rfl (by assumption) (by rfl) (by first | rfl | assumption) ?_))
  refine Ex.cv4 rfl rfl rfl g1 (by rfl) (by decide) rfl ?_
  refine Cx.weak r ?_
  rintro v G1 ⟨r1, rfl, h02, ⟨f2, g2⟩, q⟩
  (repeat (first | refine Ex.go rfl rfl ?_ | refine Ex.gf rfl rfl (by assumption) (by rfl) (by first | rfl | assumption) ?_))
  refine Ex.ialsN rfl (j := n + 1) (nI_add n 1) h02 (by omega) (by omega) ?_
  (repeat (first | refine Ex.go rfl rfl ?_ | refine Ex.gf rfl rfl (by assumption) (by rfl) (by first | rfl | assumption) ?_))
  refine Ex.ialsN rfl (j := n + 2) (nI_add n 2) h02 (by omega) (by omega) ?_
  (repeat (first | refine Ex.go rfl rfl ?_ | refine Ex.gf rfl rfl (by assumption) (by rfl) (by first | rfl | assumption) ?_))
  refine Ex.ialsN rfl (j := n + 3) (nI_add n 3) h02 (by omega) (by omega) ?_
  (repeat (first | refine Ex.go rfl rfl ?_ | refine Ex.gf rfl rfl (by assumption) (by rfl) (by first | rfl | assumption) ?_))
  refine Ex.ialsN rfl (j := n + 4) (nI_add n 4) h02 (by omega) (by omega) ?_
  (repeat (first | refine Ex.go rfl rfl ?_ | refine Ex.gf rfl rfl (by assumption) (by rfl) (by first | rfl | assumption) ?_))
  refine Ex.cv4 rfl rfl rfl g2 (by rfl) (by decide) rfl ?_
  refine Cx.weak q ?_
  rintro v G2 ⟨rfl, h03, hI2⟩
  (repeat (first | refine Ex.go rfl rfl ?_ | refine Ex.gf rfl rfl (by assumption) (by rfl) (by first | rfl | assumption) ?_))
  refine Ex.br (P := r1 = r1) (fun _ => ?_) (fun c => absurd rfl c)
  exact k G2 hI2 h03
theorem L_due (hI : INV G) (h0 : G[0]? = some (cS L xs)) (hn : n + 7 ≤ L) (hL : L ≤ 3584) (k : ∀ G', INV G' → G'[0]? = some (cS L xs) → Ex 12 mL_law (1744, [(0, .ref 0), (1, .ref 1), (2, .ref 364), (3, .int (nI n))], [], G') Q) : Ex 12 mL_law (1232, [(0, .ref 0), (1, .ref 1), (2, .ref 364), (3, .int (nI n))], [], G) Q := by
  have r := P_due (a1 := xs (n + 1)) (a2 := xs (n + 2)) (a3 := xs (n + 3)) (a4 := xs (n + 4)) G L xs hI h0
  obtain ⟨f1, g1⟩ := hI.main
  (repeat (first | refine Ex.go rfl rfl ?_ | refine Ex.gf rfl rfl (by assumption) (by rfl) (by first | rfl | assumption) ?_))
  refine Ex.ialsN rfl (j := n + 1) (nI_add n 1) h0 (by omega) (by omega) ?_
  (repeat (first | refine Ex.go rfl rfl ?_ | refine Ex.gf rfl rfl (by assumption) (by rfl) (by first | rfl | assumption) ?_))
  refine Ex.ialsN rfl (j := n + 2) (nI_add n 2) h0 (by omega) (by omega) ?_
  (repeat (first | refine Ex.go rfl rfl ?_ | refine Ex.gf rfl rfl (by assumption) (by rfl) (by first | rfl | assumption) ?_))
  refine Ex.ialsN rfl (j := n + 3) (nI_add n 3) h0 (by omega) (by omega) ?_
  (repeat (first | refine Ex.go rfl rfl ?_ | refine Ex.gf rfl rfl (by assumption) (by rfl) (by first | rfl | assumption) ?_))
  refine Ex.ialsN rfl (j := n + 4) (nI_add n 4) h0 (by omega) (by omega) ?_
  (repeat (first | refine Ex.go rfl rfl ?_ | refine Ex.gf rfl rfl (by assumption) (by rfl) (by first | rfl | assumption) ?_))
  refine Ex.cv4 rfl rfl rfl g1 (by rfl) (by decide) rfl ?_
  refine Cx.weak r ?_
  rintro v G1 ⟨r1, rfl, h02, ⟨f2, g2⟩, q⟩
  (repeat (first | refine Ex.go rfl rfl ?_ | refine Ex.gf rfl rfl (by assumption) (by rfl) (by first | rfl | assumption) ?_))
  refine Ex.ialsN rfl (j := n + 1) (nI_add n 1) h02 (by omega) (by omega) ?_
  (repeat (first | refine Ex.go rfl rfl ?_ | refine Ex.gf rfl rfl (by assumption) (by rfl) (by first | rfl | assumption) ?_))
  refine Ex.ialsN rfl (j := n + 2) (nI_add n 2) h02 (by omega) (by omega) ?_
  (repeat (first | refine Ex.go rfl rfl ?_ | refine Ex.gf rfl rfl (by assumption) (by rfl) (by first | rfl | assumption) ?_))
  refine Ex.ialsN rfl (j := n + 3) (nI_add n 3) h02 (by omega) (by omega) ?_
  (repeat (first | refine Ex.go rfl rfl ?_ | refine Ex.gf rfl rfl (by assumption) (by rfl) (by first | rfl | assumption) ?_))
  refine Ex.ialsN rfl (j := n + 4) (nI_add n 4) h02 (by omega) (by omega) ?_
  (repeat (first | refine Ex.go rfl rfl ?_ | refine Ex.gf rfl rfl (by assumption) (by rfl) (by first | rfl | assumption) ?_))
  refine Ex.cv4 rfl rfl rfl g2 (by rfl) (by decide) rfl ?_
  refine Cx.weak q ?_
  rintro v G2 ⟨rfl, h03, hI2⟩
  (repeat (first | refine Ex.go rfl rfl ?_ | refine Ex.gf rfl rfl (by assumption) (by rfl) (by first | rfl | assumption) ?_))
  refine Ex.br (P := r1 = r1) (fun _ => ?_) (fun c => absurd rfl c)
  exact k G2 hI2 h03
theorem L_why (hI : INV G) (h0 : G[0]? = some (cS L xs)) (hn : n + 7 ≤ L) (hL : L ≤ 3584) (k : ∀ G', INV G' → G'[0]? = some (cS L xs) → Ex 12 mL_law (1744, [(0, .ref 0), (1, .ref 1), (2, .ref 364), (3, .int (nI n))], [], G') Q) : Ex 12 mL_law (1285, [(0, .ref 0), (1, .ref 1), (2, .ref 364), (3, .int (nI n))], [], G) Q := by
  have r := P_why (a1 := xs (n + 1)) (a2 := xs (n + 2)) (a3 := xs (n + 3)) G L xs hI h0
  obtain ⟨f1, g1⟩ := hI.main
  (repeat (first | refine Ex.go rfl rfl ?_ | refine Ex.gf rfl rfl (by assumption) (by rfl) (by first | rfl | assumption) ?_))
  refine Ex.ialsN rfl (j := n + 1) (nI_add n 1) h0 (by omega) (by omega) ?_
  (repeat (first | refine Ex.go rfl rfl ?_ | refine Ex.gf rfl rfl (by assumption) (by rfl) (by first | rfl | assumption) ?_))
  refine Ex.ialsN rfl (j := n + 2) (nI_add n 2) h0 (by omega) (by omega) ?_
  (repeat (first | refine Ex.go rfl rfl ?_ | refine Ex.gf rfl rfl (by assumption) (by rfl) (by first | rfl | assumption) ?_))
  refine Ex.ialsN rfl (j := n + 3) (nI_add n 3) h0 (by omega) (by omega) ?_
  (repeat (first | refine Ex.go rfl rfl ?_ | refine Ex.gf rfl rfl (by assumption) (by rfl) (by first | rfl | assumption) ?_))
  refine Ex.cv3 rfl rfl rfl g1 (by rfl) (by decide) rfl ?_
  refine Cx.weak r ?_
  rintro v G1 ⟨r1, rfl, h02, ⟨f2, g2⟩, q⟩
  (repeat (first | refine Ex.go rfl rfl ?_ | refine Ex.gf rfl rfl (by assumption) (by rfl) (by first | rfl | assumption) ?_))
  refine Ex.ialsN rfl (j := n + 1) (nI_add n 1) h02 (by omega) (by omega) ?_
  (repeat (first | refine Ex.go rfl rfl ?_ | refine Ex.gf rfl rfl (by assumption) (by rfl) (by first | rfl | assumption) ?_))
  refine Ex.ialsN rfl (j := n + 2) (nI_add n 2) h02 (by omega) (by omega) ?_
  (repeat (first | refine Ex.go rfl rfl ?_ | refine Ex.gf rfl rfl (by assumption) (by rfl) (by first | rfl | assumption) ?_))
  refine Ex.ialsN rfl (j := n + 3) (nI_add n 3) h02 (by omega) (by omega) ?_
  (repeat (first | refine Ex.go rfl rfl ?_ | refine Ex.gf rfl rfl (by assumption) (by rfl) (by first | rfl | assumption) ?_))
  refine Ex.cv3 rfl rfl rfl g2 (by rfl) (by decide) rfl ?_
  refine Cx.weak q ?_
  rintro v G2 ⟨rfl, h03, hI2⟩
  (repeat (first | refine Ex.go rfl rfl ?_ | refine Ex.gf rfl rfl (by assumption) (by rfl) (by first | rfl | assumption) ?_))
  refine Ex.br (P := r1 = r1) (fun _ => ?_) (fun c => absurd rfl c)
  exact k G2 hI2 h03
theorem L_may (hI : INV G) (h0 : G[0]? = some (cS L xs)) (hn : n + 7 ≤ L) (hL : L ≤ 3584) (k : ∀ G', INV G' → G'[0]? = some (cS L xs) → Ex 12 mL_law (1744, [(0, .ref 0), (1, .ref 1), (2, .ref 364), (3, .int (nI n))], [], G') Q) : Ex 12 mL_law (1328, [(0, .ref 0), (1, .ref 1), (2, .ref 364), (3, .int (nI n))], [], G) Q := by
  have r := P_may (a1 := xs (n + 1)) (a2 := xs (n + 2)) (a3 := xs (n + 3)) G L xs hI h0
  obtain ⟨f1, g1⟩ := hI.main
  (repeat (first | refine Ex.go rfl rfl ?_ | refine Ex.gf rfl rfl (by assumption) (by rfl) (by first | rfl | assumption) ?_))
  refine Ex.ialsN rfl (j := n + 1) (nI_add n 1) h0 (by omega) (by omega) ?_
  (repeat (first | refine Ex.go rfl rfl ?_ | refine Ex.gf rfl rfl (by assumption) (by rfl) (by first | rfl | assumption) ?_))
  refine Ex.ialsN rfl (j := n + 2) (nI_add n 2) h0 (by omega) (by omega) ?_
  (repeat (first | refine Ex.go rfl rfl ?_ | refine Ex.gf rfl rfl (by assumption) (by rfl) (by first | rfl | assumption) ?_))
  refine Ex.ialsN rfl (j := n + 3) (nI_add n 3) h0 (by omega) (by omega) ?_
  (repeat (first | refine Ex.go rfl rfl ?_ | refine Ex.gf rfl rfl (by assumption) (by rfl) (by first | rfl | assumption) ?_))
  refine Ex.cv3 rfl rfl rfl g1 (by rfl) (by decide) rfl ?_
  refine Cx.weak r ?_
  rintro v G1 ⟨r1, rfl, h02, ⟨f2, g2⟩, q⟩
  (repeat (first | refine Ex.go rfl rfl ?_ | refine Ex.gf rfl rfl (by assumption) (by rfl) (by first | rfl | assumption) ?_))
  refine Ex.ialsN rfl (j := n + 1) (nI_add n 1) h02 (by omega) (by omega) ?_
  (repeat (first | refine Ex.go rfl rfl ?_ | refine Ex.gf rfl rfl (by assumption) (by rfl) (by first | rfl | assumption) ?_))
  refine Ex.ialsN rfl (j := n + 2) (nI_add n 2) h02 (by omega) (by omega) ?_
  (repeat (first | refine Ex.go rfl rfl ?_ | refine Ex.gf rfl rfl (by assumption) (by rfl) (by first | rfl | assumption) ?_))
  refine Ex.ialsN rfl (j := n + 3) (nI_add n 3) h02 (by omega) (by omega) ?_
  (repeat (first | refine Ex.go rfl rfl ?_ | refine Ex.gf rfl rfl (by assumption) (by rfl) (by first | rfl | assumption) ?_))
  refine Ex.cv3 rfl rfl rfl g2 (by rfl) (by decide) rfl ?_
  refine Cx.weak q ?_
  rintro v G2 ⟨rfl, h03, hI2⟩
  (repeat (first | refine Ex.go rfl rfl ?_ | refine Ex.gf rfl rfl (by assumption) (by rfl) (by first | rfl | assumption) ?_))
  refine Ex.br (P := r1 = r1) (fun _ => ?_) (fun c => absurd rfl c)
  exact k G2 hI2 h03
theorem L_until (hI : INV G) (h0 : G[0]? = some (cS L xs)) (hn : n + 7 ≤ L) (hL : L ≤ 3584) (k : ∀ G', INV G' → G'[0]? = some (cS L xs) → Ex 12 mL_law (1744, [(0, .ref 0), (1, .ref 1), (2, .ref 364), (3, .int (nI n))], [], G') Q) : Ex 12 mL_law (1371, [(0, .ref 0), (1, .ref 1), (2, .ref 364), (3, .int (nI n))], [], G) Q := by
  have r := P_until (a1 := xs (n + 1)) (a2 := xs (n + 2)) (a3 := xs (n + 3)) G L xs hI h0
  obtain ⟨f1, g1⟩ := hI.main
  (repeat (first | refine Ex.go rfl rfl ?_ | refine Ex.gf rfl rfl (by assumption) (by rfl) (by first | rfl | assumption) ?_))
  refine Ex.ialsN rfl (j := n + 1) (nI_add n 1) h0 (by omega) (by omega) ?_
  (repeat (first | refine Ex.go rfl rfl ?_ | refine Ex.gf rfl rfl (by assumption) (by rfl) (by first | rfl | assumption) ?_))
  refine Ex.ialsN rfl (j := n + 2) (nI_add n 2) h0 (by omega) (by omega) ?_
  (repeat (first | refine Ex.go rfl rfl ?_ | refine Ex.gf rfl rfl (by assumption) (by rfl) (by first | rfl | assumption) ?_))
  refine Ex.ialsN rfl (j := n + 3) (nI_add n 3) h0 (by omega) (by omega) ?_
  (repeat (first | refine Ex.go rfl rfl ?_ | refine Ex.gf rfl rfl (by assumption) (by rfl) (by first | rfl | assumption) ?_))
  refine Ex.cv3 rfl rfl rfl g1 (by rfl) (by decide) rfl ?_
  refine Cx.weak r ?_
  rintro v G1 ⟨r1, rfl, h02, ⟨f2, g2⟩, q⟩
  (repeat (first | refine Ex.go rfl rfl ?_ | refine Ex.gf rfl rfl (by assumption) (by rfl) (by first | rfl | assumption) ?_))
  refine Ex.ialsN rfl (j := n + 1) (nI_add n 1) h02 (by omega) (by omega) ?_
  (repeat (first | refine Ex.go rfl rfl ?_ | refine Ex.gf rfl rfl (by assumption) (by rfl) (by first | rfl | assumption) ?_))
  refine Ex.ialsN rfl (j := n + 2) (nI_add n 2) h02 (by omega) (by omega) ?_
  (repeat (first | refine Ex.go rfl rfl ?_ | refine Ex.gf rfl rfl (by assumption) (by rfl) (by first | rfl | assumption) ?_))
  refine Ex.ialsN rfl (j := n + 3) (nI_add n 3) h02 (by omega) (by omega) ?_
  (repeat (first | refine Ex.go rfl rfl ?_ | refine Ex.gf rfl rfl (by assumption) (by rfl) (by first | rfl | assumption) ?_))
  refine Ex.cv3 rfl rfl rfl g2 (by rfl) (by decide) rfl ?_
  refine Cx.weak q ?_
  rintro v G2 ⟨rfl, h03, hI2⟩
  (repeat (first | refine Ex.go rfl rfl ?_ | refine Ex.gf rfl rfl (by assumption) (by rfl) (by first | rfl | assumption) ?_))
  refine Ex.br (P := r1 = r1) (fun _ => ?_) (fun c => absurd rfl c)
  exact k G2 hI2 h03
theorem L_when (hI : INV G) (h0 : G[0]? = some (cS L xs)) (hn : n + 7 ≤ L) (hL : L ≤ 3584) (k : ∀ G', INV G' → G'[0]? = some (cS L xs) → Ex 12 mL_law (1744, [(0, .ref 0), (1, .ref 1), (2, .ref 364), (3, .int (nI n))], [], G') Q) : Ex 12 mL_law (1414, [(0, .ref 0), (1, .ref 1), (2, .ref 364), (3, .int (nI n))], [], G) Q := by
  have r := P_when (a1 := xs (n + 1)) (a2 := xs (n + 2)) (a3 := xs (n + 3)) (a4 := xs (n + 4)) G L xs hI h0
  obtain ⟨f1, g1⟩ := hI.main
  (repeat (first | refine Ex.go rfl rfl ?_ | refine Ex.gf rfl rfl (by assumption) (by rfl) (by first | rfl | assumption) ?_))
  refine Ex.ialsN rfl (j := n + 1) (nI_add n 1) h0 (by omega) (by omega) ?_
  (repeat (first | refine Ex.go rfl rfl ?_ | refine Ex.gf rfl rfl (by assumption) (by rfl) (by first | rfl | assumption) ?_))
  refine Ex.ialsN rfl (j := n + 2) (nI_add n 2) h0 (by omega) (by omega) ?_
  (repeat (first | refine Ex.go rfl rfl ?_ | refine Ex.gf rfl rfl (by assumption) (by rfl) (by first | rfl | assumption) ?_))
  refine Ex.ialsN rfl (j := n + 3) (nI_add n 3) h0 (by omega) (by omega) ?_
  (repeat (first | refine Ex.go rfl rfl ?_ | refine Ex.gf rfl rfl (by assumption) (by rfl) (by first | rfl | assumption) ?_))
  refine Ex.ialsN rfl (j := n + 4) (nI_add n 4) h0 (by omega) (by omega) ?_
  (repeat (first | refine Ex.go rfl rfl ?_ | refine Ex.gf rfl rfl (by assumption) (by rfl) (by first | rfl | assumption) ?_))
  refine Ex.cv4 rfl rfl rfl g1 (by rfl) (by decide) rfl ?_
  refine Cx.weak r ?_
  rintro v G1 ⟨r1, rfl, h02, ⟨f2, g2⟩, q⟩
  (repeat (first | refine Ex.go rfl rfl ?_ | refine Ex.gf rfl rfl (by assumption) (by rfl) (by first | rfl | assumption) ?_))
  refine Ex.ialsN rfl (j := n + 1) (nI_add n 1) h02 (by omega) (by omega) ?_
  (repeat (first | refine Ex.go rfl rfl ?_ | refine Ex.gf rfl rfl (by assumption) (by rfl) (by first | rfl | assumption) ?_))
  refine Ex.ialsN rfl (j := n + 2) (nI_add n 2) h02 (by omega) (by omega) ?_
  (repeat (first | refine Ex.go rfl rfl ?_ | refine Ex.gf rfl rfl (by assumption) (by rfl) (by first | rfl | assumption) ?_))
  refine Ex.ialsN rfl (j := n + 3) (nI_add n 3) h02 (by omega) (by omega) ?_
  (repeat (first | refine Ex.go rfl rfl ?_ | refine Ex.gf rfl rfl (by assumption) (by rfl) (by first | rfl | assumption) ?_))
  refine Ex.ialsN rfl (j := n + 4) (nI_add n 4) h02 (by omega) (by omega) ?_
  (repeat (first | refine Ex.go rfl rfl ?_ | refine Ex.gf rfl rfl (by assumption) (by rfl) (by first | rfl | assumption) ?_))
  refine Ex.cv4 rfl rfl rfl g2 (by rfl) (by decide) rfl ?_
  refine Cx.weak q ?_
  rintro v G2 ⟨rfl, h03, hI2⟩
  (repeat (first | refine Ex.go rfl rfl ?_ | refine Ex.gf rfl rfl (by assumption) (by rfl) (by first | rfl | assumption) ?_))
  refine Ex.br (P := r1 = r1) (fun _ => ?_) (fun c => absurd rfl c)
  exact k G2 hI2 h03
theorem L_check (hI : INV G) (h0 : G[0]? = some (cS L xs)) (hn : n + 7 ≤ L) (hL : L ≤ 3584) (k : ∀ G', INV G' → G'[0]? = some (cS L xs) → Ex 12 mL_law (1744, [(0, .ref 0), (1, .ref 1), (2, .ref 364), (3, .int (nI n))], [], G') Q) : Ex 12 mL_law (1467, [(0, .ref 0), (1, .ref 1), (2, .ref 364), (3, .int (nI n))], [], G) Q := by
  have r := P_check (a1 := xs (n + 1)) (a2 := xs (n + 2)) (a3 := xs (n + 3)) (a4 := xs (n + 4)) (a5 := xs (n + 5)) G L xs hI h0
  obtain ⟨f1, g1⟩ := hI.main
  (repeat (first | refine Ex.go rfl rfl ?_ | refine Ex.gf rfl rfl (by assumption) (by rfl) (by first | rfl | assumption) ?_))
  refine Ex.ialsN rfl (j := n + 1) (nI_add n 1) h0 (by omega) (by omega) ?_
  (repeat (first | refine Ex.go rfl rfl ?_ | refine Ex.gf rfl rfl (by assumption) (by rfl) (by first | rfl | assumption) ?_))
  refine Ex.ialsN rfl (j := n + 2) (nI_add n 2) h0 (by omega) (by omega) ?_
  (repeat (first | refine Ex.go rfl rfl ?_ | refine Ex.gf rfl rfl (by assumption) (by rfl) (by first | rfl | assumption) ?_))
  refine Ex.ialsN rfl (j := n + 3) (nI_add n 3) h0 (by omega) (by omega) ?_
  (repeat (first | refine Ex.go rfl rfl ?_ | refine Ex.gf rfl rfl (by assumption) (by rfl) (by first | rfl | assumption) ?_))
  refine Ex.ialsN rfl (j := n + 4) (nI_add n 4) h0 (by omega) (by omega) ?_
  (repeat (first | refine Ex.go rfl rfl ?_ | refine Ex.gf rfl rfl (by assumption) (by rfl) (by first | rfl | assumption) ?_))
  refine Ex.ialsN rfl (j := n + 5) (nI_add n 5) h0 (by omega) (by omega) ?_
  (repeat (first | refine Ex.go rfl rfl ?_ | refine Ex.gf rfl rfl (by assumption) (by rfl) (by first | rfl | assumption) ?_))
  refine Ex.cv5 rfl rfl rfl g1 (by rfl) (by decide) rfl ?_
  refine Cx.weak r ?_
  rintro v G1 ⟨r1, rfl, h02, ⟨f2, g2⟩, q⟩
  (repeat (first | refine Ex.go rfl rfl ?_ | refine Ex.gf rfl rfl (by assumption) (by rfl) (by first | rfl | assumption) ?_))
  refine Ex.ialsN rfl (j := n + 1) (nI_add n 1) h02 (by omega) (by omega) ?_
  (repeat (first | refine Ex.go rfl rfl ?_ | refine Ex.gf rfl rfl (by assumption) (by rfl) (by first | rfl | assumption) ?_))
  refine Ex.ialsN rfl (j := n + 2) (nI_add n 2) h02 (by omega) (by omega) ?_
  (repeat (first | refine Ex.go rfl rfl ?_ | refine Ex.gf rfl rfl (by assumption) (by rfl) (by first | rfl | assumption) ?_))
  refine Ex.ialsN rfl (j := n + 3) (nI_add n 3) h02 (by omega) (by omega) ?_
  (repeat (first | refine Ex.go rfl rfl ?_ | refine Ex.gf rfl rfl (by assumption) (by rfl) (by first | rfl | assumption) ?_))
  refine Ex.ialsN rfl (j := n + 4) (nI_add n 4) h02 (by omega) (by omega) ?_
  (repeat (first | refine Ex.go rfl rfl ?_ | refine Ex.gf rfl rfl (by assumption) (by rfl) (by first | rfl | assumption) ?_))
  refine Ex.ialsN rfl (j := n + 5) (nI_add n 5) h02 (by omega) (by omega) ?_
  (repeat (first | refine Ex.go rfl rfl ?_ | refine Ex.gf rfl rfl (by assumption) (by rfl) (by first | rfl | assumption) ?_))
  refine Ex.cv5 rfl rfl rfl g2 (by rfl) (by decide) rfl ?_
  refine Cx.weak q ?_
  rintro v G2 ⟨rfl, h03, hI2⟩
  (repeat (first | refine Ex.go rfl rfl ?_ | refine Ex.gf rfl rfl (by assumption) (by rfl) (by first | rfl | assumption) ?_))
  refine Ex.br (P := r1 = r1) (fun _ => ?_) (fun c => absurd rfl c)
  exact k G2 hI2 h03
theorem L_list (hI : INV G) (h0 : G[0]? = some (cS L xs)) (hn : n + 7 ≤ L) (hL : L ≤ 3584) (k : ∀ G', INV G' → G'[0]? = some (cS L xs) → Ex 12 mL_law (1744, [(0, .ref 0), (1, .ref 1), (2, .ref 364), (3, .int (nI n))], [], G') Q) : Ex 12 mL_law (1530, [(0, .ref 0), (1, .ref 1), (2, .ref 364), (3, .int (nI n))], [], G) Q := by
  have r := P_list (a1 := xs (n + 1)) (a2 := xs (n + 2)) G L xs hI h0
  obtain ⟨f1, g1⟩ := hI.main
  (repeat (first | refine Ex.go rfl rfl ?_ | refine Ex.gf rfl rfl (by assumption) (by rfl) (by first | rfl | assumption) ?_))
  refine Ex.ialsN rfl (j := n + 1) (nI_add n 1) h0 (by omega) (by omega) ?_
  (repeat (first | refine Ex.go rfl rfl ?_ | refine Ex.gf rfl rfl (by assumption) (by rfl) (by first | rfl | assumption) ?_))
  refine Ex.ialsN rfl (j := n + 2) (nI_add n 2) h0 (by omega) (by omega) ?_
  (repeat (first | refine Ex.go rfl rfl ?_ | refine Ex.gf rfl rfl (by assumption) (by rfl) (by first | rfl | assumption) ?_))
  refine Ex.cv2 rfl rfl rfl g1 (by rfl) (by decide) rfl ?_
  refine Cx.weak r ?_
  rintro v G1 ⟨r1, rfl, h02, ⟨f2, g2⟩, q⟩
  (repeat (first | refine Ex.go rfl rfl ?_ | refine Ex.gf rfl rfl (by assumption) (by rfl) (by first | rfl | assumption) ?_))
  refine Ex.ialsN rfl (j := n + 1) (nI_add n 1) h02 (by omega) (by omega) ?_
  (repeat (first | refine Ex.go rfl rfl ?_ | refine Ex.gf rfl rfl (by assumption) (by rfl) (by first | rfl | assumption) ?_))
  refine Ex.ialsN rfl (j := n + 2) (nI_add n 2) h02 (by omega) (by omega) ?_
  (repeat (first | refine Ex.go rfl rfl ?_ | refine Ex.gf rfl rfl (by assumption) (by rfl) (by first | rfl | assumption) ?_))
  refine Ex.cv2 rfl rfl rfl g2 (by rfl) (by decide) rfl ?_
  refine Cx.weak q ?_
  rintro v G2 ⟨rfl, h03, hI2⟩
  (repeat (first | refine Ex.go rfl rfl ?_ | refine Ex.gf rfl rfl (by assumption) (by rfl) (by first | rfl | assumption) ?_))
  refine Ex.br (P := r1 = r1) (fun _ => ?_) (fun c => absurd rfl c)
  exact k G2 hI2 h03
theorem L_listed (hI : INV G) (h0 : G[0]? = some (cS L xs)) (hn : n + 7 ≤ L) (hL : L ≤ 3584) (k : ∀ G', INV G' → G'[0]? = some (cS L xs) → Ex 12 mL_law (1744, [(0, .ref 0), (1, .ref 1), (2, .ref 364), (3, .int (nI n))], [], G') Q) : Ex 12 mL_law (1563, [(0, .ref 0), (1, .ref 1), (2, .ref 364), (3, .int (nI n))], [], G) Q := by
  have r := P_listed (a1 := xs (n + 1)) (a2 := xs (n + 2)) G L xs hI h0
  obtain ⟨f1, g1⟩ := hI.main
  (repeat (first | refine Ex.go rfl rfl ?_ | refine Ex.gf rfl rfl (by assumption) (by rfl) (by first | rfl | assumption) ?_))
  refine Ex.ialsN rfl (j := n + 1) (nI_add n 1) h0 (by omega) (by omega) ?_
  (repeat (first | refine Ex.go rfl rfl ?_ | refine Ex.gf rfl rfl (by assumption) (by rfl) (by first | rfl | assumption) ?_))
  refine Ex.ialsN rfl (j := n + 2) (nI_add n 2) h0 (by omega) (by omega) ?_
  (repeat (first | refine Ex.go rfl rfl ?_ | refine Ex.gf rfl rfl (by assumption) (by rfl) (by first | rfl | assumption) ?_))
  refine Ex.cv2 rfl rfl rfl g1 (by rfl) (by decide) rfl ?_
  refine Cx.weak r ?_
  rintro v G1 ⟨r1, rfl, h02, ⟨f2, g2⟩, q⟩
  (repeat (first | refine Ex.go rfl rfl ?_ | refine Ex.gf rfl rfl (by assumption) (by rfl) (by first | rfl | assumption) ?_))
  refine Ex.ialsN rfl (j := n + 1) (nI_add n 1) h02 (by omega) (by omega) ?_
  (repeat (first | refine Ex.go rfl rfl ?_ | refine Ex.gf rfl rfl (by assumption) (by rfl) (by first | rfl | assumption) ?_))
  refine Ex.ialsN rfl (j := n + 2) (nI_add n 2) h02 (by omega) (by omega) ?_
  (repeat (first | refine Ex.go rfl rfl ?_ | refine Ex.gf rfl rfl (by assumption) (by rfl) (by first | rfl | assumption) ?_))
  refine Ex.cv2 rfl rfl rfl g2 (by rfl) (by decide) rfl ?_
  refine Cx.weak q ?_
  rintro v G2 ⟨rfl, h03, hI2⟩
  (repeat (first | refine Ex.go rfl rfl ?_ | refine Ex.gf rfl rfl (by assumption) (by rfl) (by first | rfl | assumption) ?_))
  refine Ex.br (P := r1 = r1) (fun _ => ?_) (fun c => absurd rfl c)
  exact k G2 hI2 h03
theorem L_image (hI : INV G) (h0 : G[0]? = some (cS L xs)) (hn : n + 7 ≤ L) (hL : L ≤ 3584) (k : ∀ G', INV G' → G'[0]? = some (cS L xs) → Ex 12 mL_law (1744, [(0, .ref 0), (1, .ref 1), (2, .ref 364), (3, .int (nI n))], [], G') Q) : Ex 12 mL_law (1596, [(0, .ref 0), (1, .ref 1), (2, .ref 364), (3, .int (nI n))], [], G) Q := by
  have r := P_image  G L xs hI h0
  obtain ⟨f1, g1⟩ := hI.main
  (repeat (first | refine Ex.go rfl rfl ?_ | refine Ex.gf rfl rfl (by assumption) (by rfl) (by first | rfl | assumption) ?_))
  refine Ex.cv0 rfl rfl rfl g1 (by rfl) (by decide) rfl ?_
  refine Cx.weak r ?_
  rintro v G1 ⟨r1, rfl, h02, ⟨f2, g2⟩, q⟩
  (repeat (first | refine Ex.go rfl rfl ?_ | refine Ex.gf rfl rfl (by assumption) (by rfl) (by first | rfl | assumption) ?_))
  refine Ex.cv0 rfl rfl rfl g2 (by rfl) (by decide) rfl ?_
  refine Cx.weak q ?_
  rintro v G2 ⟨rfl, h03, hI2⟩
  (repeat (first | refine Ex.go rfl rfl ?_ | refine Ex.gf rfl rfl (by assumption) (by rfl) (by first | rfl | assumption) ?_))
  refine Ex.br (P := r1 = r1) (fun _ => ?_) (fun c => absurd rfl c)
  exact k G2 hI2 h03
theorem L_imageAt (hI : INV G) (h0 : G[0]? = some (cS L xs)) (hn : n + 7 ≤ L) (hL : L ≤ 3584) (k : ∀ G', INV G' → G'[0]? = some (cS L xs) → Ex 12 mL_law (1744, [(0, .ref 0), (1, .ref 1), (2, .ref 364), (3, .int (nI n))], [], G') Q) : Ex 12 mL_law (1609, [(0, .ref 0), (1, .ref 1), (2, .ref 364), (3, .int (nI n))], [], G) Q := by
  have r := P_imageAt (a1 := xs (n + 1)) G L xs hI h0
  obtain ⟨f1, g1⟩ := hI.main
  (repeat (first | refine Ex.go rfl rfl ?_ | refine Ex.gf rfl rfl (by assumption) (by rfl) (by first | rfl | assumption) ?_))
  refine Ex.ialsN rfl (j := n + 1) (nI_add n 1) h0 (by omega) (by omega) ?_
  (repeat (first | refine Ex.go rfl rfl ?_ | refine Ex.gf rfl rfl (by assumption) (by rfl) (by first | rfl | assumption) ?_))
  refine Ex.cv1 rfl rfl rfl g1 (by rfl) (by decide) rfl ?_
  refine Cx.weak r ?_
  rintro v G1 ⟨r1, rfl, h02, ⟨f2, g2⟩, q⟩
  (repeat (first | refine Ex.go rfl rfl ?_ | refine Ex.gf rfl rfl (by assumption) (by rfl) (by first | rfl | assumption) ?_))
  refine Ex.ialsN rfl (j := n + 1) (nI_add n 1) h02 (by omega) (by omega) ?_
  (repeat (first | refine Ex.go rfl rfl ?_ | refine Ex.gf rfl rfl (by assumption) (by rfl) (by first | rfl | assumption) ?_))
  refine Ex.cv1 rfl rfl rfl g2 (by rfl) (by decide) rfl ?_
  refine Cx.weak q ?_
  rintro v G2 ⟨rfl, h03, hI2⟩
  (repeat (first | refine Ex.go rfl rfl ?_ | refine Ex.gf rfl rfl (by assumption) (by rfl) (by first | rfl | assumption) ?_))
  refine Ex.br (P := r1 = r1) (fun _ => ?_) (fun c => absurd rfl c)
  exact k G2 hI2 h03
theorem L_feed (hI : INV G) (h0 : G[0]? = some (cS L xs)) (hn : n + 7 ≤ L) (hL : L ≤ 3584) (k : ∀ G', INV G' → G'[0]? = some (cS L xs) → Ex 12 mL_law (1744, [(0, .ref 0), (1, .ref 1), (2, .ref 364), (3, .int (nI n))], [], G') Q) : Ex 12 mL_law (1632, [(0, .ref 0), (1, .ref 1), (2, .ref 364), (3, .int (nI n))], [], G) Q := by
  have r := P_feed (a1 := xs (n + 1)) (a2 := xs (n + 2)) (a3 := xs (n + 3)) (a4 := xs (n + 4)) (a5 := xs (n + 5)) G L xs hI h0
  obtain ⟨f1, g1⟩ := hI.main
  (repeat (first | refine Ex.go rfl rfl ?_ | refine Ex.gf rfl rfl (by assumption) (by rfl) (by first | rfl | assumption) ?_))
  refine Ex.ialsN rfl (j := n + 1) (nI_add n 1) h0 (by omega) (by omega) ?_
  (repeat (first | refine Ex.go rfl rfl ?_ | refine Ex.gf rfl rfl (by assumption) (by rfl) (by first | rfl | assumption) ?_))
  refine Ex.ialsN rfl (j := n + 2) (nI_add n 2) h0 (by omega) (by omega) ?_
  (repeat (first | refine Ex.go rfl rfl ?_ | refine Ex.gf rfl rfl (by assumption) (by rfl) (by first | rfl | assumption) ?_))
  refine Ex.ialsN rfl (j := n + 3) (nI_add n 3) h0 (by omega) (by omega) ?_
  (repeat (first | refine Ex.go rfl rfl ?_ | refine Ex.gf rfl rfl (by assumption) (by rfl) (by first | rfl | assumption) ?_))
  refine Ex.ialsN rfl (j := n + 4) (nI_add n 4) h0 (by omega) (by omega) ?_
  (repeat (first | refine Ex.go rfl rfl ?_ | refine Ex.gf rfl rfl (by assumption) (by rfl) (by first | rfl | assumption) ?_))
  refine Ex.ialsN rfl (j := n + 5) (nI_add n 5) h0 (by omega) (by omega) ?_
  (repeat (first | refine Ex.go rfl rfl ?_ | refine Ex.gf rfl rfl (by assumption) (by rfl) (by first | rfl | assumption) ?_))
  refine Ex.cv5 rfl rfl rfl g1 (by rfl) (by decide) rfl ?_
  refine Cx.weak r ?_
  rintro v G1 ⟨r1, rfl, h02, ⟨f2, g2⟩, q⟩
  (repeat (first | refine Ex.go rfl rfl ?_ | refine Ex.gf rfl rfl (by assumption) (by rfl) (by first | rfl | assumption) ?_))
  refine Ex.ialsN rfl (j := n + 1) (nI_add n 1) h02 (by omega) (by omega) ?_
  (repeat (first | refine Ex.go rfl rfl ?_ | refine Ex.gf rfl rfl (by assumption) (by rfl) (by first | rfl | assumption) ?_))
  refine Ex.ialsN rfl (j := n + 2) (nI_add n 2) h02 (by omega) (by omega) ?_
  (repeat (first | refine Ex.go rfl rfl ?_ | refine Ex.gf rfl rfl (by assumption) (by rfl) (by first | rfl | assumption) ?_))
  refine Ex.ialsN rfl (j := n + 3) (nI_add n 3) h02 (by omega) (by omega) ?_
  (repeat (first | refine Ex.go rfl rfl ?_ | refine Ex.gf rfl rfl (by assumption) (by rfl) (by first | rfl | assumption) ?_))
  refine Ex.ialsN rfl (j := n + 4) (nI_add n 4) h02 (by omega) (by omega) ?_
  (repeat (first | refine Ex.go rfl rfl ?_ | refine Ex.gf rfl rfl (by assumption) (by rfl) (by first | rfl | assumption) ?_))
  refine Ex.ialsN rfl (j := n + 5) (nI_add n 5) h02 (by omega) (by omega) ?_
  (repeat (first | refine Ex.go rfl rfl ?_ | refine Ex.gf rfl rfl (by assumption) (by rfl) (by first | rfl | assumption) ?_))
  refine Ex.cv5 rfl rfl rfl g2 (by rfl) (by decide) rfl ?_
  refine Cx.weak q ?_
  rintro v G2 ⟨rfl, h03, hI2⟩
  (repeat (first | refine Ex.go rfl rfl ?_ | refine Ex.gf rfl rfl (by assumption) (by rfl) (by first | rfl | assumption) ?_))
  refine Ex.br (P := r1 = r1) (fun _ => ?_) (fun c => absurd rfl c)
  exact k G2 hI2 h03
theorem L_end (hI : INV G) (h0 : G[0]? = some (cS L xs)) (hn : n + 7 ≤ L) (hL : L ≤ 3584) (k : ∀ G', INV G' → G'[0]? = some (cS L xs) → Ex 12 mL_law (1744, [(0, .ref 0), (1, .ref 1), (2, .ref 364), (3, .int (nI n))], [], G') Q) : Ex 12 mL_law (1695, [(0, .ref 0), (1, .ref 1), (2, .ref 364), (3, .int (nI n))], [], G) Q := by
  have r := P_end (a1 := xs (n + 1)) G L xs hI h0
  obtain ⟨f1, g1⟩ := hI.main
  (repeat (first | refine Ex.go rfl rfl ?_ | refine Ex.gf rfl rfl (by assumption) (by rfl) (by first | rfl | assumption) ?_))
  refine Ex.ialsN rfl (j := n + 1) (nI_add n 1) h0 (by omega) (by omega) ?_
  (repeat (first | refine Ex.go rfl rfl ?_ | refine Ex.gf rfl rfl (by assumption) (by rfl) (by first | rfl | assumption) ?_))
  refine Ex.cv1 rfl rfl rfl g1 (by rfl) (by decide) rfl ?_
  refine Cx.weak r ?_
  rintro v G1 ⟨r1, rfl, h02, ⟨f2, g2⟩, q⟩
  (repeat (first | refine Ex.go rfl rfl ?_ | refine Ex.gf rfl rfl (by assumption) (by rfl) (by first | rfl | assumption) ?_))
  refine Ex.ialsN rfl (j := n + 1) (nI_add n 1) h02 (by omega) (by omega) ?_
  (repeat (first | refine Ex.go rfl rfl ?_ | refine Ex.gf rfl rfl (by assumption) (by rfl) (by first | rfl | assumption) ?_))
  refine Ex.cv1 rfl rfl rfl g2 (by rfl) (by decide) rfl ?_
  refine Cx.weak q ?_
  rintro v G2 ⟨rfl, h03, hI2⟩
  (repeat (first | refine Ex.go rfl rfl ?_ | refine Ex.gf rfl rfl (by assumption) (by rfl) (by first | rfl | assumption) ?_))
  refine Ex.br (P := r1 = r1) (fun _ => ?_) (fun c => absurd rfl c)
  exact k G2 hI2 h03
theorem L_again (hI : INV G) (h0 : G[0]? = some (cS L xs)) (hn : n + 7 ≤ L) (hL : L ≤ 3584) (k : ∀ G', INV G' → G'[0]? = some (cS L xs) → Ex 12 mL_law (1744, [(0, .ref 0), (1, .ref 1), (2, .ref 364), (3, .int (nI n))], [], G') Q) : Ex 12 mL_law (1718, [(0, .ref 0), (1, .ref 1), (2, .ref 364), (3, .int (nI n))], [], G) Q := by
  have r := P_again  G L xs hI h0
  obtain ⟨f1, g1⟩ := hI.main
  (repeat (first | refine Ex.go rfl rfl ?_ | refine Ex.gf rfl rfl (by assumption) (by rfl) (by first | rfl | assumption) ?_))
  refine Ex.cv0 rfl rfl rfl g1 (by rfl) (by decide) rfl ?_
  refine Cx.weak r ?_
  rintro v G1 ⟨r1, rfl, h02, ⟨f2, g2⟩, q⟩
  (repeat (first | refine Ex.go rfl rfl ?_ | refine Ex.gf rfl rfl (by assumption) (by rfl) (by first | rfl | assumption) ?_))
  refine Ex.cv0 rfl rfl rfl g2 (by rfl) (by decide) rfl ?_
  refine Cx.weak q ?_
  rintro v G2 ⟨rfl, h03, hI2⟩
  (repeat (first | refine Ex.go rfl rfl ?_ | refine Ex.gf rfl rfl (by assumption) (by rfl) (by first | rfl | assumption) ?_))
  refine Ex.br (P := r1 = r1) (fun _ => ?_) (fun c => absurd rfl c)
  exact k G2 hI2 h03
theorem L_restore (hI : INV G) (h0 : G[0]? = some (cS L xs)) (hn : n + 7 ≤ L) (hL : L ≤ 3584) (k : ∀ G', INV G' → G'[0]? = some (cS L xs) → Ex 12 mL_law (1744, [(0, .ref 0), (1, .ref 1), (2, .ref 364), (3, .int (nI n))], [], G') Q) : Ex 12 mL_law (1731, [(0, .ref 0), (1, .ref 1), (2, .ref 364), (3, .int (nI n))], [], G) Q := by
  have r := P_restore  G L xs hI h0
  obtain ⟨f1, g1⟩ := hI.main
  (repeat (first | refine Ex.go rfl rfl ?_ | refine Ex.gf rfl rfl (by assumption) (by rfl) (by first | rfl | assumption) ?_))
  refine Ex.cv0 rfl rfl rfl g1 (by rfl) (by decide) rfl ?_
  refine Cx.weak r ?_
  rintro v G1 ⟨r1, rfl, h02, ⟨f2, g2⟩, q⟩
  (repeat (first | refine Ex.go rfl rfl ?_ | refine Ex.gf rfl rfl (by assumption) (by rfl) (by first | rfl | assumption) ?_))
  refine Ex.cv0 rfl rfl rfl g2 (by rfl) (by decide) rfl ?_
  refine Cx.weak q ?_
  rintro v G2 ⟨rfl, h03, hI2⟩
  (repeat (first | refine Ex.go rfl rfl ?_ | refine Ex.gf rfl rfl (by assumption) (by rfl) (by first | rfl | assumption) ?_))
  refine Ex.br (P := r1 = r1) (fun _ => ?_) (fun c => absurd rfl c)
  exact k G2 hI2 h03
end LA

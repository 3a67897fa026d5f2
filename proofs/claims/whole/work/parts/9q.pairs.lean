/-! Both calls answer alike. -/
section PR
variable {a1 a2 a3 a4 a5 a6 : Int32}
theorem SHr.drop {sh shs : Int32} {gv : Nat → Int32} {es : List Int32} (h : SHr sh shs gv es) : SHr (-1) shs gv [] := by
  refine ⟨Or.inl ⟨rfl, rfl, ?_⟩, Nat.zero_le _⟩
  have hl := h.2
  rcases h.1 with q | q
  · exact q.2.2
  · rw [q.2.1, nI_toInt (by omega)]
    omega
theorem P_vessel : Pair mX10_vessel mX11_vessel [.int a1, .int a2, .int a3, .int a4] := by
  rintro G L xs ⟨b, us, ws, lg, E, fx, st, sh, shs, gv, es, mn, ls, on, ks, ts, rs, K, R, Z, S, Ls⟩ h0
  have hW := K.2.1.2.1
  have hE := K.E6
  have hL : 378 ≤ G.length := by have := K.2.2.2.1; omega
  refine k_vessel K (fun hr G1 K1 F1 => ?_) (fun hr G1 us' K1 F1 => ?_)
  · have R1 := R.fk F1
    obtain ⟨im, hRT, back⟩ := R1.rt
    refine ⟨_, rfl, (F1 0 (Or.inl rfl)).trans h0, R1.cell, ?_⟩
    refine r_vessel hRT hW (by have := K1.2.2.2.1; omega) (fun _ G2 nn' T F2 => ?_) (fun hr' => absurd hr (by rw [hr']; decide))
    obtain ⟨R2, F3⟩ := back G2 _ _ _ _ _ _ _ T F2
    obtain ⟨K2, z⟩ := K1.fr F3
    exact ⟨rfl, z.trans ((F1 0 (Or.inl rfl)).trans h0), b, us, ws, lg, E, fx, _, sh, shs, gv, es, mn, ls, on, ks, ts, rs, K2, R2, Z, S, Ls⟩
  · have R1 := R.fk F1
    obtain ⟨im, hRT, back⟩ := R1.rt
    refine ⟨_, rfl, (F1 0 (Or.inl rfl)).trans h0, R1.cell, ?_⟩
    refine r_vessel hRT hW (by have := K1.2.2.2.1; omega) (fun hr' => absurd hr' (by rw [hr]; decide)) (fun _ G2 nn' T F2 => ?_)
    obtain ⟨R2, F3⟩ := back G2 _ _ _ _ _ _ _ T F2
    obtain ⟨K2, z⟩ := K1.fr F3
    exact ⟨rfl, z.trans ((F1 0 (Or.inl rfl)).trans h0), b, us', ws, _, E + 1, fx, 0, sh, shs, gv, es, mn, ls, on, ks, ts, rs, K2, R2, ZP_N Z, S, Ls⟩
theorem P_part : Pair mX10_part mX11_part [.int a1, .int a2, .int a3, .int a4, .int a5, .int a6] := by
  rintro G L xs ⟨b, us, ws, lg, E, fx, st, sh, shs, gv, es, mn, ls, on, ks, ts, rs, K, R, Z, S, Ls⟩ h0
  have hW := K.2.1.2.1
  have hE := K.E6
  have hL : 378 ≤ G.length := by have := K.2.2.2.1; omega
  refine k_part K (fun hr G1 K1 F1 => ?_) (fun hr G1 us' K1 F1 => ?_)
  · have R1 := R.fk F1
    obtain ⟨im, hRT, back⟩ := R1.rt
    refine ⟨_, rfl, (F1 0 (Or.inl rfl)).trans h0, R1.cell, ?_⟩
    refine r_part hRT hW (by have := K1.2.2.2.1; omega) (fun _ G2 nn' T F2 => ?_) (fun hr' => absurd hr (by rw [hr']; decide))
    obtain ⟨R2, F3⟩ := back G2 _ _ _ _ _ _ _ T F2
    obtain ⟨K2, z⟩ := K1.fr F3
    exact ⟨rfl, z.trans ((F1 0 (Or.inl rfl)).trans h0), b, us, ws, lg, E, fx, _, sh, shs, gv, es, mn, ls, on, ks, ts, rs, K2, R2, Z, S, Ls⟩
  · have R1 := R.fk F1
    obtain ⟨im, hRT, back⟩ := R1.rt
    refine ⟨_, rfl, (F1 0 (Or.inl rfl)).trans h0, R1.cell, ?_⟩
    refine r_part hRT hW (by have := K1.2.2.2.1; omega) (fun hr' => absurd hr' (by rw [hr]; decide)) (fun _ G2 nn' T F2 => ?_)
    obtain ⟨R2, F3⟩ := back G2 _ _ _ _ _ _ _ T F2
    obtain ⟨K2, z⟩ := K1.fr F3
    exact ⟨rfl, z.trans ((F1 0 (Or.inl rfl)).trans h0), b, us', ws, _, E + 1, fx, 0, sh, shs, gv, es, mn, ls, on, ks, ts, rs, K2, R2, ZP_N Z, S, Ls⟩
theorem P_shape : Pair mX10_shape mX11_shape [.int a1, .int a2, .int a3, .int a4, .int a5] := by
  rintro G L xs ⟨b, us, ws, lg, E, fx, st, sh, shs, gv, es, mn, ls, on, ks, ts, rs, K, R, Z, S, Ls⟩ h0
  have hW := K.2.1.2.1
  have hE := K.E6
  have hL : 378 ≤ G.length := by have := K.2.2.2.1; omega
  refine k_shape K (fun hr G1 K1 F1 => ?_) (fun hr G1 us' K1 F1 => ?_)
  · have R1 := R.fk F1
    obtain ⟨im, hRT, back⟩ := R1.rt
    refine ⟨_, rfl, (F1 0 (Or.inl rfl)).trans h0, R1.cell, ?_⟩
    refine r_shape hRT hW (by have := K1.2.2.2.1; omega) (fun _ G2 nn' T F2 => ?_) (fun hr' => absurd hr (by rw [hr']; decide))
    obtain ⟨R2, F3⟩ := back G2 _ _ _ _ _ _ _ T F2
    obtain ⟨K2, z⟩ := K1.fr F3
    exact ⟨rfl, z.trans ((F1 0 (Or.inl rfl)).trans h0), b, us, ws, lg, E, fx, _, sh, shs, gv, es, mn, ls, on, ks, ts, rs, K2, R2, Z, S, Ls⟩
  · have R1 := R.fk F1
    obtain ⟨im, hRT, back⟩ := R1.rt
    refine ⟨_, rfl, (F1 0 (Or.inl rfl)).trans h0, R1.cell, ?_⟩
    refine r_shape hRT hW (by have := K1.2.2.2.1; omega) (fun hr' => absurd hr' (by rw [hr]; decide)) (fun _ G2 nn' T F2 => ?_)
    obtain ⟨R2, F3⟩ := back G2 _ _ _ _ _ _ _ T F2
    obtain ⟨K2, z⟩ := K1.fr F3
    exact ⟨rfl, z.trans ((F1 0 (Or.inl rfl)).trans h0), b, us', ws, _, E + 1, fx, 0, sh, shs, gv, es, mn, ls, on, ks, ts, rs, K2, R2, ZP_N Z, S, Ls⟩
theorem P_patch : Pair mX10_patch mX11_patch [.int a1, .int a2, .int a3, .int a4, .int a5, .int a6] := by
  rintro G L xs ⟨b, us, ws, lg, E, fx, st, sh, shs, gv, es, mn, ls, on, ks, ts, rs, K, R, Z, S, Ls⟩ h0
  have hW := K.2.1.2.1
  have hE := K.E6
  have hL : 378 ≤ G.length := by have := K.2.2.2.1; omega
  refine k_patch K (fun hr G1 K1 F1 => ?_) (fun hr G1 us' K1 F1 => ?_)
  · have R1 := R.fk F1
    obtain ⟨im, hRT, back⟩ := R1.rt
    refine ⟨_, rfl, (F1 0 (Or.inl rfl)).trans h0, R1.cell, ?_⟩
    refine r_patch hRT hW (by have := K1.2.2.2.1; omega) (fun _ G2 nn' T F2 => ?_) (fun hr' => absurd hr (by rw [hr']; decide))
    obtain ⟨R2, F3⟩ := back G2 _ _ _ _ _ _ _ T F2
    obtain ⟨K2, z⟩ := K1.fr F3
    exact ⟨rfl, z.trans ((F1 0 (Or.inl rfl)).trans h0), b, us, ws, lg, E, fx, _, sh, shs, gv, es, mn, ls, on, ks, ts, rs, K2, R2, Z, S, Ls⟩
  · have R1 := R.fk F1
    obtain ⟨im, hRT, back⟩ := R1.rt
    refine ⟨_, rfl, (F1 0 (Or.inl rfl)).trans h0, R1.cell, ?_⟩
    refine r_patch hRT hW (by have := K1.2.2.2.1; omega) (fun hr' => absurd hr' (by rw [hr]; decide)) (fun _ G2 nn' T F2 => ?_)
    obtain ⟨R2, F3⟩ := back G2 _ _ _ _ _ _ _ T F2
    obtain ⟨K2, z⟩ := K1.fr F3
    exact ⟨rfl, z.trans ((F1 0 (Or.inl rfl)).trans h0), b, us', ws, _, E + 1, fx, 0, sh, shs, gv, es, mn, ls, on, ks, ts, rs, K2, R2, ZP_N Z, S, Ls⟩
theorem P_plate : Pair mX10_plate mX11_plate [.int a1, .int a2, .int a3, .int a4] := by
  rintro G L xs ⟨b, us, ws, lg, E, fx, st, sh, shs, gv, es, mn, ls, on, ks, ts, rs, K, R, Z, S, Ls⟩ h0
  have hW := K.2.1.2.1
  have hE := K.E6
  have hL : 378 ≤ G.length := by have := K.2.2.2.1; omega
  refine k_plate K (fun hr G1 K1 F1 => ?_) (fun hr G1 us' K1 F1 => ?_)
  · have R1 := R.fk F1
    obtain ⟨im, hRT, back⟩ := R1.rt
    refine ⟨_, rfl, (F1 0 (Or.inl rfl)).trans h0, R1.cell, ?_⟩
    refine r_plate hRT hW (by have := K1.2.2.2.1; omega) (fun _ G2 nn' T F2 => ?_) (fun hr' => absurd hr (by rw [hr']; decide))
    obtain ⟨R2, F3⟩ := back G2 _ _ _ _ _ _ _ T F2
    obtain ⟨K2, z⟩ := K1.fr F3
    exact ⟨rfl, z.trans ((F1 0 (Or.inl rfl)).trans h0), b, us, ws, lg, E, fx, _, sh, shs, gv, es, mn, ls, on, ks, ts, rs, K2, R2, Z, S, Ls⟩
  · have R1 := R.fk F1
    obtain ⟨im, hRT, back⟩ := R1.rt
    refine ⟨_, rfl, (F1 0 (Or.inl rfl)).trans h0, R1.cell, ?_⟩
    refine r_plate hRT hW (by have := K1.2.2.2.1; omega) (fun hr' => absurd hr' (by rw [hr]; decide)) (fun _ G2 nn' T F2 => ?_)
    obtain ⟨R2, F3⟩ := back G2 _ _ _ _ _ _ _ T F2
    obtain ⟨K2, z⟩ := K1.fr F3
    exact ⟨rfl, z.trans ((F1 0 (Or.inl rfl)).trans h0), b, us', ws, _, E + 1, fx, 0, sh, shs, gv, es, mn, ls, on, ks, ts, rs, K2, R2, ZP_N Z, S, Ls⟩
theorem P_plug : Pair mX10_plug mX11_plug [.int a1, .int a2, .int a3, .int a4] := by
  rintro G L xs ⟨b, us, ws, lg, E, fx, st, sh, shs, gv, es, mn, ls, on, ks, ts, rs, K, R, Z, S, Ls⟩ h0
  have hW := K.2.1.2.1
  have hE := K.E6
  have hL : 378 ≤ G.length := by have := K.2.2.2.1; omega
  refine k_plug K (fun hr G1 K1 F1 => ?_) (fun hr G1 us' K1 F1 => ?_)
  · have R1 := R.fk F1
    obtain ⟨im, hRT, back⟩ := R1.rt
    refine ⟨_, rfl, (F1 0 (Or.inl rfl)).trans h0, R1.cell, ?_⟩
    refine r_plug hRT hW (by have := K1.2.2.2.1; omega) (fun _ G2 nn' T F2 => ?_) (fun hr' => absurd hr (by rw [hr']; decide))
    obtain ⟨R2, F3⟩ := back G2 _ _ _ _ _ _ _ T F2
    obtain ⟨K2, z⟩ := K1.fr F3
    exact ⟨rfl, z.trans ((F1 0 (Or.inl rfl)).trans h0), b, us, ws, lg, E, fx, _, sh, shs, gv, es, mn, ls, on, ks, ts, rs, K2, R2, Z, S, Ls⟩
  · have R1 := R.fk F1
    obtain ⟨im, hRT, back⟩ := R1.rt
    refine ⟨_, rfl, (F1 0 (Or.inl rfl)).trans h0, R1.cell, ?_⟩
    refine r_plug hRT hW (by have := K1.2.2.2.1; omega) (fun hr' => absurd hr' (by rw [hr]; decide)) (fun _ G2 nn' T F2 => ?_)
    obtain ⟨R2, F3⟩ := back G2 _ _ _ _ _ _ _ T F2
    obtain ⟨K2, z⟩ := K1.fr F3
    exact ⟨rfl, z.trans ((F1 0 (Or.inl rfl)).trans h0), b, us', ws, _, E + 1, fx, 0, sh, shs, gv, es, mn, ls, on, ks, ts, rs, K2, R2, ZP_N Z, S, Ls⟩
theorem P_valve : Pair mX10_valve mX11_valve [.int a1, .int a2, .int a3, .int a4] := by
  rintro G L xs ⟨b, us, ws, lg, E, fx, st, sh, shs, gv, es, mn, ls, on, ks, ts, rs, K, R, Z, S, Ls⟩ h0
  have hW := K.2.1.2.1
  have hE := K.E6
  have hL : 378 ≤ G.length := by have := K.2.2.2.1; omega
  refine k_valve K (fun hr G1 K1 F1 => ?_) (fun hr G1 us' K1 F1 => ?_)
  · have R1 := R.fk F1
    obtain ⟨im, hRT, back⟩ := R1.rt
    refine ⟨_, rfl, (F1 0 (Or.inl rfl)).trans h0, R1.cell, ?_⟩
    refine r_valve hRT hW (by have := K1.2.2.2.1; omega) (fun _ G2 nn' T F2 => ?_) (fun hr' => absurd hr (by rw [hr']; decide))
    obtain ⟨R2, F3⟩ := back G2 _ _ _ _ _ _ _ T F2
    obtain ⟨K2, z⟩ := K1.fr F3
    exact ⟨rfl, z.trans ((F1 0 (Or.inl rfl)).trans h0), b, us, ws, lg, E, fx, _, sh, shs, gv, es, mn, ls, on, ks, ts, rs, K2, R2, Z, S, Ls⟩
  · have R1 := R.fk F1
    obtain ⟨im, hRT, back⟩ := R1.rt
    refine ⟨_, rfl, (F1 0 (Or.inl rfl)).trans h0, R1.cell, ?_⟩
    refine r_valve hRT hW (by have := K1.2.2.2.1; omega) (fun hr' => absurd hr' (by rw [hr]; decide)) (fun _ G2 nn' T F2 => ?_)
    obtain ⟨R2, F3⟩ := back G2 _ _ _ _ _ _ _ T F2
    obtain ⟨K2, z⟩ := K1.fr F3
    exact ⟨rfl, z.trans ((F1 0 (Or.inl rfl)).trans h0), b, us', ws, _, E + 1, fx, 0, sh, shs, gv, es, mn, ls, on, ks, ts, rs, K2, R2, ZP_N Z, S, Ls⟩
theorem P_set : Pair mX10_set mX11_set [.int a1, .int a2, .int a3, .int a4] := by
  rintro G L xs ⟨b, us, ws, lg, E, fx, st, sh, shs, gv, es, mn, ls, on, ks, ts, rs, K, R, Z, S, Ls⟩ h0
  have hW := K.2.1.2.1
  have hE := K.E6
  have hL : 378 ≤ G.length := by have := K.2.2.2.1; omega
  refine k_set K (fun hr G1 K1 F1 => ?_) (fun hr G1 us' K1 F1 => ?_)
  · have R1 := R.fk F1
    obtain ⟨im, hRT, back⟩ := R1.rt
    refine ⟨_, rfl, (F1 0 (Or.inl rfl)).trans h0, R1.cell, ?_⟩
    refine r_set hRT hW (by have := K1.2.2.2.1; omega) (fun _ G2 nn' T F2 => ?_) (fun hr' => absurd hr (by rw [hr']; decide))
    obtain ⟨R2, F3⟩ := back G2 _ _ _ _ _ _ _ T F2
    obtain ⟨K2, z⟩ := K1.fr F3
    exact ⟨rfl, z.trans ((F1 0 (Or.inl rfl)).trans h0), b, us, ws, lg, E, fx, _, sh, shs, gv, es, mn, ls, on, ks, ts, rs, K2, R2, Z, S, Ls⟩
  · have R1 := R.fk F1
    obtain ⟨im, hRT, back⟩ := R1.rt
    refine ⟨_, rfl, (F1 0 (Or.inl rfl)).trans h0, R1.cell, ?_⟩
    refine r_set hRT hW (by have := K1.2.2.2.1; omega) (fun hr' => absurd hr' (by rw [hr]; decide)) (fun _ G2 nn' T F2 => ?_)
    obtain ⟨R2, F3⟩ := back G2 _ _ _ _ _ _ _ T F2
    obtain ⟨K2, z⟩ := K1.fr F3
    exact ⟨rfl, z.trans ((F1 0 (Or.inl rfl)).trans h0), b, us', ws, _, E + 1, fx, 0, sh, shs, gv, es, mn, ls, on, ks, ts, rs, K2, R2, ZP_N Z, S, Ls⟩
theorem P_paper : Pair mX10_paper mX11_paper [.int a1, .int a2, .int a3, .int a4, .int a5] := by
  rintro G L xs ⟨b, us, ws, lg, E, fx, st, sh, shs, gv, es, mn, ls, on, ks, ts, rs, K, R, Z, S, Ls⟩ h0
  have hW := K.2.1.2.1
  have hE := K.E6
  have hL : 378 ≤ G.length := by have := K.2.2.2.1; omega
  refine k_paper K (fun hr G1 K1 F1 => ?_) (fun hr G1 us' K1 F1 => ?_)
  · have R1 := R.fk F1
    obtain ⟨im, hRT, back⟩ := R1.rt
    refine ⟨_, rfl, (F1 0 (Or.inl rfl)).trans h0, R1.cell, ?_⟩
    refine r_paper hRT hW (by have := K1.2.2.2.1; omega) (fun _ G2 nn' T F2 => ?_) (fun hr' => absurd hr (by rw [hr']; decide))
    obtain ⟨R2, F3⟩ := back G2 _ _ _ _ _ _ _ T F2
    obtain ⟨K2, z⟩ := K1.fr F3
    exact ⟨rfl, z.trans ((F1 0 (Or.inl rfl)).trans h0), b, us, ws, lg, E, fx, _, sh, shs, gv, es, mn, ls, on, ks, ts, rs, K2, R2, Z, S, Ls⟩
  · have R1 := R.fk F1
    obtain ⟨im, hRT, back⟩ := R1.rt
    refine ⟨_, rfl, (F1 0 (Or.inl rfl)).trans h0, R1.cell, ?_⟩
    refine r_paper hRT hW (by have := K1.2.2.2.1; omega) (fun hr' => absurd hr' (by rw [hr]; decide)) (fun _ G2 nn' T F2 => ?_)
    obtain ⟨R2, F3⟩ := back G2 _ _ _ _ _ _ _ T F2
    obtain ⟨K2, z⟩ := K1.fr F3
    exact ⟨rfl, z.trans ((F1 0 (Or.inl rfl)).trans h0), b, us', ws, _, E + 1, fx, 0, sh, shs, gv, es, mn, ls, on, ks, ts, rs, K2, R2, ZP_N Z, S, Ls⟩
theorem P_rule : Pair mX10_rule mX11_rule [.int a1, .int a2, .int a3] := by
  rintro G L xs ⟨b, us, ws, lg, E, fx, st, sh, shs, gv, es, mn, ls, on, ks, ts, rs, K, R, Z, S, Ls⟩ h0
  have hW := K.2.1.2.1
  have hE := K.E6
  have hL : 378 ≤ G.length := by have := K.2.2.2.1; omega
  refine k_rule K (fun hr G1 K1 F1 => ?_) (fun hr G1 us' K1 F1 => ?_)
  · have R1 := R.fk F1
    obtain ⟨im, hRT, back⟩ := R1.rt
    refine ⟨_, rfl, (F1 0 (Or.inl rfl)).trans h0, R1.cell, ?_⟩
    refine r_rule hRT hW (by have := K1.2.2.2.1; omega) (fun _ G2 nn' T F2 => ?_) (fun hr' => absurd hr (by rw [hr']; decide))
    obtain ⟨R2, F3⟩ := back G2 _ _ _ _ _ _ _ T F2
    obtain ⟨K2, z⟩ := K1.fr F3
    exact ⟨rfl, z.trans ((F1 0 (Or.inl rfl)).trans h0), b, us, ws, lg, E, fx, _, sh, shs, gv, es, mn, ls, on, ks, ts, rs, K2, R2, Z, S, Ls⟩
  · have R1 := R.fk F1
    obtain ⟨im, hRT, back⟩ := R1.rt
    refine ⟨_, rfl, (F1 0 (Or.inl rfl)).trans h0, R1.cell, ?_⟩
    refine r_rule hRT hW (by have := K1.2.2.2.1; omega) (fun hr' => absurd hr' (by rw [hr]; decide)) (fun _ G2 nn' T F2 => ?_)
    obtain ⟨R2, F3⟩ := back G2 _ _ _ _ _ _ _ T F2
    obtain ⟨K2, z⟩ := K1.fr F3
    exact ⟨rfl, z.trans ((F1 0 (Or.inl rfl)).trans h0), b, us', ws, _, E + 1, fx, 0, sh, shs, gv, es, mn, ls, on, ks, ts, rs, K2, R2, ZP_N Z, S, Ls⟩
theorem P_pass : Pair mX10_pass mX11_pass [.int a1] := by
  rintro G L xs ⟨b, us, ws, lg, E, fx, st, sh, shs, gv, es, mn, ls, on, ks, ts, rs, K, R, Z, S, Ls⟩ h0
  have hW := K.2.1.2.1
  have hE := K.E6
  have hL : 378 ≤ G.length := by have := K.2.2.2.1; omega
  refine k_pass K (fun hr G1 K1 F1 => ?_) (fun hr G1 K1 F1 => ?_)
  · have R1 := R.fk F1
    obtain ⟨im, hRT, back⟩ := R1.rt
    refine ⟨_, rfl, (F1 0 (Or.inl rfl)).trans h0, R1.cell, ?_⟩
    refine r_pass hRT hW (by have := K1.2.2.2.1; omega) (fun _ G2 nn' T F2 => ?_) (fun hr' => absurd hr (by rw [hr']; decide))
    obtain ⟨R2, F3⟩ := back G2 _ _ _ _ _ _ _ T F2
    obtain ⟨K2, z⟩ := K1.fr F3
    exact ⟨rfl, z.trans ((F1 0 (Or.inl rfl)).trans h0), b, us, ws, lg, E, fx, _, sh, shs, gv, es, mn, ls, on, ks, ts, rs, K2, R2, Z, S, Ls⟩
  · have R1 := R.fk F1
    obtain ⟨im, hRT, back⟩ := R1.rt
    refine ⟨_, rfl, (F1 0 (Or.inl rfl)).trans h0, R1.cell, ?_⟩
    refine r_pass hRT hW (by have := K1.2.2.2.1; omega) (fun hr' => absurd hr' (by rw [hr]; decide)) (fun _ G2 nn' T F2 => ?_)
    obtain ⟨R2, F3⟩ := back G2 _ _ _ _ _ _ _ T F2
    obtain ⟨K2, z⟩ := K1.fr F3
    exact ⟨rfl, z.trans ((F1 0 (Or.inl rfl)).trans h0), b, us, ws, _, E + 1, E + 1, 0, sh, shs, gv, es, mn, ls, on, ks, ts, rs, K2, R2, ZP_N Z, S, Ls⟩
theorem P_thick : Pair mX10_thick mX11_thick [.int a1, .int a2, .int a3, .int a4, .int a5] := by
  rintro G L xs ⟨b, us, ws, lg, E, fx, st, sh, shs, gv, es, mn, ls, on, ks, ts, rs, K, R, Z, S, Ls⟩ h0
  have hW := K.2.1.2.1
  have hE := K.E6
  have hL : 378 ≤ G.length := by have := K.2.2.2.1; omega
  refine q_thick K.bq (fun r G1 hr hI F1 => ?_)
  obtain ⟨K1, F1'⟩ := K.fw F1 hI
  have R1 := R.fk F1'
  obtain ⟨fs, nn, pt, vl, pp, va, pa, wa, R2, I, hfs, back⟩ := R1.q
  refine ⟨_, rfl, (F1' 0 (Or.inl rfl)).trans h0, R1.cell, ?_⟩
  refine r_thick R2 I hW.1 hfs (fun r2 G2 f hR hS hr2 => ?_)
  obtain ⟨R3, F3⟩ := back G2 f hR hS
  obtain ⟨K2, z⟩ := K1.fr F3
  exact ⟨by rw [show r2 = r from Int32.toInt_inj.mp (hr2.trans hr.symm)], z.trans ((F1' 0 (Or.inl rfl)).trans h0), b, us, ws, lg, E, fx, st, sh, shs, gv, es, mn, ls, on, ks, ts, rs, K2, R3, Z, S, Ls⟩
theorem P_doubts : Pair mX10_doubts mX11_doubts [.int a1, .int a2, .int a3, .int a4] := by
  rintro G L xs ⟨b, us, ws, lg, E, fx, st, sh, shs, gv, es, mn, ls, on, ks, ts, rs, K, R, Z, S, Ls⟩ h0
  have hW := K.2.1.2.1
  have hE := K.E6
  have hL : 378 ≤ G.length := by have := K.2.2.2.1; omega
  refine q_doubts K.bq (fun G1 hI F1 => ?_)
  obtain ⟨K1, F1'⟩ := K.fw F1 hI
  have R1 := R.fk F1'
  obtain ⟨fs, nn, pt, vl, pp, va, pa, wa, R2, I, hfs, back⟩ := R1.q
  refine ⟨_, rfl, (F1' 0 (Or.inl rfl)).trans h0, R1.cell, ?_⟩
  refine r_doubts R2 I hW.1 hfs (fun G2 f hR hS => ?_)
  obtain ⟨R3, F3⟩ := back G2 f hR hS
  obtain ⟨K2, z⟩ := K1.fr F3
  exact ⟨rfl, z.trans ((F1' 0 (Or.inl rfl)).trans h0), b, us, ws, lg, E, fx, st, sh, shs, gv, es, mn, ls, on, ks, ts, rs, K2, R3, Z, S, Ls⟩
theorem P_bears : Pair mX10_bears mX11_bears [.int a1, .int a2, .int a3, .int a4] := by
  rintro G L xs ⟨b, us, ws, lg, E, fx, st, sh, shs, gv, es, mn, ls, on, ks, ts, rs, K, R, Z, S, Ls⟩ h0
  have hW := K.2.1.2.1
  have hE := K.E6
  have hL : 378 ≤ G.length := by have := K.2.2.2.1; omega
  refine q_bears K.bq (fun r G1 hr hI F1 => ?_)
  obtain ⟨K1, F1'⟩ := K.fw F1 hI
  have R1 := R.fk F1'
  obtain ⟨fs, nn, pt, vl, pp, va, pa, wa, R2, I, hfs, back⟩ := R1.q
  refine ⟨_, rfl, (F1' 0 (Or.inl rfl)).trans h0, R1.cell, ?_⟩
  refine r_bears R2 I hW.1 hfs (fun r2 G2 f hR hS hr2 => ?_)
  obtain ⟨R3, F3⟩ := back G2 f hR hS
  obtain ⟨K2, z⟩ := K1.fr F3
  exact ⟨by rw [show r2 = r from Int32.toInt_inj.mp (hr2.trans hr.symm)], z.trans ((F1' 0 (Or.inl rfl)).trans h0), b, us, ws, lg, E, fx, st, sh, shs, gv, es, mn, ls, on, ks, ts, rs, K2, R3, Z, S, Ls⟩
theorem P_holds : Pair mX10_holds mX11_holds [.int a1, .int a2, .int a3, .int a4] := by
  rintro G L xs ⟨b, us, ws, lg, E, fx, st, sh, shs, gv, es, mn, ls, on, ks, ts, rs, K, R, Z, S, Ls⟩ h0
  have hW := K.2.1.2.1
  have hE := K.E6
  have hL : 378 ≤ G.length := by have := K.2.2.2.1; omega
  refine q_holds K.bq (fun G1 hI F1 => ?_)
  obtain ⟨K1, F1'⟩ := K.fw F1 hI
  have R1 := R.fk F1'
  obtain ⟨fs, nn, pt, vl, pp, va, pa, wa, R2, I, hfs, back⟩ := R1.q
  refine ⟨_, rfl, (F1' 0 (Or.inl rfl)).trans h0, R1.cell, ?_⟩
  refine r_holds R2 I ?_
  exact ⟨rfl, (F1' 0 (Or.inl rfl)).trans h0, b, us, ws, lg, E, fx, st, sh, shs, gv, es, mn, ls, on, ks, ts, rs, K1, R1, Z, S, Ls⟩
theorem P_due : Pair mX10_due mX11_due [.int a1, .int a2, .int a3, .int a4] := by
  rintro G L xs ⟨b, us, ws, lg, E, fx, st, sh, shs, gv, es, mn, ls, on, ks, ts, rs, K, R, Z, S, Ls⟩ h0
  have hW := K.2.1.2.1
  have hE := K.E6
  have hL : 378 ≤ G.length := by have := K.2.2.2.1; omega
  refine q_due K.bq (fun G1 hI F1 => ?_)
  obtain ⟨K1, F1'⟩ := K.fw F1 hI
  have R1 := R.fk F1'
  obtain ⟨fs, nn, pt, vl, pp, va, pa, wa, R2, I, hfs, back⟩ := R1.q
  refine ⟨_, rfl, (F1' 0 (Or.inl rfl)).trans h0, R1.cell, ?_⟩
  refine r_due R2 I ?_
  exact ⟨rfl, (F1' 0 (Or.inl rfl)).trans h0, b, us, ws, lg, E, fx, st, sh, shs, gv, es, mn, ls, on, ks, ts, rs, K1, R1, Z, S, Ls⟩
theorem P_why : Pair mX10_why mX11_why [.int a1, .int a2, .int a3] := by
  rintro G L xs ⟨b, us, ws, lg, E, fx, st, sh, shs, gv, es, mn, ls, on, ks, ts, rs, K, R, Z, S, Ls⟩ h0
  have hW := K.2.1.2.1
  have hE := K.E6
  have hL : 378 ≤ G.length := by have := K.2.2.2.1; omega
  refine q_why K.bq (fun G1 hI F1 => ?_)
  obtain ⟨K1, F1'⟩ := K.fw F1 hI
  have R1 := R.fk F1'
  obtain ⟨fs, nn, pt, vl, pp, va, pa, wa, R2, I, hfs, back⟩ := R1.q
  refine ⟨_, rfl, (F1' 0 (Or.inl rfl)).trans h0, R1.cell, ?_⟩
  refine r_why R2 I hW.1 hfs (fun G2 f hR hS => ?_)
  obtain ⟨R3, F3⟩ := back G2 f hR hS
  obtain ⟨K2, z⟩ := K1.fr F3
  exact ⟨rfl, z.trans ((F1' 0 (Or.inl rfl)).trans h0), b, us, ws, lg, E, fx, st, sh, shs, gv, es, mn, ls, on, ks, ts, rs, K2, R3, Z, S, Ls⟩
theorem P_may : Pair mX10_may mX11_may [.int a1, .int a2, .int a3] := by
  rintro G L xs ⟨b, us, ws, lg, E, fx, st, sh, shs, gv, es, mn, ls, on, ks, ts, rs, K, R, Z, S, Ls⟩ h0
  have hW := K.2.1.2.1
  have hE := K.E6
  have hL : 378 ≤ G.length := by have := K.2.2.2.1; omega
  refine q_may K.bq (fun G1 hI F1 => ?_)
  obtain ⟨K1, F1'⟩ := K.fw F1 hI
  have R1 := R.fk F1'
  obtain ⟨fs, nn, pt, vl, pp, va, pa, wa, R2, I, hfs, back⟩ := R1.q
  refine ⟨_, rfl, (F1' 0 (Or.inl rfl)).trans h0, R1.cell, ?_⟩
  refine r_may R2 I hW.1 hfs (fun G2 f hR hS => ?_)
  obtain ⟨R3, F3⟩ := back G2 f hR hS
  obtain ⟨K2, z⟩ := K1.fr F3
  exact ⟨rfl, z.trans ((F1' 0 (Or.inl rfl)).trans h0), b, us, ws, lg, E, fx, st, sh, shs, gv, es, mn, ls, on, ks, ts, rs, K2, R3, Z, S, Ls⟩
theorem P_until : Pair mX10_until mX11_until [.int a1, .int a2, .int a3] := by
  rintro G L xs ⟨b, us, ws, lg, E, fx, st, sh, shs, gv, es, mn, ls, on, ks, ts, rs, K, R, Z, S, Ls⟩ h0
  have hW := K.2.1.2.1
  have hE := K.E6
  have hL : 378 ≤ G.length := by have := K.2.2.2.1; omega
  refine q_until K.bq (fun G1 hI F1 => ?_)
  obtain ⟨K1, F1'⟩ := K.fw F1 hI
  have R1 := R.fk F1'
  obtain ⟨fs, nn, pt, vl, pp, va, pa, wa, R2, I, hfs, back⟩ := R1.q
  refine ⟨_, rfl, (F1' 0 (Or.inl rfl)).trans h0, R1.cell, ?_⟩
  refine r_until R2 I hW.1 hfs (fun G2 f hR hS => ?_)
  obtain ⟨R3, F3⟩ := back G2 f hR hS
  obtain ⟨K2, z⟩ := K1.fr F3
  exact ⟨rfl, z.trans ((F1' 0 (Or.inl rfl)).trans h0), b, us, ws, lg, E, fx, st, sh, shs, gv, es, mn, ls, on, ks, ts, rs, K2, R3, Z, S, Ls⟩
theorem P_when : Pair mX10_when mX11_when [.int a1, .int a2, .int a3, .int a4] := by
  rintro G L xs ⟨b, us, ws, lg, E, fx, st, sh, shs, gv, es, mn, ls, on, ks, ts, rs, K, R, Z, S, Ls⟩ h0
  have hW := K.2.1.2.1
  have hE := K.E6
  have hL : 378 ≤ G.length := by have := K.2.2.2.1; omega
  refine q_when K.bq (fun G1 hI F1 => ?_)
  obtain ⟨K1, F1'⟩ := K.fw F1 hI
  have R1 := R.fk F1'
  obtain ⟨fs, nn, pt, vl, pp, va, pa, wa, R2, I, hfs, back⟩ := R1.q
  refine ⟨_, rfl, (F1' 0 (Or.inl rfl)).trans h0, R1.cell, ?_⟩
  refine r_when R2 I hW.1 hfs (fun G2 f hR hS => ?_)
  obtain ⟨R3, F3⟩ := back G2 f hR hS
  obtain ⟨K2, z⟩ := K1.fr F3
  exact ⟨rfl, z.trans ((F1' 0 (Or.inl rfl)).trans h0), b, us, ws, lg, E, fx, st, sh, shs, gv, es, mn, ls, on, ks, ts, rs, K2, R3, Z, S, Ls⟩
theorem P_check : Pair mX10_check mX11_check [.int a1, .int a2, .int a3, .int a4, .int a5] := by
  rintro G L xs ⟨b, us, ws, lg, E, fx, st, sh, shs, gv, es, mn, ls, on, ks, ts, rs, K, R, Z, S, Ls⟩ h0
  have hW := K.2.1.2.1
  have hE := K.E6
  have hL : 378 ≤ G.length := by have := K.2.2.2.1; omega
  refine q_check K.bq (fun G1 hI F1 => ?_)
  obtain ⟨K1, F1'⟩ := K.fw F1 hI
  have R1 := R.fk F1'
  obtain ⟨fs, nn, pt, vl, pp, va, pa, wa, R2, I, hfs, back⟩ := R1.q
  refine ⟨_, rfl, (F1' 0 (Or.inl rfl)).trans h0, R1.cell, ?_⟩
  refine r_check R2 I hW.1 hfs (fun G2 f hR hS => ?_)
  obtain ⟨R3, F3⟩ := back G2 f hR hS
  obtain ⟨K2, z⟩ := K1.fr F3
  exact ⟨rfl, z.trans ((F1' 0 (Or.inl rfl)).trans h0), b, us, ws, lg, E, fx, st, sh, shs, gv, es, mn, ls, on, ks, ts, rs, K2, R3, Z, S, Ls⟩
theorem P_weakest : Pair mX10_weakest mX11_weakest [.int a1, .int a2, .int a3] := by
  rintro G L xs ⟨b, us, ws, lg, E, fx, st, sh, shs, gv, es, mn, ls, on, ks, ts, rs, K, R, Z, S, Ls⟩ h0
  have hW := K.2.1.2.1
  have hE := K.E6
  have hL : 378 ≤ G.length := by have := K.2.2.2.1; omega
  refine q_weakest K.bq (fun G1 hI F1 => ?_)
  obtain ⟨K1, F1'⟩ := K.fw F1 hI
  have R1 := R.fk F1'
  refine ⟨_, rfl, (F1' 0 (Or.inl rfl)).trans h0, R1.cell, ?_⟩
  refine q_rweakest R1 hW (fun G2 R3 F3 => ?_)
  obtain ⟨K2, z⟩ := K1.fr F3
  exact ⟨rfl, z.trans ((F1' 0 (Or.inl rfl)).trans h0), b, us, ws, lg, E, fx, st, sh, shs, gv, es, mn, ls, on, ks, ts, rs, K2, R3, Z, S, Ls⟩
theorem P_status : Pair mX10_status mX11_status [] := by
  rintro G L xs ⟨b, us, ws, lg, E, fx, st, sh, shs, gv, es, mn, ls, on, ks, ts, rs, K, R, Z, S, Ls⟩ h0
  have hW := K.2.1.2.1
  have hE := K.E6
  have hL : 378 ≤ G.length := by have := K.2.2.2.1; omega
  refine k_status K ?_
  obtain ⟨im, ⟨nn, T⟩, back⟩ := R.rt
  refine ⟨_, rfl, h0, R.cell, ?_⟩
  refine r_status T ?_
  exact ⟨rfl, h0, b, us, ws, lg, E, fx, st, sh, shs, gv, es, mn, ls, on, ks, ts, rs, K, R, Z, S, Ls⟩
theorem P_count : Pair mX10_count mX11_count [.int a1, .int a2] := by
  rintro G L xs ⟨b, us, ws, lg, E, fx, st, sh, shs, gv, es, mn, ls, on, ks, ts, rs, K, R, Z, S, Ls⟩ h0
  have hW := K.2.1.2.1
  have hE := K.E6
  have hL : 378 ≤ G.length := by have := K.2.2.2.1; omega
  refine k_count K ?_
  obtain ⟨im, ⟨nn, T⟩, back⟩ := R.rt
  refine ⟨_, rfl, h0, R.cell, ?_⟩
  refine r_count T ?_
  exact ⟨rfl, h0, b, us, ws, lg, E, fx, st, sh, shs, gv, es, mn, ls, on, ks, ts, rs, K, R, Z, S, Ls⟩
theorem P_undo : Pair mX10_undo mX11_undo [] := by
  rintro G L xs ⟨b, us, ws, lg, E, fx, st, sh, shs, gv, es, mn, ls, on, ks, ts, rs, K, R, Z, S, Ls⟩ h0
  have hW := K.2.1.2.1
  have hE := K.E6
  have hL : 378 ≤ G.length := by have := K.2.2.2.1; omega
  refine k_undo K (fun he G1 K1 F1 => ?_) (fun E' he hf hc0 G1 us' K1 F1 => ?_)
  · subst he
    have R1 := R.fk F1
    obtain ⟨im, ⟨nn, T0⟩, back⟩ := R1.rt
    refine ⟨_, rfl, (F1 0 (Or.inl rfl)).trans h0, R1.cell, ?_⟩
    refine r_undo0 T0 (fun G2 T F2 => ?_)
    obtain ⟨R2, F3⟩ := back G2 _ _ _ _ _ _ _ T F2
    obtain ⟨K2, z⟩ := K1.fr F3
    exact ⟨rfl, z.trans ((F1 0 (Or.inl rfl)).trans h0), b, us, ws, lg, E, E, -1, sh, shs, gv, es, mn, ls, on, ks, ts, rs, K2, R2, Z, S, Ls⟩
  · subst he
    have R1 := R.fk F1
    obtain ⟨im, ⟨nn, T0⟩, back⟩ := R1.rt
    refine ⟨_, rfl, (F1 0 (Or.inl rfl)).trans h0, R1.cell, ?_⟩
    refine r_undo T0 hW (by have := K1.2.2.2.1; omega) (by omega) hf hc0 (fun G2 T F2 => ?_)
    obtain ⟨R2, F3⟩ := back G2 _ _ _ _ _ _ _ T F2
    obtain ⟨K2, z⟩ := K1.fr F3
    exact ⟨rfl, z.trans ((F1 0 (Or.inl rfl)).trans h0), b, us', ws, lg, E', fx, 0, sh, shs, gv, es, mn, ls, on, ks, ts, rs, K2, R2, (fun i hi => Z i (by omega)), S, Ls⟩
theorem P_measure : Pair mX10_measure mX11_measure [.int a1, .int a2, .int a3] := by
  rintro G L xs ⟨b, us, ws, lg, E, fx, st, sh, shs, gv, es, mn, ls, on, ks, ts, rs, K, R, Z, S, Ls⟩ h0
  have hW := K.2.1.2.1
  have hE := K.E6
  have hL : 378 ≤ G.length := by have := K.2.2.2.1; omega
  refine k_measure K S (fun hr G1 K1 F1 => ?_) (fun hr G1 us' K1 F1 => ?_)
  · have R1 := R.fk F1
    refine ⟨_, rfl, (F1 0 (Or.inl rfl)).trans h0, R1.cell, ?_⟩
    refine r_measure R1 hW (by have := K1.2.2.2.1; omega) (fun _ G2 R2 F3 => ?_) (fun hr' => absurd hr (by rw [hr']; decide))
    obtain ⟨K2, z⟩ := K1.fr F3
    exact ⟨rfl, z.trans ((F1 0 (Or.inl rfl)).trans h0), b, us, ws, lg, E, fx, _, sh, shs, gv, es, mn, ls, on, ks, ts, rs, K2, R2, Z, S, Ls⟩
  · have R1 := R.fk F1
    refine ⟨_, rfl, (F1 0 (Or.inl rfl)).trans h0, R1.cell, ?_⟩
    refine r_measure R1 hW (by have := K1.2.2.2.1; omega) (fun hr' => absurd hr' (by rw [hr]; decide)) (fun _ G2 R2 F3 => ?_)
    obtain ⟨K2, z⟩ := K1.fr F3
    exact ⟨rfl, z.trans ((F1 0 (Or.inl rfl)).trans h0), b, us', ws, _, E + 1, fx, 0, -1, shs, gv, [], mn, ls, on, ks, ts, rs, K2, R2, ZP_N Z, S.drop, Ls⟩
theorem P_sheet : Pair mX10_sheet mX11_sheet [.int a1, .int a2] := by
  rintro G L xs ⟨b, us, ws, lg, E, fx, st, sh, shs, gv, es, mn, ls, on, ks, ts, rs, K, R, Z, S, Ls⟩ h0
  have hW := K.2.1.2.1
  have hE := K.E6
  have hL : 378 ≤ G.length := by have := K.2.2.2.1; omega
  refine k_sheet K (fun hr G1 K1 F1 => ?_) (fun hr G1 m hm em K1 F1 => ?_)
  · have R1 := R.fk F1
    refine ⟨_, rfl, (F1 0 (Or.inl rfl)).trans h0, R1.cell, ?_⟩
    refine r_sheet R1 (by have := K1.2.2.2.1; omega) (fun _ G2 R2 F3 => ?_) (fun hr' => absurd hr (by rw [hr']; decide))
    obtain ⟨K2, z⟩ := K1.fr F3
    exact ⟨rfl, z.trans ((F1 0 (Or.inl rfl)).trans h0), b, us, ws, lg, E, fx, _, sh, shs, gv, es, mn, ls, on, ks, ts, rs, K2, R2, Z, S, Ls⟩
  · have R1 := R.fk F1
    refine ⟨_, rfl, (F1 0 (Or.inl rfl)).trans h0, R1.cell, ?_⟩
    refine r_sheet R1 (by have := K1.2.2.2.1; omega) (fun hr' => absurd hr' (by rw [hr]; decide)) (fun _ G2 m2 hm2 em2 R2 F3 => ?_)
    have emm : m2 = m := em2.trans em.symm
    subst emm
    obtain ⟨K2, z⟩ := K1.fr F3
    refine ⟨rfl, z.trans ((F1 0 (Or.inl rfl)).trans h0), b, us, ws, lg, E, fx, 0, a1, _, _, _, mn, ls, on, ks, ts, rs, K2, R2, Z, ⟨Or.inr ⟨?_, by rw [List.length_replicate], fun j hj => ?_⟩, by rw [List.length_replicate]; exact hm⟩, Ls⟩
    · unfold shtI at hr
      by_cases c : ¬ rng a1 0 2 ∨ 40 < a2.toInt
      · rw [if_pos c] at hr
        exact absurd hr (by decide)
      · have c2 : rng a1 0 2 := Decidable.byContradiction fun w => c (Or.inl w)
        have c3 := c2.1
        have c4 := c2.2
        rcases (show a1.toInt = 0 ∨ a1.toInt = 1 ∨ a1.toInt = 2 by omega) with q | q | q
        · exact Or.inl (Int32.toInt_inj.mp q)
        · exact Or.inr (Or.inl (Int32.toInt_inj.mp q))
        · exact Or.inr (Or.inr (Int32.toInt_inj.mp q))
    · rw [List.length_replicate] at hj
      rw [List.getElem?_replicate, if_pos hj]
      show some (0 : Int32) = some (if j < m2 then 0 else gv j)
      rw [if_pos hj]
theorem P_entry : Pair mX10_entry mX11_entry [.int a1, .int a2] := by
  rintro G L xs ⟨b, us, ws, lg, E, fx, st, sh, shs, gv, es, mn, ls, on, ks, ts, rs, K, R, Z, S, Ls⟩ h0
  have hW := K.2.1.2.1
  have hE := K.E6
  have hL : 378 ≤ G.length := by have := K.2.2.2.1; omega
  have hl := S.2
  have hiff : (0 ≤ a1.toInt ∧ a1.toInt < es.length) ↔ entP sh shs a1 := by
    rcases S.1 with q | q
    · rw [q.2.1]
      exact ⟨fun z => absurd z (by simp), fun z => absurd (S.neg.mpr q.1) z.1⟩
    · have hn : ¬ sh < 0 := fun z => by
        have z2 := S.neg.mp z
        rcases q.1 with w | w | w <;> (rw [w] at z2; exact absurd z2 (by decide))
      have e : shs.toInt = es.length := by rw [q.2.1]; exact nI_toInt (by omega)
      unfold entP
      rw [e]
      exact ⟨fun z => ⟨hn, z.1, z.2⟩, fun z => z.2⟩
  have hs : -1 ≤ shs.toInt ∧ shs.toInt ≤ 40 := S.drop.1.elim (fun q => q.2.2) fun q => absurd q.1 (by decide)
  refine k_entry K (fun hno => ?_) (fun hyes G1 K1 F1 => ?_)
  · refine ⟨_, rfl, h0, R.cell, ?_⟩
    refine r_entry R hL hs (fun _ => ?_) (fun z => absurd (hiff.mpr z) hno)
    exact ⟨rfl, h0, b, us, ws, lg, E, fx, st, sh, shs, gv, es, mn, ls, on, ks, ts, rs, K, R, Z, S, Ls⟩
  · have R1 := R.fk F1
    refine ⟨_, rfl, (F1 0 (Or.inl rfl)).trans h0, R1.cell, ?_⟩
    refine r_entry R1 (by have := K1.2.2.2.1; omega) hs (fun z => absurd (hiff.mp hyes) z) (fun _ G2 R2 F3 => ?_)
    obtain ⟨K2, z⟩ := K1.fr F3
    refine ⟨rfl, z.trans ((F1 0 (Or.inl rfl)).trans h0), b, us, ws, lg, E, fx, st, sh, shs, _, _, mn, ls, on, ks, ts, rs, K2, R2, Z, ⟨?_, by rw [bo_put_len]; exact hl⟩, Ls⟩
    rcases S.1 with q | q
    · rw [q.2.1] at hyes
      exact absurd hyes (by simp)
    · refine Or.inr ⟨q.1, by rw [bo_put_len]; exact q.2.1, fun j hj => ?_⟩
      rw [bo_put_len] at hj
      unfold bo_put
      have h00 : (0 : Int32) ≤ a1 := Int32.le_iff_toInt_le.mpr hyes.1
      rw [if_pos h00]
      by_cases c : j = a1.toNatClampNeg
      · rw [c, pk_us, List.getElem?_set_self (by rw [← c]; exact hj)]
      · rw [pk_un c, List.getElem?_set_ne fun w => c w.symm]
        exact q.2.2 j hj
theorem P_image : Pair mX10_image mX11_image [] := by
  rintro G L xs ⟨b, us, ws, lg, E, fx, st, sh, shs, gv, es, mn, ls, on, ks, ts, rs, K, R, Z, S, Ls⟩ h0
  have hW := K.2.1.2.1
  have hE := K.E6
  have hL : 378 ≤ G.length := by have := K.2.2.2.1; omega
  refine k_image K ?_
  refine ⟨_, rfl, h0, R.cell, ?_⟩
  refine r_image R hW hE hL (fun G2 R2 F3 => ?_)
  obtain ⟨K2, z⟩ := K.fr F3
  exact ⟨rfl, z.trans h0, b, us, ws, lg, E, fx, st, sh, shs, gv, es, mn, ls, on, ks, ts, rs, K2, R2, Z, S, Ls⟩
theorem P_imageAt : Pair mX10_imageAt mX11_imageAt [.int a1] := by
  rintro G L xs ⟨b, us, ws, lg, E, fx, st, sh, shs, gv, es, mn, ls, on, ks, ts, rs, K, R, Z, S, Ls⟩ h0
  have hW := K.2.1.2.1
  have hE := K.E6
  have hL : 378 ≤ G.length := by have := K.2.2.2.1; omega
  refine k_imageAt K ?_
  refine ⟨_, rfl, h0, R.cell, ?_⟩
  refine r_imageAt R hW hE hL (fun G2 R2 F3 => ?_)
  obtain ⟨K2, z⟩ := K.fr F3
  exact ⟨rfl, z.trans h0, b, us, ws, lg, E, fx, st, sh, shs, gv, es, mn, ls, on, ks, ts, rs, K2, R2, Z, S, Ls⟩
theorem P_feed : Pair mX10_feed mX11_feed [.int a1, .int a2, .int a3, .int a4, .int a5] := by
  rintro G L xs ⟨b, us, ws, lg, E, fx, st, sh, shs, gv, es, mn, ls, on, ks, ts, rs, K, R, Z, S, Ls⟩ h0
  have hW := K.2.1.2.1
  have hE := K.E6
  have hL : 378 ≤ G.length := by have := K.2.2.2.1; omega
  refine k_feed K (fun hno => ?_) (fun hyes G1 K1 F1 => ?_)
  · refine ⟨_, rfl, h0, R.cell, ?_⟩
    refine r_feed R hL (fun _ => ?_) (fun z => absurd z hno)
    exact ⟨rfl, h0, b, us, ws, lg, E, fx, st, sh, shs, gv, es, mn, ls, on, ks, ts, rs, K, R, Z, S, Ls⟩
  · have R1 := R.fk F1
    refine ⟨_, rfl, (F1 0 (Or.inl rfl)).trans h0, R1.cell, ?_⟩
    refine r_feed R1 (by have := K1.2.2.2.1; omega) (fun z => absurd hyes z) (fun _ G2 R2 F3 => ?_)
    obtain ⟨K2, z⟩ := K1.fr F3
    exact ⟨rfl, z.trans ((F1 0 (Or.inl rfl)).trans h0), b, us, ws, lg, E, fx, st, sh, shs, gv, es, mn, ls, on, ks, _, rs, K2, R2, Z, S, Ls⟩
theorem P_end : Pair mX10_end mX11_end [.int a1] := by
  rintro G L xs ⟨b, us, ws, lg, E, fx, st, sh, shs, gv, es, mn, ls, on, ks, ts, rs, K, R, Z, S, Ls⟩ h0
  have hW := K.2.1.2.1
  have hE := K.E6
  have hL : 378 ≤ G.length := by have := K.2.2.2.1; omega
  refine k_end K (fun G1 K1 F1 => ?_)
  have R1 := R.fk F1
  refine ⟨_, rfl, (F1 0 (Or.inl rfl)).trans h0, R1.cell, ?_⟩
  refine r_end R1 (by have := K1.2.2.2.1; omega) (fun G2 R2 F3 => ?_)
  obtain ⟨K2, z⟩ := K1.fr F3
  exact ⟨rfl, z.trans ((F1 0 (Or.inl rfl)).trans h0), b, us, ws, lg, E, fx, st, sh, shs, gv, es, mn, ls, on, ks, _, rs, K2, R2, Z, S, Ls⟩
theorem P_again : Pair mX10_again mX11_again [] := by
  rintro G L xs ⟨b, us, ws, lg, E, fx, st, sh, shs, gv, es, mn, ls, on, ks, ts, rs, K, R, Z, S, Ls⟩ h0
  have hW := K.2.1.2.1
  have hE := K.E6
  have hL : 378 ≤ G.length := by have := K.2.2.2.1; omega
  refine k_again K (fun G1 K1 F1 => ?_)
  have R1 := R.fk F1
  refine ⟨_, rfl, (F1 0 (Or.inl rfl)).trans h0, R1.cell, ?_⟩
  refine r_again R1 hW hE (by have := K1.2.2.2.1; omega) (fun G2 R2 F3 => ?_)
  obtain ⟨K2, z⟩ := K1.fr F3
  exact ⟨rfl, z.trans ((F1 0 (Or.inl rfl)).trans h0), b, us, ws, lg, E, fx, st, sh, shs, gv, es, mn, ls, on, ks, _, rs, K2, R2, Z, S, Ls⟩
theorem P_list : Pair mX10_list mX11_list [.int a1, .int a2] := by
  rintro G L xs ⟨b, us, ws, lg, E, fx, st, sh, shs, gv, es, mn, ls, on, ks, ts, rs, K, R, Z, S, Ls⟩ h0
  have hW := K.2.1.2.1
  have hE := K.E6
  have hL : 378 ≤ G.length := by have := K.2.2.2.1; omega
  have h30 := hW.2.1
  refine k_list (ls := ls) K (fun G1 ks' K1 F1 hS => ?_)
  have R1 := R.fk F1
  refine ⟨_, rfl, (F1 0 (Or.inl rfl)).trans h0, R1.cell, ?_⟩
  refine r_list R1 (by have := K1.2.2.2.1; omega) (fun G2 R2 F3 => ?_)
  obtain ⟨K2, z⟩ := K1.fr F3
  exact ⟨rfl, z.trans ((F1 0 (Or.inl rfl)).trans h0), b, us, ws, lg, E, fx, st, sh, shs, gv, es, _, _, _, ks', ts, rs, K2, R2, Z, S, _, by omega, hS⟩
theorem ln_eq {on : Int32} {ks : List Int32} {mn : Nat} {ls : Nat → Int32} {i : Nat} (h : LSi on ks mn ls i) (hi : i ≤ 90) : lnC on ks a1 a2 = lsdI mn ls a1 a2 := by
  have hlen := h.1
  have hmi := h.2.1
  unfold lnC lsdI
  rw [hlen]
  by_cases c : 0 ≤ a1.toInt ∧ a1.toInt < mn
  · rw [if_neg (fun z => z c)]
    obtain ⟨e1, e2, e3⟩ := nI_iof c.1
    have hj : a1.toNatClampNeg < mn := by omega
    generalize hgn : a1.toNatClampNeg = n at *
    obtain ⟨du, v, kd, q1, q2, q3, q4, q5, q6, q7, q8⟩ := h.2.2 n hj
    have hlt := (List.getElem?_eq_some_iff.mp q4).1
    have ek : bo_at ks a1 = nI (du * 90 + v * 3 + kd) := by rw [e1]; exact lst_at hlt (by omega) q4
    have d90 : nI (du * 90 + v * 3 + kd) / 90 = nI du := (pk_div (d := 90) (by omega) (by omega) (by omega)).trans (by congr 1; omega)
    have d3 : nI (du * 90 + v * 3 + kd) / 3 = nI (du * 30 + v) := (pk_div (d := 3) (by omega) (by omega) (by omega)).trans (by congr 1; omega)
    have m0 : (nI (du * 90 + v * 3 + kd) - nI du * 90) / 3 = nI v := by
      have x1 : nI du * 90 = nI (du * 90) := pk_mul du 90
      rw [x1, pk_sub (by omega)]
      exact (pk_div (d := 3) (by omega) (by omega) (by omega)).trans (by congr 1; omega)
    have m1 : nI (du * 90 + v * 3 + kd) - nI (du * 30 + v) * 3 = nI kd := by
      have x1 : nI (du * 30 + v) * 3 = nI ((du * 30 + v) * 3) := pk_mul _ 3
      rw [x1, pk_sub (by omega)]
      congr 1
      omega
    rw [ek, d90, d3, m0, m1]
    by_cases c2 : 0 ≤ a2.toInt ∧ a2.toInt ≤ 3
    · rw [if_pos (show (0 ≤ a1.toInt ∧ a1.toInt < (mn : Int)) ∧ 0 ≤ a2.toInt ∧ a2.toInt ≤ 3 from ⟨c, c2⟩)]
      obtain ⟨f1, f2, f3⟩ := nI_iof c2.1
      rcases (show a2.toInt = 0 ∨ a2.toInt = 1 ∨ a2.toInt = 2 ∨ a2.toInt = 3 by omega) with w | w | w | w
      · rw [if_pos w, show a2.toNatClampNeg = 0 by omega]
        exact q5.symm
      · rw [if_neg (by omega), if_pos w, show a2.toNatClampNeg = 1 by omega]
        exact q6.symm
      · rw [if_neg (by omega), if_neg (by omega), if_pos w, show a2.toNatClampNeg = 2 by omega]
        exact q7.symm
      · rw [if_neg (by omega), if_neg (by omega), if_neg (by omega), if_pos w, show a2.toNatClampNeg = 3 by omega]
        exact q8.symm
    · rw [if_neg (show ¬ ((0 ≤ a1.toInt ∧ a1.toInt < (mn : Int)) ∧ 0 ≤ a2.toInt ∧ a2.toInt ≤ 3) from fun z => c2 z.2), if_neg (by omega), if_neg (by omega), if_neg (by omega), if_neg (by omega)]
  · rw [if_pos c, if_neg fun z => c z.1]
theorem P_listed : Pair mX10_listed mX11_listed [.int a1, .int a2] := by
  rintro G L xs ⟨b, us, ws, lg, E, fx, st, sh, shs, gv, es, mn, ls, on, ks, ts, rs, K, R, Z, S, Ls⟩ h0
  have hW := K.2.1.2.1
  have hE := K.E6
  have hL : 378 ≤ G.length := by have := K.2.2.2.1; omega
  obtain ⟨i, hi, hS⟩ := Ls
  refine k_listed K ?_
  refine ⟨_, rfl, h0, R.cell, ?_⟩
  refine r_listed R (by have := hS.2.1; omega) ?_
  exact ⟨by rw [ln_eq hS hi], h0, b, us, ws, lg, E, fx, st, sh, shs, gv, es, mn, ls, on, ks, ts, rs, K, R, Z, S, i, hi, hS⟩
/-- a log alike serves as well -/
theorem KS_lgE {G : bo_G} {b : Nat} {us ws : List Nat} {lg lg' : Nat → Int32} {E fx : Nat} {st sh on : Int32} {es ks ts : List Int32} {rs : Nat} (K : KS G b us ws lg E fx st sh es on ks ts rs) (h : lgE lg lg' E) : KS G b us ws lg' E fx st sh es on ks ts rs := by
  obtain ⟨k1, ⟨⟨R, N⟩, hW, hf, hcc⟩, k3⟩ := K
  have ea := acl_E h hf
  refine ⟨k1, ⟨⟨?_, NT_lgE N h⟩, ⟨fun i hi => wfE_E h hi (hW.1 i hi), ?_, ?_, ?_⟩, hf, fun i h1 h2 => by rw [lgE_cod h h2]; exact hcc i h1 h2⟩, k3⟩
  · rw [vsl_E h (Nat.le_refl E), rsl_E h (Nat.le_refl E), osl_E h (Nat.le_refl E), tdy_E h (Nat.le_refl E), acl_E h (Nat.le_refl E), ea, lgE_img h E (Nat.le_refl E)]
    have e1 : (acl lg E).map (fun q => nI (posn lg' q)) = (acl lg E).map (fun q => nI (posn lg q)) := List.map_congr_left fun q hq => by
      have hq2 := (sel_mem.mp hq).1
      show nI (img lg' q).length = nI (img lg q).length
      rw [lgE_img h q (by omega)]
    have e2 : (acl lg E).map (ent lg') = (acl lg E).map (ent lg) := List.map_congr_left fun q hq => lgE_ent h (sel_mem.mp hq).1
    rw [e1, e2]
    exact R
  · rw [vsl_E h (Nat.le_refl E)]; exact hW.2.1
  · rw [acl_E h (Nat.le_refl E)]; exact hW.2.2.1
  · rw [osl_E h (Nat.le_refl E)]; exact hW.2.2.2
theorem P_restore : Pair mX10_restore mX11_restore [] := by
  rintro G L xs ⟨b, us, ws, lg, E, fx, st, sh, shs, gv, es, mn, ls, on, ks, ts, rs, K, R, Z, S, Ls⟩ h0
  have hW := K.2.1.2.1
  have hE := K.E6
  have hL : 378 ≤ G.length := by have := K.2.2.2.1; omega
  have h8 := K.1.2.2
  refine k_restore K (fun hr G1 K1 F1 => ?_) (fun hr hg G1 b' us' ws' K1 F1 => ?_) (fun hr hbd G1 ws' K1 F1 => ?_)
  · have R1 := R.fk F1
    refine ⟨_, rfl, (F1 0 (Or.inl rfl)).trans h0, R1.cell, ?_⟩
    refine r_restore R1 h8 hW Z (by have := K1.2.2.2.1; omega) (fun _ G2 R2 F3 => ?_) (fun hr' => absurd hr hr') (fun hr' => absurd hr hr')
    obtain ⟨K2, z⟩ := K1.fr F3
    exact ⟨rfl, z.trans ((F1 0 (Or.inl rfl)).trans h0), b, us, ws, lg, E, fx, st, sh, shs, gv, es, mn, ls, on, ks, [], rs, K2, R2, Z, S, Ls⟩
  · have R1 := R.fk F1
    refine ⟨_, rfl, (F1 0 (Or.inl rfl)).trans h0, R1.cell, ?_⟩
    refine r_restore R1 h8 hW Z (by have := K1.2.2.2.1; omega) (fun hr' => absurd hr' hr) (fun _ _ G2 R2 F3 => ?_) (fun _ hbd => absurd (hg.symm.trans hbd) (by decide))
    obtain ⟨K2, z⟩ := K1.fr F3
    exact ⟨rfl, z.trans ((F1 0 (Or.inl rfl)).trans h0), b', us', ws', _, _, _, 0, -1, shs, gv, [], 0, ls, 0, [], [], rs + 1, K2, R2, rst_ZP _ _ _ _ (fun i hi => absurd hi (Nat.not_lt_zero i)), S.drop, 0, by omega, LSi_0⟩
  · have R1 := R.fk F1
    refine ⟨_, rfl, (F1 0 (Or.inl rfl)).trans h0, R1.cell, ?_⟩
    refine r_restore R1 h8 hW Z (by have := K1.2.2.2.1; omega) (fun hr' => absurd hr' hr) (fun _ hg => absurd (hg.symm.trans hbd) (by decide)) (fun _ _ G2 lg' hlg R2 F3 => ?_)
    obtain ⟨K2, z⟩ := (KS_lgE K1 hlg).fr F3
    exact ⟨rfl, z.trans ((F1 0 (Or.inl rfl)).trans h0), b, us, ws', lg', E, fx, st, sh, shs, gv, es, mn, ls, on, ks, [], rs + 1, K2, R2, (fun i hi k h1 h2 => by rw [lgE_num hlg hi h2]; exact Z i hi k (by rw [← lgE_cod hlg hi]; exact h1) h2), S, Ls⟩
end PR

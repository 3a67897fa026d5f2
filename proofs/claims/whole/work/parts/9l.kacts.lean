/-! The class's own acts, over its whole state. -/
section KA
variable {d b : Nat} {G G1 : bo_G} {Q : Option Value → bo_G → Prop} {us ws : List Nat} {lg : Nat → Int32} {E fx : Nat} {st sh on : Int32} {es ks ts : List Int32} {rs : Nat} {a1 a2 a3 a4 a5 a6 : Int32}
theorem k_vessel (K : KS G b us ws lg E fx st sh es on ks ts rs) (k0 : rfs lg E 1 (n6 a1 a2 a3 a4 0 0) < 0 → ∀ G', KS G' b us ws lg E fx (rfs lg E 1 (n6 a1 a2 a3 a4 0 0)) sh es on ks ts rs → FK G G' → Q (some (.int (rfs lg E 1 (n6 a1 a2 a3 a4 0 0)))) G') (k1 : rfs lg E 1 (n6 a1 a2 a3 a4 0 0) = 0 → ∀ G' us', KS G' b us' ws (lgN lg E 1 (n6 a1 a2 a3 a4 0 0)) (E + 1) fx 0 sh es on ks ts rs → FK G G' → Q (some (.int (ansI lg E 1 (n6 a1 a2 a3 a4 0 0)))) G') : Cx (d + 7) mX10_vessel [.ref 1, .int a1, .int a2, .int a3, .int a4] G Q := by
  have g1 := K.1.2.1
  have C := K.2.1.1
  have hW := K.2.1.2.1
  have r0 := C.1.1
  refine Cx.body rfl rfl ?_
  (repeat (first | refine Ex.go rfl rfl ?_ | refine Ex.gf rfl rfl (by assumption) (by rfl) (by first | rfl | assumption) ?_))
  refine Ex.cv4 rfl rfl rfl r0 (by rfl) (by decide) rfl ?_
  refine c_enterVessel K.1.1 C hW (m := us.length + ws.length) K.2.2.2.1 (fun h0 => ?_) (fun h1 G' us' C' F => ?_)
  · have k := k0 h0
    (repeat (first | refine Ex.go rfl rfl ?_ | refine Ex.gf rfl rfl (by assumption) (by rfl) (by first | rfl | assumption) ?_))
    refine Ex.cv1 rfl rfl rfl g1 (by rfl) (by decide) rfl ?_
    refine t_told K (fun G2 K2 F2 => ?_)
    rw [if_pos h0] at K2
    have k := k G2 K2 F2
    (repeat (first | refine Ex.go rfl rfl ?_ | refine Ex.gf rfl rfl (by assumption) (by rfl) (by first | rfl | assumption) ?_))
    refine Ex.ret rfl rfl rfl ?_
    exact k
  · have K1 := K.act (by omega) (by omega) h1 C' F
    have g1' := K1.1.2.1
    have hge := ans_nn hW (show 1 < 12 by omega) h1
    have k := k1 h1
    (repeat (first | refine Ex.go rfl rfl ?_ | refine Ex.gf rfl rfl (by assumption) (by rfl) (by first | rfl | assumption) ?_))
    refine Ex.cv1 rfl rfl rfl g1' (by rfl) (by decide) rfl ?_
    refine t_told K1 (fun G2 K2 F2 => ?_)
    rw [if_neg hge] at K2
    have k := k G2 us' K2 ((K.fkd F.fd).trans F2)
    (repeat (first | refine Ex.go rfl rfl ?_ | refine Ex.gf rfl rfl (by assumption) (by rfl) (by first | rfl | assumption) ?_))
    refine Ex.ret rfl rfl rfl ?_
    exact k
theorem k_part (K : KS G b us ws lg E fx st sh es on ks ts rs) (k0 : rfs lg E 2 (n6 a1 a2 a3 a4 a5 a6) < 0 → ∀ G', KS G' b us ws lg E fx (rfs lg E 2 (n6 a1 a2 a3 a4 a5 a6)) sh es on ks ts rs → FK G G' → Q (some (.int (rfs lg E 2 (n6 a1 a2 a3 a4 a5 a6)))) G') (k1 : rfs lg E 2 (n6 a1 a2 a3 a4 a5 a6) = 0 → ∀ G' us', KS G' b us' ws (lgN lg E 2 (n6 a1 a2 a3 a4 a5 a6)) (E + 1) fx 0 sh es on ks ts rs → FK G G' → Q (some (.int (ansI lg E 2 (n6 a1 a2 a3 a4 a5 a6)))) G') : Cx (d + 7) mX10_part [.ref 1, .int a1, .int a2, .int a3, .int a4, .int a5, .int a6] G Q := by
  have g1 := K.1.2.1
  have C := K.2.1.1
  have hW := K.2.1.2.1
  have r0 := C.1.1
  refine Cx.body rfl rfl ?_
  (repeat (first | refine Ex.go rfl rfl ?_ | refine Ex.gf rfl rfl (by assumption) (by rfl) (by first | rfl | assumption) ?_))
  refine Ex.cv6 rfl rfl rfl r0 (by rfl) (by decide) rfl ?_
  refine c_enterPart K.1.1 C hW (m := us.length + ws.length) K.2.2.2.1 (fun h0 => ?_) (fun h1 G' us' C' F => ?_)
  · have k := k0 h0
    (repeat (first | refine Ex.go rfl rfl ?_ | refine Ex.gf rfl rfl (by assumption) (by rfl) (by first | rfl | assumption) ?_))
    refine Ex.cv1 rfl rfl rfl g1 (by rfl) (by decide) rfl ?_
    refine t_told K (fun G2 K2 F2 => ?_)
    rw [if_pos h0] at K2
    have k := k G2 K2 F2
    (repeat (first | refine Ex.go rfl rfl ?_ | refine Ex.gf rfl rfl (by assumption) (by rfl) (by first | rfl | assumption) ?_))
    refine Ex.ret rfl rfl rfl ?_
    exact k
  · have K1 := K.act (by omega) (by omega) h1 C' F
    have g1' := K1.1.2.1
    have hge := ans_nn hW (show 2 < 12 by omega) h1
    have k := k1 h1
    (repeat (first | refine Ex.go rfl rfl ?_ | refine Ex.gf rfl rfl (by assumption) (by rfl) (by first | rfl | assumption) ?_))
    refine Ex.cv1 rfl rfl rfl g1' (by rfl) (by decide) rfl ?_
    refine t_told K1 (fun G2 K2 F2 => ?_)
    rw [if_neg hge] at K2
    have k := k G2 us' K2 ((K.fkd F.fd).trans F2)
    (repeat (first | refine Ex.go rfl rfl ?_ | refine Ex.gf rfl rfl (by assumption) (by rfl) (by first | rfl | assumption) ?_))
    refine Ex.ret rfl rfl rfl ?_
    exact k
theorem k_shape (K : KS G b us ws lg E fx st sh es on ks ts rs) (k0 : rfs lg E 3 (n6 a1 a2 a3 a4 a5 0) < 0 → ∀ G', KS G' b us ws lg E fx (rfs lg E 3 (n6 a1 a2 a3 a4 a5 0)) sh es on ks ts rs → FK G G' → Q (some (.int (rfs lg E 3 (n6 a1 a2 a3 a4 a5 0)))) G') (k1 : rfs lg E 3 (n6 a1 a2 a3 a4 a5 0) = 0 → ∀ G' us', KS G' b us' ws (lgN lg E 3 (n6 a1 a2 a3 a4 a5 0)) (E + 1) fx 0 sh es on ks ts rs → FK G G' → Q (some (.int (ansI lg E 3 (n6 a1 a2 a3 a4 a5 0)))) G') : Cx (d + 7) mX10_shape [.ref 1, .int a1, .int a2, .int a3, .int a4, .int a5] G Q := by
  have g1 := K.1.2.1
  have C := K.2.1.1
  have hW := K.2.1.2.1
  have r0 := C.1.1
  refine Cx.body rfl rfl ?_
  (repeat (first | refine Ex.go rfl rfl ?_ | refine Ex.gf rfl rfl (by assumption) (by rfl) (by first | rfl | assumption) ?_))
  refine Ex.cv5 rfl rfl rfl r0 (by rfl) (by decide) rfl ?_
  refine c_enterShape K.1.1 C hW (m := us.length + ws.length) K.2.2.2.1 (fun h0 => ?_) (fun h1 G' us' C' F => ?_)
  · have k := k0 h0
    (repeat (first | refine Ex.go rfl rfl ?_ | refine Ex.gf rfl rfl (by assumption) (by rfl) (by first | rfl | assumption) ?_))
    refine Ex.cv1 rfl rfl rfl g1 (by rfl) (by decide) rfl ?_
    refine t_told K (fun G2 K2 F2 => ?_)
    rw [if_pos h0] at K2
    have k := k G2 K2 F2
    (repeat (first | refine Ex.go rfl rfl ?_ | refine Ex.gf rfl rfl (by assumption) (by rfl) (by first | rfl | assumption) ?_))
    refine Ex.ret rfl rfl rfl ?_
    exact k
  · have K1 := K.act (by omega) (by omega) h1 C' F
    have g1' := K1.1.2.1
    have hge := ans_nn hW (show 3 < 12 by omega) h1
    have k := k1 h1
    (repeat (first | refine Ex.go rfl rfl ?_ | refine Ex.gf rfl rfl (by assumption) (by rfl) (by first | rfl | assumption) ?_))
    refine Ex.cv1 rfl rfl rfl g1' (by rfl) (by decide) rfl ?_
    refine t_told K1 (fun G2 K2 F2 => ?_)
    rw [if_neg hge] at K2
    have k := k G2 us' K2 ((K.fkd F.fd).trans F2)
    (repeat (first | refine Ex.go rfl rfl ?_ | refine Ex.gf rfl rfl (by assumption) (by rfl) (by first | rfl | assumption) ?_))
    refine Ex.ret rfl rfl rfl ?_
    exact k
theorem k_patch (K : KS G b us ws lg E fx st sh es on ks ts rs) (k0 : rfs lg E 5 (n6 a1 a2 a3 a4 a5 a6) < 0 → ∀ G', KS G' b us ws lg E fx (rfs lg E 5 (n6 a1 a2 a3 a4 a5 a6)) sh es on ks ts rs → FK G G' → Q (some (.int (rfs lg E 5 (n6 a1 a2 a3 a4 a5 a6)))) G') (k1 : rfs lg E 5 (n6 a1 a2 a3 a4 a5 a6) = 0 → ∀ G' us', KS G' b us' ws (lgN lg E 5 (n6 a1 a2 a3 a4 a5 a6)) (E + 1) fx 0 sh es on ks ts rs → FK G G' → Q (some (.int (ansI lg E 5 (n6 a1 a2 a3 a4 a5 a6)))) G') : Cx (d + 7) mX10_patch [.ref 1, .int a1, .int a2, .int a3, .int a4, .int a5, .int a6] G Q := by
  have g1 := K.1.2.1
  have C := K.2.1.1
  have hW := K.2.1.2.1
  have r0 := C.1.1
  refine Cx.body rfl rfl ?_
  (repeat (first | refine Ex.go rfl rfl ?_ | refine Ex.gf rfl rfl (by assumption) (by rfl) (by first | rfl | assumption) ?_))
  refine Ex.cv6 rfl rfl rfl r0 (by rfl) (by decide) rfl ?_
  refine c_enterPatch K.1.1 C hW (m := us.length + ws.length) K.2.2.2.1 (fun h0 => ?_) (fun h1 G' us' C' F => ?_)
  · have k := k0 h0
    (repeat (first | refine Ex.go rfl rfl ?_ | refine Ex.gf rfl rfl (by assumption) (by rfl) (by first | rfl | assumption) ?_))
    refine Ex.cv1 rfl rfl rfl g1 (by rfl) (by decide) rfl ?_
    refine t_told K (fun G2 K2 F2 => ?_)
    rw [if_pos h0] at K2
    have k := k G2 K2 F2
    (repeat (first | refine Ex.go rfl rfl ?_ | refine Ex.gf rfl rfl (by assumption) (by rfl) (by first | rfl | assumption) ?_))
    refine Ex.ret rfl rfl rfl ?_
    exact k
  · have K1 := K.act (by omega) (by omega) h1 C' F
    have g1' := K1.1.2.1
    have hge := ans_nn hW (show 5 < 12 by omega) h1
    have k := k1 h1
    (repeat (first | refine Ex.go rfl rfl ?_ | refine Ex.gf rfl rfl (by assumption) (by rfl) (by first | rfl | assumption) ?_))
    refine Ex.cv1 rfl rfl rfl g1' (by rfl) (by decide) rfl ?_
    refine t_told K1 (fun G2 K2 F2 => ?_)
    rw [if_neg hge] at K2
    have k := k G2 us' K2 ((K.fkd F.fd).trans F2)
    (repeat (first | refine Ex.go rfl rfl ?_ | refine Ex.gf rfl rfl (by assumption) (by rfl) (by first | rfl | assumption) ?_))
    refine Ex.ret rfl rfl rfl ?_
    exact k
theorem k_plate (K : KS G b us ws lg E fx st sh es on ks ts rs) (k0 : rfs lg E 6 (n6 a1 a2 a3 a4 0 0) < 0 → ∀ G', KS G' b us ws lg E fx (rfs lg E 6 (n6 a1 a2 a3 a4 0 0)) sh es on ks ts rs → FK G G' → Q (some (.int (rfs lg E 6 (n6 a1 a2 a3 a4 0 0)))) G') (k1 : rfs lg E 6 (n6 a1 a2 a3 a4 0 0) = 0 → ∀ G' us', KS G' b us' ws (lgN lg E 6 (n6 a1 a2 a3 a4 0 0)) (E + 1) fx 0 sh es on ks ts rs → FK G G' → Q (some (.int (ansI lg E 6 (n6 a1 a2 a3 a4 0 0)))) G') : Cx (d + 7) mX10_plate [.ref 1, .int a1, .int a2, .int a3, .int a4] G Q := by
  have g1 := K.1.2.1
  have C := K.2.1.1
  have hW := K.2.1.2.1
  have r0 := C.1.1
  refine Cx.body rfl rfl ?_
  (repeat (first | refine Ex.go rfl rfl ?_ | refine Ex.gf rfl rfl (by assumption) (by rfl) (by first | rfl | assumption) ?_))
  refine Ex.cv4 rfl rfl rfl r0 (by rfl) (by decide) rfl ?_
  refine c_enterPlate K.1.1 C hW (m := us.length + ws.length) K.2.2.2.1 (fun h0 => ?_) (fun h1 G' us' C' F => ?_)
  · have k := k0 h0
    (repeat (first | refine Ex.go rfl rfl ?_ | refine Ex.gf rfl rfl (by assumption) (by rfl) (by first | rfl | assumption) ?_))
    refine Ex.cv1 rfl rfl rfl g1 (by rfl) (by decide) rfl ?_
    refine t_told K (fun G2 K2 F2 => ?_)
    rw [if_pos h0] at K2
    have k := k G2 K2 F2
    (repeat (first | refine Ex.go rfl rfl ?_ | refine Ex.gf rfl rfl (by assumption) (by rfl) (by first | rfl | assumption) ?_))
    refine Ex.ret rfl rfl rfl ?_
    exact k
  · have K1 := K.act (by omega) (by omega) h1 C' F
    have g1' := K1.1.2.1
    have hge := ans_nn hW (show 6 < 12 by omega) h1
    have k := k1 h1
    (repeat (first | refine Ex.go rfl rfl ?_ | refine Ex.gf rfl rfl (by assumption) (by rfl) (by first | rfl | assumption) ?_))
    refine Ex.cv1 rfl rfl rfl g1' (by rfl) (by decide) rfl ?_
    refine t_told K1 (fun G2 K2 F2 => ?_)
    rw [if_neg hge] at K2
    have k := k G2 us' K2 ((K.fkd F.fd).trans F2)
    (repeat (first | refine Ex.go rfl rfl ?_ | refine Ex.gf rfl rfl (by assumption) (by rfl) (by first | rfl | assumption) ?_))
    refine Ex.ret rfl rfl rfl ?_
    exact k
theorem k_plug (K : KS G b us ws lg E fx st sh es on ks ts rs) (k0 : rfs lg E 7 (n6 a1 a2 a3 a4 0 0) < 0 → ∀ G', KS G' b us ws lg E fx (rfs lg E 7 (n6 a1 a2 a3 a4 0 0)) sh es on ks ts rs → FK G G' → Q (some (.int (rfs lg E 7 (n6 a1 a2 a3 a4 0 0)))) G') (k1 : rfs lg E 7 (n6 a1 a2 a3 a4 0 0) = 0 → ∀ G' us', KS G' b us' ws (lgN lg E 7 (n6 a1 a2 a3 a4 0 0)) (E + 1) fx 0 sh es on ks ts rs → FK G G' → Q (some (.int (ansI lg E 7 (n6 a1 a2 a3 a4 0 0)))) G') : Cx (d + 7) mX10_plug [.ref 1, .int a1, .int a2, .int a3, .int a4] G Q := by
  have g1 := K.1.2.1
  have C := K.2.1.1
  have hW := K.2.1.2.1
  have r0 := C.1.1
  refine Cx.body rfl rfl ?_
  (repeat (first | refine Ex.go rfl rfl ?_ | refine Ex.gf rfl rfl (by assumption) (by rfl) (by first | rfl | assumption) ?_))
  refine Ex.cv4 rfl rfl rfl r0 (by rfl) (by decide) rfl ?_
  refine c_enterPlug K.1.1 C hW (m := us.length + ws.length) K.2.2.2.1 (fun h0 => ?_) (fun h1 G' us' C' F => ?_)
  · have k := k0 h0
    (repeat (first | refine Ex.go rfl rfl ?_ | refine Ex.gf rfl rfl (by assumption) (by rfl) (by first | rfl | assumption) ?_))
    refine Ex.cv1 rfl rfl rfl g1 (by rfl) (by decide) rfl ?_
    refine t_told K (fun G2 K2 F2 => ?_)
    rw [if_pos h0] at K2
    have k := k G2 K2 F2
    (repeat (first | refine Ex.go rfl rfl ?_ | refine Ex.gf rfl rfl (by assumption) (by rfl) (by first | rfl | assumption) ?_))
    refine Ex.ret rfl rfl rfl ?_
    exact k
  · have K1 := K.act (by omega) (by omega) h1 C' F
    have g1' := K1.1.2.1
    have hge := ans_nn hW (show 7 < 12 by omega) h1
    have k := k1 h1
    (repeat (first | refine Ex.go rfl rfl ?_ | refine Ex.gf rfl rfl (by assumption) (by rfl) (by first | rfl | assumption) ?_))
    refine Ex.cv1 rfl rfl rfl g1' (by rfl) (by decide) rfl ?_
    refine t_told K1 (fun G2 K2 F2 => ?_)
    rw [if_neg hge] at K2
    have k := k G2 us' K2 ((K.fkd F.fd).trans F2)
    (repeat (first | refine Ex.go rfl rfl ?_ | refine Ex.gf rfl rfl (by assumption) (by rfl) (by first | rfl | assumption) ?_))
    refine Ex.ret rfl rfl rfl ?_
    exact k
theorem k_valve (K : KS G b us ws lg E fx st sh es on ks ts rs) (k0 : rfs lg E 8 (n6 a1 a2 a3 a4 0 0) < 0 → ∀ G', KS G' b us ws lg E fx (rfs lg E 8 (n6 a1 a2 a3 a4 0 0)) sh es on ks ts rs → FK G G' → Q (some (.int (rfs lg E 8 (n6 a1 a2 a3 a4 0 0)))) G') (k1 : rfs lg E 8 (n6 a1 a2 a3 a4 0 0) = 0 → ∀ G' us', KS G' b us' ws (lgN lg E 8 (n6 a1 a2 a3 a4 0 0)) (E + 1) fx 0 sh es on ks ts rs → FK G G' → Q (some (.int (ansI lg E 8 (n6 a1 a2 a3 a4 0 0)))) G') : Cx (d + 7) mX10_valve [.ref 1, .int a1, .int a2, .int a3, .int a4] G Q := by
  have g1 := K.1.2.1
  have C := K.2.1.1
  have hW := K.2.1.2.1
  have r0 := C.1.1
  refine Cx.body rfl rfl ?_
  (repeat (first | refine Ex.go rfl rfl ?_ | refine Ex.gf rfl rfl (by assumption) (by rfl) (by first | rfl | assumption) ?_))
  refine Ex.cv4 rfl rfl rfl r0 (by rfl) (by decide) rfl ?_
  refine c_enterValve K.1.1 C hW (m := us.length + ws.length) K.2.2.2.1 (fun h0 => ?_) (fun h1 G' us' C' F => ?_)
  · have k := k0 h0
    (repeat (first | refine Ex.go rfl rfl ?_ | refine Ex.gf rfl rfl (by assumption) (by rfl) (by first | rfl | assumption) ?_))
    refine Ex.cv1 rfl rfl rfl g1 (by rfl) (by decide) rfl ?_
    refine t_told K (fun G2 K2 F2 => ?_)
    rw [if_pos h0] at K2
    have k := k G2 K2 F2
    (repeat (first | refine Ex.go rfl rfl ?_ | refine Ex.gf rfl rfl (by assumption) (by rfl) (by first | rfl | assumption) ?_))
    refine Ex.ret rfl rfl rfl ?_
    exact k
  · have K1 := K.act (by omega) (by omega) h1 C' F
    have g1' := K1.1.2.1
    have hge := ans_nn hW (show 8 < 12 by omega) h1
    have k := k1 h1
    (repeat (first | refine Ex.go rfl rfl ?_ | refine Ex.gf rfl rfl (by assumption) (by rfl) (by first | rfl | assumption) ?_))
    refine Ex.cv1 rfl rfl rfl g1' (by rfl) (by decide) rfl ?_
    refine t_told K1 (fun G2 K2 F2 => ?_)
    rw [if_neg hge] at K2
    have k := k G2 us' K2 ((K.fkd F.fd).trans F2)
    (repeat (first | refine Ex.go rfl rfl ?_ | refine Ex.gf rfl rfl (by assumption) (by rfl) (by first | rfl | assumption) ?_))
    refine Ex.ret rfl rfl rfl ?_
    exact k
theorem k_set (K : KS G b us ws lg E fx st sh es on ks ts rs) (k0 : rfs lg E 9 (n6 a1 a2 a3 a4 0 0) < 0 → ∀ G', KS G' b us ws lg E fx (rfs lg E 9 (n6 a1 a2 a3 a4 0 0)) sh es on ks ts rs → FK G G' → Q (some (.int (rfs lg E 9 (n6 a1 a2 a3 a4 0 0)))) G') (k1 : rfs lg E 9 (n6 a1 a2 a3 a4 0 0) = 0 → ∀ G' us', KS G' b us' ws (lgN lg E 9 (n6 a1 a2 a3 a4 0 0)) (E + 1) fx 0 sh es on ks ts rs → FK G G' → Q (some (.int (ansI lg E 9 (n6 a1 a2 a3 a4 0 0)))) G') : Cx (d + 7) mX10_set [.ref 1, .int a1, .int a2, .int a3, .int a4] G Q := by
  have g1 := K.1.2.1
  have C := K.2.1.1
  have hW := K.2.1.2.1
  have r0 := C.1.1
  refine Cx.body rfl rfl ?_
  (repeat (first | refine Ex.go rfl rfl ?_ | refine Ex.gf rfl rfl (by assumption) (by rfl) (by first | rfl | assumption) ?_))
  refine Ex.cv4 rfl rfl rfl r0 (by rfl) (by decide) rfl ?_
  refine c_enterSet K.1.1 C hW (m := us.length + ws.length) K.2.2.2.1 (fun h0 => ?_) (fun h1 G' us' C' F => ?_)
  · have k := k0 h0
    (repeat (first | refine Ex.go rfl rfl ?_ | refine Ex.gf rfl rfl (by assumption) (by rfl) (by first | rfl | assumption) ?_))
    refine Ex.cv1 rfl rfl rfl g1 (by rfl) (by decide) rfl ?_
    refine t_told K (fun G2 K2 F2 => ?_)
    rw [if_pos h0] at K2
    have k := k G2 K2 F2
    (repeat (first | refine Ex.go rfl rfl ?_ | refine Ex.gf rfl rfl (by assumption) (by rfl) (by first | rfl | assumption) ?_))
    refine Ex.ret rfl rfl rfl ?_
    exact k
  · have K1 := K.act (by omega) (by omega) h1 C' F
    have g1' := K1.1.2.1
    have hge := ans_nn hW (show 9 < 12 by omega) h1
    have k := k1 h1
    (repeat (first | refine Ex.go rfl rfl ?_ | refine Ex.gf rfl rfl (by assumption) (by rfl) (by first | rfl | assumption) ?_))
    refine Ex.cv1 rfl rfl rfl g1' (by rfl) (by decide) rfl ?_
    refine t_told K1 (fun G2 K2 F2 => ?_)
    rw [if_neg hge] at K2
    have k := k G2 us' K2 ((K.fkd F.fd).trans F2)
    (repeat (first | refine Ex.go rfl rfl ?_ | refine Ex.gf rfl rfl (by assumption) (by rfl) (by first | rfl | assumption) ?_))
    refine Ex.ret rfl rfl rfl ?_
    exact k
theorem k_paper (K : KS G b us ws lg E fx st sh es on ks ts rs) (k0 : rfs lg E 10 (n6 a1 a2 a3 a4 a5 0) < 0 → ∀ G', KS G' b us ws lg E fx (rfs lg E 10 (n6 a1 a2 a3 a4 a5 0)) sh es on ks ts rs → FK G G' → Q (some (.int (rfs lg E 10 (n6 a1 a2 a3 a4 a5 0)))) G') (k1 : rfs lg E 10 (n6 a1 a2 a3 a4 a5 0) = 0 → ∀ G' us', KS G' b us' ws (lgN lg E 10 (n6 a1 a2 a3 a4 a5 0)) (E + 1) fx 0 sh es on ks ts rs → FK G G' → Q (some (.int (ansI lg E 10 (n6 a1 a2 a3 a4 a5 0)))) G') : Cx (d + 7) mX10_paper [.ref 1, .int a1, .int a2, .int a3, .int a4, .int a5] G Q := by
  have g1 := K.1.2.1
  have C := K.2.1.1
  have hW := K.2.1.2.1
  have r0 := C.1.1
  refine Cx.body rfl rfl ?_
  (repeat (first | refine Ex.go rfl rfl ?_ | refine Ex.gf rfl rfl (by assumption) (by rfl) (by first | rfl | assumption) ?_))
  refine Ex.cv5 rfl rfl rfl r0 (by rfl) (by decide) rfl ?_
  refine c_enterPaper K.1.1 C hW (m := us.length + ws.length) K.2.2.2.1 (fun h0 => ?_) (fun h1 G' us' C' F => ?_)
  · have k := k0 h0
    (repeat (first | refine Ex.go rfl rfl ?_ | refine Ex.gf rfl rfl (by assumption) (by rfl) (by first | rfl | assumption) ?_))
    refine Ex.cv1 rfl rfl rfl g1 (by rfl) (by decide) rfl ?_
    refine t_told K (fun G2 K2 F2 => ?_)
    rw [if_pos h0] at K2
    have k := k G2 K2 F2
    (repeat (first | refine Ex.go rfl rfl ?_ | refine Ex.gf rfl rfl (by assumption) (by rfl) (by first | rfl | assumption) ?_))
    refine Ex.ret rfl rfl rfl ?_
    exact k
  · have K1 := K.act (by omega) (by omega) h1 C' F
    have g1' := K1.1.2.1
    have hge := ans_nn hW (show 10 < 12 by omega) h1
    have k := k1 h1
    (repeat (first | refine Ex.go rfl rfl ?_ | refine Ex.gf rfl rfl (by assumption) (by rfl) (by first | rfl | assumption) ?_))
    refine Ex.cv1 rfl rfl rfl g1' (by rfl) (by decide) rfl ?_
    refine t_told K1 (fun G2 K2 F2 => ?_)
    rw [if_neg hge] at K2
    have k := k G2 us' K2 ((K.fkd F.fd).trans F2)
    (repeat (first | refine Ex.go rfl rfl ?_ | refine Ex.gf rfl rfl (by assumption) (by rfl) (by first | rfl | assumption) ?_))
    refine Ex.ret rfl rfl rfl ?_
    exact k
theorem k_rule (K : KS G b us ws lg E fx st sh es on ks ts rs) (k0 : rfs lg E 11 (n6 a1 a2 a3 0 0 0) < 0 → ∀ G', KS G' b us ws lg E fx (rfs lg E 11 (n6 a1 a2 a3 0 0 0)) sh es on ks ts rs → FK G G' → Q (some (.int (rfs lg E 11 (n6 a1 a2 a3 0 0 0)))) G') (k1 : rfs lg E 11 (n6 a1 a2 a3 0 0 0) = 0 → ∀ G' us', KS G' b us' ws (lgN lg E 11 (n6 a1 a2 a3 0 0 0)) (E + 1) fx 0 sh es on ks ts rs → FK G G' → Q (some (.int (ansI lg E 11 (n6 a1 a2 a3 0 0 0)))) G') : Cx (d + 7) mX10_rule [.ref 1, .int a1, .int a2, .int a3] G Q := by
  have g1 := K.1.2.1
  have C := K.2.1.1
  have hW := K.2.1.2.1
  have r0 := C.1.1
  refine Cx.body rfl rfl ?_
  (repeat (first | refine Ex.go rfl rfl ?_ | refine Ex.gf rfl rfl (by assumption) (by rfl) (by first | rfl | assumption) ?_))
  refine Ex.cv3 rfl rfl rfl r0 (by rfl) (by decide) rfl ?_
  refine c_enterRule K.1.1 C hW (m := us.length + ws.length) K.2.2.2.1 (fun h0 => ?_) (fun h1 G' us' C' F => ?_)
  · have k := k0 h0
    (repeat (first | refine Ex.go rfl rfl ?_ | refine Ex.gf rfl rfl (by assumption) (by rfl) (by first | rfl | assumption) ?_))
    refine Ex.cv1 rfl rfl rfl g1 (by rfl) (by decide) rfl ?_
    refine t_told K (fun G2 K2 F2 => ?_)
    rw [if_pos h0] at K2
    have k := k G2 K2 F2
    (repeat (first | refine Ex.go rfl rfl ?_ | refine Ex.gf rfl rfl (by assumption) (by rfl) (by first | rfl | assumption) ?_))
    refine Ex.ret rfl rfl rfl ?_
    exact k
  · have K1 := K.act (by omega) (by omega) h1 C' F
    have g1' := K1.1.2.1
    have hge := ans_nn hW (show 11 < 12 by omega) h1
    have k := k1 h1
    (repeat (first | refine Ex.go rfl rfl ?_ | refine Ex.gf rfl rfl (by assumption) (by rfl) (by first | rfl | assumption) ?_))
    refine Ex.cv1 rfl rfl rfl g1' (by rfl) (by decide) rfl ?_
    refine t_told K1 (fun G2 K2 F2 => ?_)
    rw [if_neg hge] at K2
    have k := k G2 us' K2 ((K.fkd F.fd).trans F2)
    (repeat (first | refine Ex.go rfl rfl ?_ | refine Ex.gf rfl rfl (by assumption) (by rfl) (by first | rfl | assumption) ?_))
    refine Ex.ret rfl rfl rfl ?_
    exact k
end KA

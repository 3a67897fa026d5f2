/-! The class's view of a part: what it bears. -/
section CM
variable {d p : Nat} {G : bo_G} {Q : Option Value → bo_G → Prop} {kd sg ra sh sp we mn pa pd pt md gd pl : Int32} {pw : Int64} {S : Nat → spT} {x : Int32}
theorem leC_rng (hX : spX S we x) : ∀ n, n ≤ 12 → 0 ≤ leC S we x n ∧ leC S we x n ≤ 10000 := by
  intro n
  induction n with
  | zero => intro _; exact ⟨by show (0 : Int) ≤ 10000; omega, by show (10000 : Int) ≤ 10000; omega⟩
  | succ n ih =>
    intro hn
    have h1 := ih (by omega)
    have h2 : 0 ≤ spZ (S n) we x := thZ_rng (hX.2.2 n (by omega)).1.2.1.1
    show 0 ≤ min _ _ ∧ min _ _ ≤ (10000 : Int)
    omega
/-- what a part's view bears -/
def beC (kd sg ra sh sf : Int32) (le PW : Int) : Int := if 0 < PW then min (sg.toInt * le * sh.toInt * upZ kd / (1000 * ra.toInt * sf.toInt * dnZ kd)) (PW * 4 / (1000 * ra.toInt * sf.toInt * 5)) else sg.toInt * le * sh.toInt * upZ kd / (1000 * ra.toInt * sf.toInt * dnZ kd)
theorem pv_bears {sf : Int32} {PW : Int} (h : PV G p (pvC p kd sg ra sh sp we mn pa pd pt md pw gd pl) S) (hX : spX S we x) (hsp : rng sp 1 12) (w2 : rng sg 1 100000) (w3 : rng ra 1 100000) (w5 : rng sh 1 1000) (u1 : rng sf 1 20) (hpw : pw.toInt = PW) (hPW : 0 ≤ PW ∧ PW ≤ 1000000000000) (k0 : kd = 2 ∧ mn ≤ pl → Q (some (.int 1000000)) G) (k1 : ¬ (kd = 2 ∧ mn ≤ pl) → ∀ r : Int32, r.toInt = beC kd sg ra sh sf (leC S we x sp.toNatClampNeg) PW → Q (some (.int r)) G) : Cx (d + 2) mX2_bearsOn [.ref p, .int x, .int sf] G Q := by
  have h0 := h.1
  have hn : sp.toNatClampNeg ≤ 12 := by
    obtain ⟨e1, e2, e3⟩ := nI_iof (show 0 ≤ sp.toInt by have := hsp.1; omega)
    have := hsp.2
    omega
  have hle := leC_rng hX _ hn
  have body : (∀ r : Int32, r.toInt = beC kd sg ra sh sf (leC S we x sp.toNatClampNeg) PW → Q (some (.int r)) G) → Ex (d + 2) mX2_bearsOn (22, [(0, .ref p), (1, .int x), (2, .int sf)], [], G) Q := by
    intro k
    unfold beC at k
    have bU : 1 ≤ upZ kd ∧ upZ kd ≤ dnZ kd ∧ dnZ kd ≤ 20 := by
      unfold upZ dnZ
      split
      · omega
      · split <;> omega
    have hund : (1000 : Int) * ra.toInt * sf.toInt = 1000 * (ra.toInt * sf.toInt) := Int.mul_assoc _ _ _
    have bu : 1000 ≤ (1000 : Int) * ra.toInt * sf.toInt ∧ (1000 : Int) * ra.toInt * sf.toInt ≤ 2000000000 := by
      have a1 : (1 : Int) * 1 ≤ ra.toInt * sf.toInt := Int.mul_le_mul w3.1 u1.1 (by omega) (by have := w3.1; omega)
      have a3 := z_pb (show 0 ≤ ra.toInt by have := w3.1; omega) w3.2 (show 0 ≤ sf.toInt by have := u1.1; omega) u1.2
      rw [hund]
      omega
    have l1 : ((1000 : Int64) * ra.toInt64 * sf.toInt64).toInt = 1000 * ra.toInt * sf.toInt := by
      have a3 := z_pb (show 0 ≤ ra.toInt by have := w3.1; omega) w3.2 (show 0 ≤ sf.toInt by have := u1.1; omega) u1.2
      refine l_mul (l_mul (a := 1000) (by decide +kernel) (l_of rfl) (by have := w3.1; have := w3.2; omega)) (l_of rfl) ?_
      omega
    generalize hun : (1000 : Int) * ra.toInt * sf.toInt = und at *
    have m1 := z_pb (show 0 ≤ sg.toInt by have := w2.1; omega) w2.2 hle.1 hle.2
    have m2 := z_pb m1.1 m1.2 (show 0 ≤ sh.toInt by have := w5.1; omega) w5.2
    have m3 := z_pb m2.1 m2.2 (show 0 ≤ upZ kd by omega) (show upZ kd ≤ 20 by omega)
    have m4 := z_pb (show 0 ≤ und by omega) bu.2 (show 0 ≤ dnZ kd by omega) bU.2.2
    have m5 : 1000 * 1 ≤ und * dnZ kd := Int.mul_le_mul bu.1 (by omega) (by omega) (by omega)
    have hB1 : 0 ≤ sg.toInt * leC S we x sp.toNatClampNeg * sh.toInt * upZ kd / (und * dnZ kd) := Int.ediv_nonneg (by omega) (by omega)
    have hB2 : sg.toInt * leC S we x sp.toNatClampNeg * sh.toInt * upZ kd / (und * dnZ kd) ≤ 1000000000 := by
      refine Int.ediv_le_of_le_mul (by omega) ?_
      have n1 : sg.toInt * leC S we x sp.toNatClampNeg * sh.toInt * upZ kd ≤ (100000 * 10000 * 1000) * dnZ kd := Int.mul_le_mul m2.2 bU.2.1 (by omega) (by omega)
      have n2 : 1000 * dnZ kd ≤ und * dnZ kd := Int.mul_le_mul_of_nonneg_right bu.1 (by omega)
      omega
    have hB3 : 0 ≤ PW * 4 / (und * 5) := Int.ediv_nonneg (by omega) (by omega)
    have z1 : (pw * 4).toInt = PW * 4 := l_mul hpw (by decide +kernel) (by omega)
    have z2 : ((1000 : Int64) * ra.toInt64 * sf.toInt64 * 5).toInt = und * 5 := l_mul l1 (by decide +kernel) (by omega)
    (repeat (first | refine Ex.go rfl rfl ?_ | refine Ex.gf rfl rfl (by assumption) (by rfl) (by first | rfl | assumption) ?_))
    refine Ex.cv1 rfl rfl rfl h0 (by rfl) (by decide) rfl ?_
    refine pv_least h hsp hX (fun le hl => ?_)
    have l2 : (sg.toInt64 * le.toInt64 * sh.toInt64).toInt = sg.toInt * leC S we x sp.toNatClampNeg * sh.toInt := l_mul (l_mul (l_of rfl) (l_of hl) (by omega)) (l_of rfl) (by omega)
    (repeat (first | refine Ex.go rfl rfl ?_ | refine Ex.gf rfl rfl (by assumption) (by rfl) (by first | rfl | assumption) ?_))
    refine Ex.cv0 rfl rfl rfl h0 (by rfl) (by decide) rfl ?_
    refine pv_over h0 (fun ov hov => ?_)
    (repeat (first | refine Ex.go rfl rfl ?_ | refine Ex.gf rfl rfl (by assumption) (by rfl) (by first | rfl | assumption) ?_))
    refine Ex.cv0 rfl rfl rfl h0 (by rfl) (by decide) rfl ?_
    refine pv_under h0 (fun un hun2 => ?_)
    have l3 : (sg.toInt64 * le.toInt64 * sh.toInt64 * ov.toInt64).toInt = sg.toInt * leC S we x sp.toNatClampNeg * sh.toInt * upZ kd := l_mul l2 (l_of hov) (by omega)
    have l4 : ((1000 : Int64) * ra.toInt64 * sf.toInt64 * un.toInt64).toInt = und * dnZ kd := l_mul l1 (l_of hun2) (by omega)
    (repeat (first | refine Ex.go rfl rfl ?_ | refine Ex.gf rfl rfl (by assumption) (by rfl) (by first | rfl | assumption) ?_))
    refine Ex.cs2 rfl rfl rfl rfl rfl rfl ?_
    refine pv_quot l3 l4 (by omega) (by omega) (fun q hq => ?_)
    generalize hbe : sg.toInt * leC S we x sp.toNatClampNeg * sh.toInt * upZ kd / (und * dnZ kd) = be at *
    (repeat (first | refine Ex.go rfl rfl ?_ | refine Ex.gf rfl rfl (by assumption) (by rfl) (by first | rfl | assumption) ?_))
    refine Ex.br (fun c1 => ?_) (fun c1 => ?_)
    · have c2 := lcmp_le c1
      rw [hpw] at c2
      have c3 : PW ≤ (0 : Int) := c2
      rw [if_neg (by omega)] at k
      have k := k _ (l_to hq (by omega))
      (repeat (first | refine Ex.go rfl rfl ?_ | refine Ex.gf rfl rfl (by assumption) (by rfl) (by first | rfl | assumption) ?_))
      refine Ex.ret rfl rfl rfl ?_
      exact k
    · have c2 := lcmp_nle c1
      rw [hpw] at c2
      have c3 : (0 : Int) < PW := c2
      rw [if_pos c3] at k
      (repeat (first | refine Ex.go rfl rfl ?_ | refine Ex.gf rfl rfl (by assumption) (by rfl) (by first | rfl | assumption) ?_))
      refine Ex.cs2 rfl rfl rfl rfl rfl rfl ?_
      refine pv_quot z1 z2 (by omega) (by omega) (fun q2 hq2 => ?_)
      (repeat (first | refine Ex.go rfl rfl ?_ | refine Ex.gf rfl rfl (by assumption) (by rfl) (by first | rfl | assumption) ?_))
      refine Ex.cs2 rfl rfl rfl rfl rfl rfl ?_
      refine j_minL hq hq2 (fun r hr => ?_)
      have k := k _ (l_to hr (by omega))
      (repeat (first | refine Ex.go rfl rfl ?_ | refine Ex.gf rfl rfl (by assumption) (by rfl) (by first | rfl | assumption) ?_))
      refine Ex.ret rfl rfl rfl ?_
      exact k
  refine Cx.body rfl rfl ?_
  (repeat (first | refine Ex.go rfl rfl ?_ | refine Ex.gf rfl rfl (by assumption) (by rfl) (by first | rfl | assumption) ?_))
  refine Ex.br (fun c1 => ?_) (fun c1 => ?_)
  · (repeat (first | exact body (k1 fun z => c1 z.1) | refine Ex.go rfl rfl ?_ | refine Ex.gf rfl rfl (by assumption) (by rfl) (by first | rfl | assumption) ?_))
  have n1 : kd = 2 := Decidable.not_not.mp c1
  (repeat (first | refine Ex.go rfl rfl ?_ | refine Ex.gf rfl rfl (by assumption) (by rfl) (by first | rfl | assumption) ?_))
  refine Ex.br (fun c2 => ?_) (fun c2 => ?_)
  · (repeat (first | exact body (k1 fun z => absurd z.2 (Int32.not_le.mpr c2)) | refine Ex.go rfl rfl ?_ | refine Ex.gf rfl rfl (by assumption) (by rfl) (by first | rfl | assumption) ?_))
  have k := k0 ⟨n1, Int32.not_lt.mp c2⟩
  (repeat (first | refine Ex.go rfl rfl ?_ | refine Ex.gf rfl rfl (by assumption) (by rfl) (by first | rfl | assumption) ?_))
  refine Ex.ret rfl rfl rfl ?_
  exact k
end CM

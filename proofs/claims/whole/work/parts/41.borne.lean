/-! What a part bears. -/
def leaZ (lg : Nat → Int32) (E v p : Nat) (x y : Int32) : Nat → Int
  | 0 => 10001
  | q + 1 => min (leaZ lg E v p x y q) (thk lg E v p q x y)
def mnP (lg : Nat → Int32) (v p x y : Int32) (i : Nat) : Prop := (isP lg 5 v p i ∨ isP lg 6 v p i) ∧ stP lg x y i
def undZ (lg : Nat → Int32) (E v p : Nat) : Int := 1000 * (num lg (pat lg E v p) 3).toInt * (num lg (vat lg E v) 1).toInt
def upZ (c : Int32) : Int := if c = 3 then 9 else 1
def dnZ (c : Int32) : Int := if c = 3 then 20 else if c = 1 then 2 else 1
def beaZ (lg : Nat → Int32) (E v p : Nat) (x y : Int32) : Int := (num lg (pat lg E v p) 2).toInt * leaZ lg E v p x y (sho lg E (nI v) (nI p) y 2 1).toNatClampNeg * (num lg (pat lg E v p) 5).toInt * upZ (num lg (pat lg E v p) 1) / (undZ lg E v p * dnZ (num lg (pat lg E v p) 1))
def menO (lg : Nat → Int32) (v p x y : Int32) (n : Nat) : Option Nat := lat (dyy lg) (fun i => (isP lg 5 v p i ∨ isP lg 6 v p i) ∧ stP lg x y i) none 0 n
def brZ (lg : Nat → Int32) (E v p : Nat) (x y : Int32) : Int :=
  if num lg (pat lg E v p) 1 = 2 ∧ plg lg E (nI v) (nI p) x y = sho lg E (nI v) (nI p) y 4 1 then 1000000 else
  match menO lg (nI v) (nI p) x y E with
  | none => beaZ lg E v p x y
  | some i => if cod lg i = 5 then min (beaZ lg E v p x y) ((num lg i 2).toInt * (num lg i 3).toInt * (num lg i 4).toInt * 4 / (undZ lg E v p * 5)) else beaZ lg E v p x y
theorem thZ_rng {e et w x : Int} {o : Option (Int × Int)} (he : 0 ≤ et) : 0 ≤ thZ e et o w x := by
  unfold thZ
  cases o with
  | none => exact Int.le_max_left _ _
  | some q => 
    obtain ⟨a, t⟩ := q
    dsimp only
    split
    · exact Int.le_max_left _ _
    · exact Int.le_max_left _ _
theorem leaZ_rng {lg : Nat → Int32} {E v p : Nat} {x y : Int32} (h : ∀ j, j < E → wfE lg j) (hp : p < (psl lg E v).length) : ∀ q, q ≤ 12 → 0 ≤ leaZ lg E v p x y q ∧ leaZ lg E v p x y q ≤ 10001 := by
  intro q
  induction q with
  | zero => intro _; exact show (0 : Int) ≤ 10001 ∧ (10001 : Int) ≤ 10001 by omega
  | succ q ih =>
    intro hq
    have h1 := ih (by omega)
    have hB := rwB_of (x := x) (y := y) h hp (show q < 12 by omega)
    have h2 : 0 ≤ thk lg E v p q x y := thZ_rng hB.2.1.1
    show 0 ≤ min _ _ ∧ min _ _ ≤ 10001
    omega
section RR
variable {d : Nat} {G : bo_G} {Q : Option Value → bo_G → Prop} {fs : List Value} {lg : Nat → Int32} {E : Nat} {td : Int32} {VS : Nat} {pt vl pp va pa wa nn : Nat → Int32}
theorem mnI_toInt {a b : Int32} : (mnI a b).toInt = min a.toInt b.toInt := by
  unfold mnI
  split
  · rename_i h
    have := Int32.le_iff_toInt_le.mp h
    omega
  · rename_i h
    have h1 : ¬ a.toInt ≤ b.toInt := fun z => h (Int32.le_iff_toInt_le.mpr z)
    omega
theorem j_minL {a b : Int64} {A B : Int} (ha : a.toInt = A) (hb : b.toInt = B) (k : ∀ r : Int64, r.toInt = min A B → Q (some (.long r)) G) : Cx d mJ9_min_f86c9 [.long a, .long b] G Q := by
  refine Cx.body rfl rfl ?_
  (repeat (first | refine Ex.go rfl rfl ?_ | refine Ex.gf rfl rfl (by assumption) (by rfl) (by first | rfl | assumption) ?_))
  refine Ex.br (fun hc => ?_) (fun hc => ?_)
  · have h1 := lcmp_gt hc
    rw [ha, hb] at h1
    have k := k b (by omega)
    (repeat (first | refine Ex.go rfl rfl ?_ | refine Ex.gf rfl rfl (by assumption) (by rfl) (by first | rfl | assumption) ?_))
    refine Ex.ret rfl rfl rfl ?_
    exact k
  · have h1 := lcmp_ngt hc
    rw [ha, hb] at h1
    have k := k a (by omega)
    (repeat (first | refine Ex.go rfl rfl ?_ | refine Ex.gf rfl rfl (by assumption) (by rfl) (by first | rfl | assumption) ?_))
    refine Ex.ret rfl rfl rfl ?_
    exact k
theorem r_borne {v p : Nat} {x y : Int32} (h : RD G fs lg E td VS pt vl pp va pa wa nn) (hI : RI lg E VS pt vl pp va pa wa) (hW : ∀ j, j < E → wfE lg j) (hL : fs.length = 32) (hv : v < VS) (hp : p < (psl lg E v).length) (hx : rng x 0 40000) (k : ∀ r G' f, RD G' f lg E td VS pt vl pp va pa wa nn → SG G fs G' f → r.toInt = brZ lg E v p x y → Q (some (.int r)) G') : Cx (d + 5) mX11_borne [.ref 364, .int (nI v), .int (nI p), .int x, .int y] G Q := by
  have h' := h
  obtain ⟨⟨g0, g1, g2, g3, g4, g5, g6, g7, g8, g9, -⟩, ⟨h0, h1, h2, h3, h4, h5, -⟩, hE, hV⟩ := h
  have h := h'
  have hp2 := pat_lt hp
  have hp3 := (hI.hp v hv).2
  have hvl : v < (vsl lg E).length := by have := hI.hv; omega
  have hv2 := vat_lt hvl
  obtain ⟨-, w1, w2, w3, w4, w5, -⟩ := (wf_p hW (by omega) (by omega) hp).2
  obtain ⟨-, -, u1, -⟩ := wf_v hW hvl
  have hsr := spots_rng (y := y) hW (v := nI v) (p := nI p)
  obtain ⟨es, es2, es3⟩ := nI_iof (show 0 ≤ (sho lg E (nI v) (nI p) y 2 1).toInt by have := hsr.1; omega)
  unfold brZ beaZ at k
  have S0 := SG.rfl' h hL
  have hund : undZ lg E v p = 1000 * (num lg (pat lg E v p) 3).toInt * (num lg (vat lg E v) 1).toInt := rfl
  generalize undZ lg E v p = und at hund k
  generalize (sho lg E (nI v) (nI p) y 2 1).toNatClampNeg = sn at es es2 es3 k
  -- behind the spots
  have rest : ∀ (G1 : bo_G) (f : List Value) (le : Int32), RD G1 f lg E td VS pt vl pp va pa wa nn → SG G fs G1 f → le.toInt = leaZ lg E v p x y sn → (∀ r, r.toInt = (match menO lg (nI v) (nI p) x y E with | none => (num lg (pat lg E v p) 2).toInt * leaZ lg E v p x y sn * (num lg (pat lg E v p) 5).toInt * upZ (num lg (pat lg E v p) 1) / (und * dnZ (num lg (pat lg E v p) 1)) | some i => if cod lg i = 5 then min ((num lg (pat lg E v p) 2).toInt * leaZ lg E v p x y sn * (num lg (pat lg E v p) 5).toInt * upZ (num lg (pat lg E v p) 1) / (und * dnZ (num lg (pat lg E v p) 1))) ((num lg i 2).toInt * (num lg i 3).toInt * (num lg i 4).toInt * 4 / (und * 5)) else (num lg (pat lg E v p) 2).toInt * leaZ lg E v p x y sn * (num lg (pat lg E v p) 5).toInt * upZ (num lg (pat lg E v p) 1) / (und * dnZ (num lg (pat lg E v p) 1))) → Q (some (.int r)) G1) → Ex (d + 5) mX11_borne (101, [(0, .ref 364), (1, .int (nI v)), (2, .int (nI p)), (3, .int x), (4, .int y), (5, .int (nI (pat lg E v p))), (6, .int (num lg (pat lg E v p) 1)), (7, .int le), (8, .int (nI sn)), (9, .int (nI sn))], [], G1) Q := by
    intro G1 f le R1 S1 hle k
    have q0 := R1.1.1
    have q2 := R1.1.2.2.1
    have q8 := R1.1.2.2.2.2.2.2.2.2.1
    have q4 := R1.2.1.2.2.2.2.1
    have hsn : sn ≤ 12 := by have := hsr.2; omega
    have hle2 := leaZ_rng (x := x) (y := y) hW hp sn hsn
    have bu : 1000 ≤ und ∧ und ≤ 2000000000 := by
      have a1 := z_pb (show 0 ≤ (num lg (pat lg E v p) 3).toInt - 1 by have := w3.1; omega) (show (num lg (pat lg E v p) 3).toInt - 1 ≤ 99999 by have := w3.2; omega) (show 0 ≤ (num lg (vat lg E v) 1).toInt - 1 by have := u1.1; omega) (show (num lg (vat lg E v) 1).toInt - 1 ≤ 19 by have := u1.2; omega)
      have a2 : ((num lg (pat lg E v p) 3).toInt - 1) * ((num lg (vat lg E v) 1).toInt - 1) = (num lg (pat lg E v p) 3).toInt * (num lg (vat lg E v) 1).toInt - (num lg (pat lg E v p) 3).toInt - (num lg (vat lg E v) 1).toInt + 1 := by
        rw [Int.sub_mul, Int.mul_sub]; omega
      have a3 := z_pb (show 0 ≤ (num lg (pat lg E v p) 3).toInt by have := w3.1; omega) w3.2 (show 0 ≤ (num lg (vat lg E v) 1).toInt by have := u1.1; omega) u1.2
      rw [hund, Int.mul_assoc]
      have := w3.1
      have := u1.1
      omega
    have l1 : ((1000 : Int64) * (num lg (pat lg E v p) 3).toInt64 * (num lg (vat lg E v) 1).toInt64).toInt = und := by
      rw [hund]
      have a3 := z_pb (show 0 ≤ (num lg (pat lg E v p) 3).toInt by have := w3.1; omega) w3.2 (show 0 ≤ (num lg (vat lg E v) 1).toInt by have := u1.1; omega) u1.2
      refine l_mul (l_mul (a := 1000) (by decide +kernel) (l_of rfl) (by have := w3.1; have := w3.2; omega)) (l_of rfl) ?_
      rw [← hund]; omega
    have tail : ∀ (up down : Int64) (U D : Int), up.toInt = U → down.toInt = D → U = upZ (num lg (pat lg E v p) 1) → D = dnZ (num lg (pat lg E v p) 1) → 1 ≤ U → U ≤ D → D ≤ 20 → Ex (d + 5) mX11_borne (143, [(0, .ref 364), (1, .int (nI v)), (2, .int (nI p)), (3, .int x), (4, .int y), (5, .int (nI (pat lg E v p))), (6, .int (num lg (pat lg E v p) 1)), (7, .int le), (8, .int (nI sn)), (9, .long up), (11, .long down)], [], G1) Q := by
      intro up down U D hU hD eU eD b1 b2 b3
      rw [← eU, ← eD] at k
      have m1 := z_pb (show 0 ≤ (num lg (pat lg E v p) 2).toInt by have := w2.1; omega) w2.2 hle2.1 hle2.2
      have m2 := z_pb m1.1 m1.2 (show 0 ≤ (num lg (pat lg E v p) 5).toInt by have := w5.1; omega) w5.2
      have m3 := z_pb m2.1 m2.2 (show 0 ≤ U by omega) (show U ≤ 20 by omega)
      have m4 := z_pb (show 0 ≤ und by omega) bu.2 (show 0 ≤ D by omega) b3
      have m5 : 1000 * 1 ≤ und * D := Int.mul_le_mul bu.1 (by omega) (by omega) (by omega)
      have l2 : ((num lg (pat lg E v p) 2).toInt64 * le.toInt64 * (num lg (pat lg E v p) 5).toInt64 * up).toInt = (num lg (pat lg E v p) 2).toInt * leaZ lg E v p x y sn * (num lg (pat lg E v p) 5).toInt * U := l_mul (l_mul (l_mul (l_of rfl) (l_of hle) (by omega)) (l_of rfl) (by omega)) hU (by omega)
      have l3 : ((1000 : Int64) * (num lg (pat lg E v p) 3).toInt64 * (num lg (vat lg E v) 1).toInt64 * down).toInt = und * D := l_mul l1 hD (by omega)
      have l4 := l_div l2 l3 (by omega) (by omega)
      have hnz : ¬ (1000 : Int64) * (num lg (pat lg E v p) 3).toInt64 * (num lg (vat lg E v) 1).toInt64 * down = 0 := fun z => by
        rw [z] at l3
        have : (0 : Int64).toInt = 0 := rfl
        omega
      have hB1 : 0 ≤ (num lg (pat lg E v p) 2).toInt * leaZ lg E v p x y sn * (num lg (pat lg E v p) 5).toInt * U / (und * D) := Int.ediv_nonneg (by omega) (by omega)
      have hB2 : (num lg (pat lg E v p) 2).toInt * leaZ lg E v p x y sn * (num lg (pat lg E v p) 5).toInt * U / (und * D) ≤ 1000100000 := by
        refine Int.ediv_le_of_le_mul (by omega) ?_
        have n1 : (num lg (pat lg E v p) 2).toInt * leaZ lg E v p x y sn * (num lg (pat lg E v p) 5).toInt * U ≤ (100000 * 10001 * 1000) * D := Int.mul_le_mul m2.2 b2 (by omega) (by omega)
        have n2 : 1000 * D ≤ und * D := Int.mul_le_mul_of_nonneg_right bu.1 (by omega)
        omega
      generalize hbe : (num lg (pat lg E v p) 2).toInt * leaZ lg E v p x y sn * (num lg (pat lg E v p) 5).toInt * U / (und * D) = be at *
      (repeat (first | refine Ex.go rfl rfl ?_ | refine Ex.gf rfl rfl (by assumption) (by rfl) (by first | rfl | assumption) ?_))
      refine Ex.cv2 rfl rfl rfl (by assumption) (by rfl) (by decide) rfl ?_
      refine r_number (j := 3) R1 (by omega) (by omega) ?_
      (repeat (first | refine Ex.go rfl rfl ?_ | refine Ex.gf rfl rfl (by assumption) (by rfl) (by first | rfl | assumption) ?_))
      refine Ex.ialN rfl (j := v) rfl q4 (by omega) (by omega) ?_
      rw [hI.hva v hv]
      (repeat (first | refine Ex.go rfl rfl ?_ | refine Ex.gf rfl rfl (by assumption) (by rfl) (by first | rfl | assumption) ?_))
      refine Ex.cv2 rfl rfl rfl (by assumption) (by rfl) (by decide) rfl ?_
      refine r_number (j := 1) R1 (by omega) (by omega) ?_
      (repeat (first | refine Ex.go rfl rfl ?_ | refine Ex.gf rfl rfl (by assumption) (by rfl) (by first | rfl | assumption) ?_))
      refine Ex.cv2 rfl rfl rfl (by assumption) (by rfl) (by decide) rfl ?_
      refine r_number (j := 2) R1 (by omega) (by omega) ?_
      (repeat (first | refine Ex.go rfl rfl ?_ | refine Ex.gf rfl rfl (by assumption) (by rfl) (by first | rfl | assumption) ?_))
      refine Ex.cv2 rfl rfl rfl (by assumption) (by rfl) (by decide) rfl ?_
      refine r_number (j := 5) R1 (by omega) (by omega) ?_
      (repeat (first | refine Ex.go rfl rfl ?_ | refine Ex.gf rfl rfl (by assumption) (by rfl) (by first | rfl | assumption) ?_))
      refine Ex.ldv rfl hnz ?_
      have hml : ∀ i, i ≤ E → ∀ j, menO lg (nI v) (nI p) x y i = some j → j < E := fun i hi j hj => lat_lt (B := E) (fun k hk => by cases hk) (by omega) hj
      have loop2 : ∀ (e i : Nat) (a b : Int32) (ul bl : Int64), ul.toInt = und → bl.toInt = be → a = nI i → b = oI (menO lg (nI v) (nI p) x y i) → i + e = E → Ex (d + 5) mX11_borne (208, [(0, .ref 364), (1, .int (nI v)), (2, .int (nI p)), (3, .int x), (4, .int y), (5, .int (nI (pat lg E v p))), (6, .int (num lg (pat lg E v p) 1)), (7, .int le), (8, .int (nI sn)), (9, .long up), (11, .long down), (13, .long ul), (15, .long bl), (17, .int b), (18, .int a)], [], G1) Q := by
        intro e
        induction e with
        | zero =>
          intro i a b ul bl hul hbl ha hb hi
          subst ha hb
          have hi' : E = i := by omega
          have hml2 := hml i (by omega)
          rw [hi'] at k
          (repeat (first | refine Ex.go rfl rfl ?_ | refine Ex.gf rfl rfl (by assumption) (by rfl) (by first | rfl | assumption) ?_))
          refine Ex.br (fun hd1 => ?_) (fun hd1 => ?_); rotate_left
          · exact absurd (nI_le (show E ≤ i by omega) (by omega)) hd1
          have fin : ∀ (q : Int64), q.toInt = be → (∀ r, r.toInt = be → Q (some (.int r)) G1) → Q (some (.int q.toInt32)) G1 := fun q hq k => k _ (l_to hq (by omega))
          cases hs : menO lg (nI v) (nI p) x y i with
          | none =>
            rw [hs] at k
            have k := fin bl hbl k
            (repeat (first | refine Ex.go rfl rfl ?_ | refine Ex.gf rfl rfl (by assumption) (by rfl) (by first | rfl | assumption) ?_))
            refine Ex.ret rfl rfl rfl ?_
            exact k
          | some j =>
            have hj := hml2 j hs
            rw [hs] at k
            replace k : ∀ r : Int32, r.toInt = (if cod lg j = 5 then min be ((num lg j 2).toInt * (num lg j 3).toInt * (num lg j 4).toInt * 4 / (und * 5)) else be) → Q (some (.int r)) G1 := k
            (repeat (first | refine Ex.go rfl rfl ?_ | refine Ex.gf rfl rfl (by assumption) (by rfl) (by first | rfl | assumption) ?_))
            refine Ex.br (fun hd2 => ?_) (fun hd2 => ?_)
            · exact absurd hd2 (nI_pos (n := j) (by omega))
            (repeat (first | refine Ex.go rfl rfl ?_ | refine Ex.gf rfl rfl (by assumption) (by rfl) (by first | rfl | assumption) ?_))
            refine Ex.cv1 rfl rfl rfl (by assumption) (by rfl) (by decide) rfl ?_
            refine r_code R1 (by omega) ?_
            (repeat (first | refine Ex.go rfl rfl ?_ | refine Ex.gf rfl rfl (by assumption) (by rfl) (by first | rfl | assumption) ?_))
            refine Ex.br (fun hd3 => ?_) (fun hd3 => ?_)
            · rw [show (if cod lg j = 5 then min be ((num lg j 2).toInt * (num lg j 3).toInt * (num lg j 4).toInt * 4 / (und * 5)) else be) = be from if_neg hd3] at k
              have k := fin bl hbl k
              (repeat (first | refine Ex.go rfl rfl ?_ | refine Ex.gf rfl rfl (by assumption) (by rfl) (by first | rfl | assumption) ?_))
              refine Ex.ret rfl rfl rfl ?_
              exact k
            have hd3 := Decidable.not_not.mp hd3
            rw [show (if cod lg j = 5 then min be ((num lg j 2).toInt * (num lg j 3).toInt * (num lg j 4).toInt * 4 / (und * 5)) else be) = min be ((num lg j 2).toInt * (num lg j 3).toInt * (num lg j 4).toInt * 4 / (und * 5)) from if_pos hd3] at k
            obtain ⟨_, -, -, _, -, -, -, x2, x3, x4, -⟩ := wf_c5 (hW j hj) hd3
            have y1 := z_pb (show 0 ≤ (num lg j 2).toInt by have := x2.1; omega) x2.2 (show 0 ≤ (num lg j 3).toInt by have := x3.1; omega) x3.2
            have y2 := z_pb y1.1 y1.2 (show 0 ≤ (num lg j 4).toInt by have := x4.1; omega) x4.2
            have z1 : ((num lg j 2).toInt64 * (num lg j 3).toInt64 * (num lg j 4).toInt64 * 4).toInt = (num lg j 2).toInt * (num lg j 3).toInt * (num lg j 4).toInt * 4 := l_mul (l_mul (l_mul (l_of rfl) (l_of rfl) (by omega)) (l_of rfl) (by omega)) (by decide +kernel) (by omega)
            have z2 : (ul * 5).toInt = und * 5 := l_mul hul (by decide +kernel) (by omega)
            have z3 := l_div z1 z2 (by omega) (by omega)
            have z4 : ¬ ul * 5 = 0 := fun z => by
              rw [z] at z2
              have : (0 : Int64).toInt = 0 := rfl
              omega
            have z5 : 0 ≤ (num lg j 2).toInt * (num lg j 3).toInt * (num lg j 4).toInt * 4 / (und * 5) := Int.ediv_nonneg (by omega) (by omega)
            (repeat (first | refine Ex.go rfl rfl ?_ | refine Ex.gf rfl rfl (by assumption) (by rfl) (by first | rfl | assumption) ?_))
            refine Ex.cv2 rfl rfl rfl (by assumption) (by rfl) (by decide) rfl ?_
            refine r_number (j := 2) R1 (by omega) (by omega) ?_
            (repeat (first | refine Ex.go rfl rfl ?_ | refine Ex.gf rfl rfl (by assumption) (by rfl) (by first | rfl | assumption) ?_))
            refine Ex.cv2 rfl rfl rfl (by assumption) (by rfl) (by decide) rfl ?_
            refine r_number (j := 3) R1 (by omega) (by omega) ?_
            (repeat (first | refine Ex.go rfl rfl ?_ | refine Ex.gf rfl rfl (by assumption) (by rfl) (by first | rfl | assumption) ?_))
            refine Ex.cv2 rfl rfl rfl (by assumption) (by rfl) (by decide) rfl ?_
            refine r_number (j := 4) R1 (by omega) (by omega) ?_
            (repeat (first | refine Ex.go rfl rfl ?_ | refine Ex.gf rfl rfl (by assumption) (by rfl) (by first | rfl | assumption) ?_))
            refine Ex.ldv rfl z4 ?_
            refine Ex.cs2 rfl rfl rfl rfl rfl rfl ?_
            refine j_minL hbl z3 (fun r hr => ?_)
            have k := k _ (l_to hr (by omega))
            (repeat (first | refine Ex.go rfl rfl ?_ | refine Ex.gf rfl rfl (by assumption) (by rfl) (by first | rfl | assumption) ?_))
            refine Ex.ret rfl rfl rfl ?_
            exact k
        | succ e ih =>
          intro i a b ul bl hul hbl ha hb hi
          subst ha hb
          have ef : (0 : Nat) + i = i := Nat.zero_add i
          have hs : ∀ k, menO lg (nI v) (nI p) x y i = some k → k < 6000 := fun j hj => by have := hml i (by omega) j hj; omega
          have no : ¬ (((isP lg 5 (nI v) (nI p) i ∨ isP lg 6 (nI v) (nI p) i) ∧ stP lg x y i) ∧ ltb (dyy lg) i (menO lg (nI v) (nI p) x y i) = true) → menO lg (nI v) (nI p) x y (i + 1) = menO lg (nI v) (nI p) x y i := fun z => if_neg (by rw [ef]; exact z)
          have yes : (((isP lg 5 (nI v) (nI p) i ∨ isP lg 6 (nI v) (nI p) i) ∧ stP lg x y i) ∧ ltb (dyy lg) i (menO lg (nI v) (nI p) x y i) = true) → menO lg (nI v) (nI p) x y (i + 1) = some i := fun z => by
            have : menO lg (nI v) (nI p) x y (i + 1) = some (0 + i) := if_pos (by rw [ef]; exact z)
            rw [this, ef]
          have half : (isP lg 5 (nI v) (nI p) i ∨ isP lg 6 (nI v) (nI p) i) → Ex (d + 5) mX11_borne (242, [(0, .ref 364), (1, .int (nI v)), (2, .int (nI p)), (3, .int x), (4, .int y), (5, .int (nI (pat lg E v p))), (6, .int (num lg (pat lg E v p) 1)), (7, .int le), (8, .int (nI sn)), (9, .long up), (11, .long down), (13, .long ul), (15, .long bl), (17, .int (oI (menO lg (nI v) (nI p) x y i))), (18, .int (nI i))], [], G1) Q := by
            intro h1
            (repeat (first | refine Ex.go rfl rfl ?_ | refine Ex.gf rfl rfl (by assumption) (by rfl) (by first | rfl | assumption) ?_))
            refine Ex.cv3 rfl rfl rfl (by assumption) (by rfl) (by decide) rfl ?_
            refine r_stands R1 (by omega) ?_
            (repeat (first | refine Ex.go rfl rfl ?_ | refine Ex.gf rfl rfl (by assumption) (by rfl) (by first | rfl | assumption) ?_))
            refine Ex.brz (fun h2 => ?_) (fun h2 => ?_); rotate_left
            · have e1 := no fun z => h2 z.1.2
              (repeat (first | exact ih (i + 1) _ _ ul bl hul hbl (nI_1 i) (by rw [e1]) (by omega) | refine Ex.go rfl rfl ?_ | refine Ex.gf rfl rfl (by assumption) (by rfl) (by first | rfl | assumption) ?_))
            (repeat (first | refine Ex.go rfl rfl ?_ | refine Ex.gf rfl rfl (by assumption) (by rfl) (by first | rfl | assumption) ?_))
            refine Ex.cv2 rfl rfl rfl (by assumption) (by rfl) (by decide) rfl ?_
            refine r_isLater R1 (by omega) hs ?_
            (repeat (first | refine Ex.go rfl rfl ?_ | refine Ex.gf rfl rfl (by assumption) (by rfl) (by first | rfl | assumption) ?_))
            refine Ex.brz (fun h3 => ?_) (fun h3 => ?_); rotate_left
            · have e1 := no fun z => h3 z.2
              (repeat (first | exact ih (i + 1) _ _ ul bl hul hbl (nI_1 i) (by rw [e1]) (by omega) | refine Ex.go rfl rfl ?_ | refine Ex.gf rfl rfl (by assumption) (by rfl) (by first | rfl | assumption) ?_))
            have e1 := yes ⟨⟨h1, h2⟩, h3⟩
            (repeat (first | exact ih (i + 1) _ _ ul bl hul hbl (nI_1 i) (by rw [e1]; rfl) (by omega) | refine Ex.go rfl rfl ?_ | refine Ex.gf rfl rfl (by assumption) (by rfl) (by first | rfl | assumption) ?_))
          (repeat (first | refine Ex.go rfl rfl ?_ | refine Ex.gf rfl rfl (by assumption) (by rfl) (by first | rfl | assumption) ?_))
          refine Ex.br (fun hd1 => ?_) (fun hd1 => ?_)
          · have := (n_ge (a := i) (b := E) (by omega) (by omega)).mp hd1
            omega
          (repeat (first | refine Ex.go rfl rfl ?_ | refine Ex.gf rfl rfl (by assumption) (by rfl) (by first | rfl | assumption) ?_))
          refine Ex.cv4 rfl rfl rfl (by assumption) (by rfl) (by decide) rfl ?_
          refine r_isOf R1 (by omega) ?_
          (repeat (first | refine Ex.go rfl rfl ?_ | refine Ex.gf rfl rfl (by assumption) (by rfl) (by first | rfl | assumption) ?_))
          refine Ex.brn (fun h1 => ?_) (fun h1 => ?_)
          · (repeat (first | exact half (Or.inl h1) | refine Ex.go rfl rfl ?_ | refine Ex.gf rfl rfl (by assumption) (by rfl) (by first | rfl | assumption) ?_))
          (repeat (first | refine Ex.go rfl rfl ?_ | refine Ex.gf rfl rfl (by assumption) (by rfl) (by first | rfl | assumption) ?_))
          refine Ex.cv4 rfl rfl rfl (by assumption) (by rfl) (by decide) rfl ?_
          refine r_isOf R1 (by omega) ?_
          (repeat (first | refine Ex.go rfl rfl ?_ | refine Ex.gf rfl rfl (by assumption) (by rfl) (by first | rfl | assumption) ?_))
          refine Ex.brz (fun h2 => ?_) (fun h2 => ?_); rotate_left
          · have e1 := no fun z => z.1.1.elim h1 h2
            (repeat (first | exact ih (i + 1) _ _ ul bl hul hbl (nI_1 i) (by rw [e1]) (by omega) | refine Ex.go rfl rfl ?_ | refine Ex.gf rfl rfl (by assumption) (by rfl) (by first | rfl | assumption) ?_))
          (repeat (first | exact half (Or.inr h2) | refine Ex.go rfl rfl ?_ | refine Ex.gf rfl rfl (by assumption) (by rfl) (by first | rfl | assumption) ?_))
      (repeat (first | exact loop2 E 0 _ _ _ _ l1 l4 rfl rfl (by omega) | refine Ex.go rfl rfl ?_ | refine Ex.gf rfl rfl (by assumption) (by rfl) (by first | rfl | assumption) ?_))
    (repeat (first | refine Ex.go rfl rfl ?_ | refine Ex.gf rfl rfl (by assumption) (by rfl) (by first | rfl | assumption) ?_))
    refine Ex.br (fun hc => ?_) (fun hc => ?_)
    · have e1 : upZ (num lg (pat lg E v p) 1) = 1 := if_neg hc
      (repeat (first | refine Ex.go rfl rfl ?_ | refine Ex.gf rfl rfl (by assumption) (by rfl) (by first | rfl | assumption) ?_))
      refine Ex.br (fun hc2 => ?_) (fun hc2 => ?_); rotate_left
      · exact absurd (Decidable.not_not.mp hc2) hc
      (repeat (first | refine Ex.go rfl rfl ?_ | refine Ex.gf rfl rfl (by assumption) (by rfl) (by first | rfl | assumption) ?_))
      refine Ex.br (fun hc3 => ?_) (fun hc3 => ?_)
      · have e2 : dnZ (num lg (pat lg E v p) 1) = 1 := (if_neg hc).trans (if_neg hc3)
        (repeat (first | exact tail _ _ 1 1 rfl rfl e1.symm e2.symm (by omega) (by omega) (by omega) | refine Ex.go rfl rfl ?_ | refine Ex.gf rfl rfl (by assumption) (by rfl) (by first | rfl | assumption) ?_))
      · have e2 : dnZ (num lg (pat lg E v p) 1) = 2 := (if_neg hc).trans (if_pos (Decidable.not_not.mp hc3))
        (repeat (first | exact tail _ _ 1 2 rfl (by decide +kernel) e1.symm e2.symm (by omega) (by omega) (by omega) | refine Ex.go rfl rfl ?_ | refine Ex.gf rfl rfl (by assumption) (by rfl) (by first | rfl | assumption) ?_))
    · have hc' := Decidable.not_not.mp hc
      have e1 : upZ (num lg (pat lg E v p) 1) = 9 := if_pos hc'
      have e2 : dnZ (num lg (pat lg E v p) 1) = 20 := if_pos hc'
      (repeat (first | refine Ex.go rfl rfl ?_ | refine Ex.gf rfl rfl (by assumption) (by rfl) (by first | rfl | assumption) ?_))
      refine Ex.br (fun hc2 => ?_) (fun hc2 => ?_)
      · exact absurd hc' hc2
      (repeat (first | exact tail _ _ 9 20 (by decide +kernel) (by decide +kernel) e1.symm e2.symm (by omega) (by omega) (by omega) | refine Ex.go rfl rfl ?_ | refine Ex.gf rfl rfl (by assumption) (by rfl) (by first | rfl | assumption) ?_))
  have loop : ∀ (e i : Nat) (a b : Int32) (G1 : bo_G) (f : List Value), RD G1 f lg E td VS pt vl pp va pa wa nn → SG G fs G1 f → a = nI i → b.toInt = leaZ lg E v p x y i → i + e = sn → ¬ (num lg (pat lg E v p) 1 = 2 ∧ plg lg E (nI v) (nI p) x y = sho lg E (nI v) (nI p) y 4 1) → Ex (d + 5) mX11_borne (70, [(0, .ref 364), (1, .int (nI v)), (2, .int (nI p)), (3, .int x), (4, .int y), (5, .int (nI (pat lg E v p))), (6, .int (num lg (pat lg E v p) 1)), (7, .int b), (8, .int (nI sn)), (9, .int a)], [], G1) Q := by
    intro e
    induction e with
    | zero =>
      intro i a b G1 f R1 S1 ha hb hi hn
      subst ha
      have hi' : i = sn := by omega
      subst hi'
      (repeat (first | refine Ex.go rfl rfl ?_ | refine Ex.gf rfl rfl (by assumption) (by rfl) (by first | rfl | assumption) ?_))
      refine Ex.br (fun hc => ?_) (fun hc => ?_); rotate_left
      · exact absurd (nI_le (show i ≤ i by omega) (by omega)) hc
      (repeat (first | exact rest G1 f b R1 S1 hb (fun r hr => k r G1 f R1 S1 (hr.trans (if_neg hn).symm)) | refine Ex.go rfl rfl ?_ | refine Ex.gf rfl rfl (by assumption) (by rfl) (by first | rfl | assumption) ?_))
    | succ e ih =>
      intro i a b G1 f R1 S1 ha hb hi hn
      subst ha
      have g1' := R1.1.1
      have hsn : sn ≤ 12 := by have := hsr.2; omega
      (repeat (first | refine Ex.go rfl rfl ?_ | refine Ex.gf rfl rfl (by assumption) (by rfl) (by first | rfl | assumption) ?_))
      refine Ex.br (fun hc => ?_) (fun hc => ?_)
      · have := (n_ge (a := i) (b := sn) (by omega) (by omega)).mp hc
        omega
      (repeat (first | refine Ex.go rfl rfl ?_ | refine Ex.gf rfl rfl (by assumption) (by rfl) (by first | rfl | assumption) ?_))
      refine Ex.cv5 rfl rfl rfl (by assumption) (by rfl) (by decide) rfl ?_
      refine r_thickness R1 hI (S1.2.2.1.trans hL) hv hp (by omega) (rwB_of hW hp (by omega)) hx (fun r G2 f2 R2 S2 hr => ?_)
      (repeat (first | refine Ex.go rfl rfl ?_ | refine Ex.gf rfl rfl (by assumption) (by rfl) (by first | rfl | assumption) ?_))
      refine Ex.cs2 rfl rfl rfl rfl rfl rfl ?_
      refine j_min ?_
      (repeat (first | exact ih (i + 1) _ _ G2 f2 R2 (S1.trans S2) (nI_1 i) (by rw [mnI_toInt, hb, hr]; rfl) (by omega) hn | refine Ex.go rfl rfl ?_ | refine Ex.gf rfl rfl (by assumption) (by rfl) (by first | rfl | assumption) ?_))
  refine Cx.body rfl rfl ?_
  (repeat (first | refine Ex.go rfl rfl ?_ | refine Ex.gf rfl rfl (by assumption) (by rfl) (by first | rfl | assumption) ?_))
  refine Ex.ialN rfl (show nI 24 * nI v + nI p = nI (24 * v + p) by rw [pk_mul, nI_add]) (by assumption) (by omega) (by omega) ?_
  rw [hI.hpa v p hv hp]
  (repeat (first | refine Ex.go rfl rfl ?_ | refine Ex.gf rfl rfl (by assumption) (by rfl) (by first | rfl | assumption) ?_))
  refine Ex.cv2 rfl rfl rfl (by assumption) (by rfl) (by decide) rfl ?_
  refine r_number (j := 1) h (by omega) (by omega) ?_
  have main : ¬ (num lg (pat lg E v p) 1 = 2 ∧ plg lg E (nI v) (nI p) x y = sho lg E (nI v) (nI p) y 4 1) → Ex (d + 5) mX11_borne (52, [(0, .ref 364), (1, .int (nI v)), (2, .int (nI p)), (3, .int x), (4, .int y), (5, .int (nI (pat lg E v p))), (6, .int (num lg (pat lg E v p) 1))], [], G) Q := by
    intro hn
    (repeat (first | refine Ex.go rfl rfl ?_ | refine Ex.gf rfl rfl (by assumption) (by rfl) (by first | rfl | assumption) ?_))
    refine Ex.cv3 rfl rfl rfl (by assumption) (by rfl) (by decide) rfl ?_
    refine r_spots h ?_
    rw [es]
    (repeat (first | exact loop sn 0 _ _ G fs h S0 rfl rfl (by omega) hn | refine Ex.go rfl rfl ?_ | refine Ex.gf rfl rfl (by assumption) (by rfl) (by first | rfl | assumption) ?_))
  (repeat (first | refine Ex.go rfl rfl ?_ | refine Ex.gf rfl rfl (by assumption) (by rfl) (by first | rfl | assumption) ?_))
  refine Ex.br (fun hc => ?_) (fun hc => ?_)
  · (repeat (first | exact main (fun z => hc z.1) | refine Ex.go rfl rfl ?_ | refine Ex.gf rfl rfl (by assumption) (by rfl) (by first | rfl | assumption) ?_))
  have hc := Decidable.not_not.mp hc
  (repeat (first | refine Ex.go rfl rfl ?_ | refine Ex.gf rfl rfl (by assumption) (by rfl) (by first | rfl | assumption) ?_))
  refine Ex.cv4 rfl rfl rfl (by assumption) (by rfl) (by decide) rfl ?_
  refine r_plugged h ?_
  (repeat (first | refine Ex.go rfl rfl ?_ | refine Ex.gf rfl rfl (by assumption) (by rfl) (by first | rfl | assumption) ?_))
  refine Ex.cv3 rfl rfl rfl (by assumption) (by rfl) (by decide) rfl ?_
  refine r_many h ?_
  (repeat (first | refine Ex.go rfl rfl ?_ | refine Ex.gf rfl rfl (by assumption) (by rfl) (by first | rfl | assumption) ?_))
  refine Ex.br (fun hc2 => ?_) (fun hc2 => ?_)
  · (repeat (first | exact main (fun z => hc2 z.2) | refine Ex.go rfl rfl ?_ | refine Ex.gf rfl rfl (by assumption) (by rfl) (by first | rfl | assumption) ?_))
  have hc2 := Decidable.not_not.mp hc2
  have k := k 1000000 G fs h S0 (by rw [if_pos ⟨hc, hc2⟩]; decide +kernel)
  (repeat (first | refine Ex.go rfl rfl ?_ | refine Ex.gf rfl rfl (by assumption) (by rfl) (by first | rfl | assumption) ?_))
  refine Ex.ret rfl rfl rfl ?_
  exact k
end RR

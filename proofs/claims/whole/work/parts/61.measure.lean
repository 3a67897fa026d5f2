/-! The reference's measure. -/
def isNum (b : Int32) : Prop := b.toUInt32.toNat % 2147483648 ≤ 2139095040
theorem i_and (b : Int32) : (b &&& 2147483647).toInt = ((b.toUInt32.toNat % 2147483648 : Nat) : Int) := by
  have e : (b &&& 2147483647).toBitVec.toNat = b.toUInt32.toNat % 2147483648 := by
    rw [Int32.toBitVec_and, BitVec.toNat_and]
    exact Nat.and_two_pow_sub_one_eq_mod _ 31
  have h2 : b.toUInt32.toNat % 2147483648 < 2147483648 := Nat.mod_lt _ (by omega)
  show (b &&& 2147483647).toBitVec.toInt = _
  rw [BitVec.toInt_eq_toNat_of_lt (by rw [e]; omega), e]
theorem isNum_iff {b : Int32} : b &&& 2147483647 ≤ 2139095040 ↔ isNum b := by
  rw [Int32.le_iff_toInt_le, i_and, show (2139095040 : Int32).toInt = 2139095040 by decide +kernel]
  unfold isNum
  omega
theorem isNum_nan {b : Int32} (h : isNum b) : ¬ FP.Core.val32 b.toUInt32 = .nan := by
  unfold isNum at h
  intro z
  unfold FP.Core.val32 FP.Core.decode FP.Core.fieldE FP.Core.fieldT at z
  rw [fl_tails] at z
  split at z
  · rename_i h1
    have h1' : b.toUInt32.toNat / 8388608 % 256 = 255 := h1
    split at z
    · cases z
    · rename_i h2
      have h2' : ¬ b.toUInt32.toNat % 8388608 = 0 := h2
      omega
  · split at z <;> cases z
theorem isNum_cf {b : Int32} (h : isNum b) : (b.toUInt32 &&& 0x7fffffff > 0x7f800000 && b.toUInt32 &&& 0x00400000 == 0) = false := by
  have h1 : ¬ (b.toUInt32 &&& 0x7fffffff > 0x7f800000) := by
    intro z
    have z2 := UInt32.lt_iff_toNat_lt.mp z
    rw [UInt32.toNat_and, show (0x7fffffff : UInt32).toNat = 2 ^ 31 - 1 from rfl, show (0x7f800000 : UInt32).toNat = 2139095040 from rfl, Nat.and_two_pow_sub_one_eq_mod] at z2
    unfold isNum at h
    omega
  rw [Bool.and_eq_false_iff]
  exact Or.inl (decide_eq_false h1)
/-- a spot's tenths, as the sheet tells them -/
def tnI (sh : Int32) (gv : Nat → Int32) (k : Nat) : Int32 := if sh = 0 then (gv k).toInt16.toInt32 else FP.f2i (FP.fmul 0x41200000 (gv k).toUInt32)
abbrev gvP (sh shs : Int32) (gv : Nat → Int32) (k : Nat) : Prop := nI k < shs ∧ (sh = 0 ∨ gv k &&& 2147483647 ≤ 2139095040)
theorem Ex.fmm {d : Nat} {m : bo_M} {pc nx tg kp : Nat} {lv : bo_LV} {G : bo_G} {Q : Option Value → bo_G → Prop} {x y : UInt32} {r : List Value} (he : bo_cd m pc = some (.fmul, nx, tg, kp)) (hy : FP.fmul x y &&& 0x7fffffff ≤ 0x7f800000) (k : Ex d m (nx, lv, .float (FP.fmul x y) :: r, G) Q) : Ex d m (pc, lv, .float y :: .float x :: r, G) Q := by
  refine Ex.go he ?_ k
  show bo_fm lv nx (.float y :: .float x :: r) G = _
  unfold bo_fm
  try dsimp only
  rw [if_pos hy]
section RR
variable {d : Nat} {G G' : bo_G} {Q : Option Value → bo_G → Prop} {lg lg' : Nat → Int32} {E E' fx fx' mn : Nat} {nn gv ls : Nat → Int32} {ts : List Int32} {st sh shs im rs st' sh' shs' mnI tp : Int32}
theorem r_isGiven {k : Nat} (R : RT G lg E fx st sh shs mnI im tp rs nn) (c374 : G[374]? = some (cI 40 gv)) (hk : k < 12) (q : Q (some (.int (bo_b (gvP sh shs gv k)))) G) : Cx d mX11_isGiven [.ref 364, .int (nI k)] G Q := by
  obtain ⟨w, q0, -⟩ := RT_fs R
  refine Cx.body rfl rfl ?_
  (repeat (first | refine Ex.go rfl rfl ?_ | refine Ex.gf rfl rfl (by assumption) (by rfl) (by first | rfl | assumption) ?_))
  refine Ex.br (fun h1 => ?_) (fun h1 => ?_); rotate_left
  · rw [bo_b_f (fun z => h1 z.1)] at q
    (repeat (first | refine Ex.go rfl rfl ?_ | refine Ex.gf rfl rfl (by assumption) (by rfl) (by first | rfl | assumption) ?_))
    refine Ex.retz rfl rfl rfl (Or.inl rfl) ?_
    exact q
  (repeat (first | refine Ex.go rfl rfl ?_ | refine Ex.gf rfl rfl (by assumption) (by rfl) (by first | rfl | assumption) ?_))
  refine Ex.br (fun h2 => ?_) (fun h2 => ?_)
  · rw [bo_b_t ⟨h1, Or.inl h2⟩] at q
    (repeat (first | refine Ex.go rfl rfl ?_ | refine Ex.gf rfl rfl (by assumption) (by rfl) (by first | rfl | assumption) ?_))
    refine Ex.retz rfl rfl rfl (Or.inr rfl) ?_
    exact q
  (repeat (first | refine Ex.go rfl rfl ?_ | refine Ex.gf rfl rfl (by assumption) (by rfl) (by first | rfl | assumption) ?_))
  refine Ex.ialN rfl rfl c374 (by omega) (by omega) ?_
  (repeat (first | refine Ex.go rfl rfl ?_ | refine Ex.gf rfl rfl (by assumption) (by rfl) (by first | rfl | assumption) ?_))
  refine Ex.br (fun h3 => ?_) (fun h3 => ?_)
  · rw [bo_b_f (fun z => z.2.elim h2 (fun y => absurd h3 (Int32.not_lt.mpr y)))] at q
    (repeat (first | refine Ex.go rfl rfl ?_ | refine Ex.gf rfl rfl (by assumption) (by rfl) (by first | rfl | assumption) ?_))
    refine Ex.retz rfl rfl rfl (Or.inl rfl) ?_
    exact q
  · rw [bo_b_t ⟨h1, Or.inr (Int32.not_lt.mp h3)⟩] at q
    (repeat (first | refine Ex.go rfl rfl ?_ | refine Ex.gf rfl rfl (by assumption) (by rfl) (by first | rfl | assumption) ?_))
    refine Ex.retz rfl rfl rfl (Or.inr rfl) ?_
    exact q
theorem r_tenths {k : Nat} (R : RT G lg E fx st sh shs mnI im tp rs nn) (c374 : G[374]? = some (cI 40 gv)) (hk : k < 12) (hg : gvP sh shs gv k) (q : Q (some (.int (tnI sh gv k))) G) : Cx (d + 1) mX11_tenths [.ref 364, .int (nI k)] G Q := by
  obtain ⟨w, q0, -⟩ := RT_fs R
  unfold tnI at q
  refine Cx.body rfl rfl ?_
  (repeat (first | refine Ex.go rfl rfl ?_ | refine Ex.gf rfl rfl (by assumption) (by rfl) (by first | rfl | assumption) ?_))
  refine Ex.br (fun h1 => ?_) (fun h1 => ?_); rotate_left
  · rw [if_pos (Decidable.not_not.mp h1)] at q
    (repeat (first | refine Ex.go rfl rfl ?_ | refine Ex.gf rfl rfl (by assumption) (by rfl) (by first | rfl | assumption) ?_))
    refine Ex.ialN rfl rfl c374 (by omega) (by omega) ?_
    (repeat (first | refine Ex.go rfl rfl ?_ | refine Ex.gf rfl rfl (by assumption) (by rfl) (by first | rfl | assumption) ?_))
    refine Ex.ret rfl rfl rfl ?_
    exact q
  rw [if_neg h1] at q
  have hn := isNum_iff.mp (hg.2.resolve_left h1)
  (repeat (first | refine Ex.go rfl rfl ?_ | refine Ex.gf rfl rfl (by assumption) (by rfl) (by first | rfl | assumption) ?_))
  refine Ex.ialN rfl rfl c374 (by omega) (by omega) ?_
  refine Ex.cf rfl rfl (isNum_cf hn) rfl ?_
  refine Ex.fmm rfl (fl_nan (isNum_nan hn)) ?_
  (repeat (first | refine Ex.go rfl rfl ?_ | refine Ex.gf rfl rfl (by assumption) (by rfl) (by first | rfl | assumption) ?_))
  refine Ex.ret rfl rfl rfl ?_
  exact q
theorem RT_n (R : RT G lg E fx st sh shs mnI im tp rs nn) : G[373]? = some (cI 15 nn) ∧ ∀ nn', RT (G.set 373 (cI 15 nn')) lg E fx st sh shs mnI im tp rs nn' := by
  obtain ⟨w, pt, vl, pp, va, pa, wa, ⟨⟨p0, -⟩, ⟨b0, b1, b2, b3, b4, b5, b6, b7⟩, hE, hV⟩, hI⟩ := R
  refine ⟨b7, fun nn' => ⟨w, pt, vl, pp, va, pa, wa, ?_, hI⟩⟩
  have q : ∀ {j : Nat} {x : bo_C}, j ≠ 373 → G[j]? = some x → (G.set 373 (cI 15 nn'))[j]? = some x := fun hj hx => by
    rw [List.getElem?_set_ne (fun z => hj z.symm)]
    exact hx
  exact ⟨⟨q (by omega) p0, rfl, rfl, rfl, rfl, rfl, rfl, rfl, rfl, rfl, rfl, rfl⟩, ⟨q (by omega) b0, q (by omega) b1, q (by omega) b2, q (by omega) b3, q (by omega) b4, q (by omega) b5, q (by omega) b6, get_set b7⟩, hE, hV⟩
def mN (sh shs : Int32) (gv : Nat → Int32) (s : Int) (k : Nat) : Int32 := if (k : Int) < s ∧ gvP sh shs gv k then tnI sh gv k else -1
abbrev mbP (sh shs : Int32) (gv : Nat → Int32) (s : Int) (k : Nat) : Prop := ((k : Int) < s ∧ gvP sh shs gv k) ∧ ¬ rng (tnI sh gv k) 0 10000
def nMs (v p dy sh shs : Int32) (gv : Nat → Int32) (s : Int) : Nat → Int32 := fun j => if j = 0 then v else if j = 1 then p else if j = 2 then dy else mN sh shs gv s (j - 3)
abbrev isPt (lg : Nat → Int32) (E : Nat) (v p : Int32) : Prop := (0 ≤ v.toInt ∧ v.toInt < (vsl lg E).length) ∧ 0 ≤ p.toInt ∧ p.toInt < (psl lg E v.toNatClampNeg).length
/-- what measure refuses ahead of the sheet's numbers -/
def me0 (lg : Nat → Int32) (E : Nat) (v p dy sh : Int32) : Int32 := if ¬ isPt lg E v p then -1 else if sh < 0 then -3 else if ¬ dok lg E v.toNatClampNeg dy then -2 else 0
def spoN (lg : Nat → Int32) (E : Nat) (v p : Int32) : Int := (sho lg E v p 40000 2 1).toInt
def meR (lg : Nat → Int32) (E : Nat) (v p dy sh shs : Int32) (gv : Nat → Int32) : Int32 := if me0 lg E v p dy sh < 0 then me0 lg E v p dy sh else if exi (mbP sh shs gv (spoN lg E v p)) 12 = true then -2 else rfs lg E 4 (nMs v p dy sh shs gv (spoN lg E v p))
theorem r_measure {v p dy : Int32} (h : RS G lg E fx st sh shs gv mn ls ts rs) (hW : WF lg E) (hL : 378 ≤ G.length) (k0 : meR lg E v p dy sh shs gv < 0 → ∀ G', RS G' lg E fx (meR lg E v p dy sh shs gv) sh shs gv mn ls ts rs → FR G G' → Q (some (.int (meR lg E v p dy sh shs gv))) G') (k1 : meR lg E v p dy sh shs gv = 0 → ∀ G', RS G' (lgN lg E 4 (nMs v p dy sh shs gv (spoN lg E v p))) (E + 1) fx 0 (-1) shs gv mn ls ts rs → FR G G' → Q (some (.int (ansI lg E 4 (nMs v p dy sh shs gv (spoN lg E v p))))) G') : Cx (d + 8) mX11_measure [.ref 364, .int v, .int p, .int dy] G Q := by
  obtain ⟨nn, im, imf, old, tpf, R, hc, ht⟩ := h
  obtain ⟨w, q0, hf⟩ := RT_fs R
  have R' := R
  obtain ⟨w1, pt, vl, pp, va, pa, wa, RR, hI⟩ := R'
  have hE := RR.2.2.1
  have hV := RR.2.2.2
  -- refused ahead of the sheet, or not
  have stage : ∀ s : Int32, s = me0 lg E v p dy sh → Ex (d + 8) mX11_measure (41, [(0, .ref 364), (1, .int v), (2, .int p), (3, .int dy)], [.int s, .ref 364], G) Q := by
    intro s hs
    have R2 := hf w s sh shs (nI mn) im (nI ts.length) rs fx
    have F2 := (FA.rfl' G).set (c := cO 11 (rF E fx (tdy lg E) (acl lg E).length (osl lg E).length (vsl lg E).length (rsl lg E).length s sh shs w (nI mn) im (nI ts.length) rs)) (show 364 ≤ 364 ∧ 364 ≤ 373 ∧ 364 ≠ 366 by omega)
    refine Ex.pf rfl rfl (by assumption) (by rfl) (by rfl) (by rfl) ?_
    have q2 : (G.set 364 (cO 11 (rF E fx (tdy lg E) (acl lg E).length (osl lg E).length (vsl lg E).length (rsl lg E).length s sh shs w (nI mn) im (nI ts.length) rs)))[364]? = some (cO 11 (rF E fx (tdy lg E) (acl lg E).length (osl lg E).length (vsl lg E).length (rsl lg E).length s sh shs w (nI mn) im (nI ts.length) rs)) := get_set q0
    show Ex (d + 8) mX11_measure (44, [(0, .ref 364), (1, .int v), (2, .int p), (3, .int dy)], [], G.set 364 (cO 11 (rF E fx (tdy lg E) (acl lg E).length (osl lg E).length (vsl lg E).length (rsl lg E).length s sh shs w (nI mn) im (nI ts.length) rs))) Q
    generalize G.set 364 (cO 11 (rF E fx (tdy lg E) (acl lg E).length (osl lg E).length (vsl lg E).length (rsl lg E).length s sh shs w (nI mn) im (nI ts.length) rs)) = G2 at R2 F2 q2 ⊢
    (repeat (first | refine Ex.go rfl rfl ?_ | refine Ex.gf rfl rfl (by assumption) (by rfl) (by first | rfl | assumption) ?_))
    refine Ex.br (fun h1 => ?_) (fun h1 => ?_); rotate_left
    · have hlt : me0 lg E v p dy sh < 0 := by rw [← hs]; exact Int32.not_le.mp h1
      have e : meR lg E v p dy sh shs gv = s := (if_pos hlt).trans hs.symm
      rw [e] at k0
      have k0 := k0 (Int32.not_le.mp h1) G2 (RS_fa ht hc F2 R2) F2.fr
      (repeat (first | refine Ex.go rfl rfl ?_ | refine Ex.gf rfl rfl (by assumption) (by rfl) (by first | rfl | assumption) ?_))
      refine Ex.ret rfl rfl rfl ?_
      exact k0
    have hpt : isPt lg E v p ∧ ¬ sh < 0 ∧ dok lg E v.toNatClampNeg dy ∧ s = 0 := by
      unfold me0 at hs
      by_cases a : isPt lg E v p
      · rw [if_neg (fun z => z a)] at hs
        by_cases b : sh < 0
        · rw [if_pos b] at hs; rw [hs] at h1; exact absurd h1 (by decide)
        · rw [if_neg b] at hs
          by_cases c : dok lg E v.toNatClampNeg dy
          · rw [if_neg (fun z => z c)] at hs; exact ⟨a, b, c, hs⟩
          · rw [if_pos c] at hs; rw [hs] at h1; exact absurd h1 (by decide)
      · rw [if_pos a] at hs; rw [hs] at h1; exact absurd h1 (by decide)
    obtain ⟨hp, hsh, hdk, hs0⟩ := hpt
    subst hs0
    have e : meR lg E v p dy sh shs gv = if exi (mbP sh shs gv (spoN lg E v p)) 12 = true then -2 else rfs lg E 4 (nMs v p dy sh shs gv (spoN lg E v p)) := if_neg (by rw [← hs]; decide)
    rw [e] at k0 k1
    (repeat (first | refine Ex.go rfl rfl ?_ | refine Ex.gf rfl rfl (by assumption) (by rfl) (by first | rfl | assumption) ?_))
    refine Ex.cv6 rfl rfl rfl (by assumption) (by rfl) (by decide) rfl ?_
    refine r_give R2 (by rw [F2.1]; exact hL) (fun G3 nn3 R3 F3 _ e0 e1 e2 _ _ _ => ?_)
    have F3 := F2.trans F3
    obtain ⟨w3, q3, -⟩ := RT_fs R3
    obtain ⟨w3', pt3, vl3, pp3, va3, pa3, wa3, RR3, hI3⟩ := id R3
    (repeat (first | refine Ex.go rfl rfl ?_ | refine Ex.gf rfl rfl (by assumption) (by rfl) (by first | rfl | assumption) ?_))
    refine Ex.cv3 rfl rfl rfl q3 (by rfl) (by decide) rfl ?_
    refine r_spots RR3 ?_
    have loop : ∀ (e i : Nat) (a : Int32) (nn : Nat → Int32) (G4 : bo_G) (b6 : List (Nat × Value)), a = nI i → i + e = 12 → RT G4 lg E fx 0 sh shs (nI mn) im (nI ts.length) rs nn → FA G G4 → nn 0 = v → nn 1 = p → nn 2 = dy → (∀ j, j < i → nn (3 + j) = mN sh shs gv (spoN lg E v p) j) → (∀ j, j < i → ¬ mbP sh shs gv (spoN lg E v p) j) → (b6 = [] ∨ ∃ z, b6 = [(6, .int z)]) → Ex (d + 8) mX11_measure (79, [(0, .ref 364), (1, .int v), (2, .int p), (3, .int dy), (4, .int (sho lg E v p 40000 2 1)), (5, .int a)] ++ b6, [], G4) Q := by
      intro e
      induction e with
      | zero =>
        intro i a nn G4 b6 ha hi R4 F4 n0 n1 n2 hn hb hb6
        subst ha
        have hi12 : i = 12 := by omega
        obtain ⟨w4, q4, hf4⟩ := RT_fs R4
        rw [if_neg (exi_not (fun j hj => hb j (by omega)))] at k0 k1
        have en : ∀ k, k < numc 4 → nn k = nMs v p dy sh shs gv (spoN lg E v p) k := fun k hk => by
          have e15 : numc 4 = 15 := by decide
          unfold nMs
          by_cases a0 : k = 0
          · rw [if_pos a0, a0]; exact n0
          · rw [if_neg a0]
            by_cases a1 : k = 1
            · rw [if_pos a1, a1]; exact n1
            · rw [if_neg a1]
              by_cases a2 : k = 2
              · rw [if_pos a2, a2]; exact n2
              · rw [if_neg a2]
                have := hn (k - 3) (by omega)
                rw [show 3 + (k - 3) = k by omega] at this
                exact this
        have callc : Ex (d + 8) mX11_measure (175, [(0, .ref 364), (1, .int v), (2, .int p), (3, .int dy), (4, .int (sho lg E v p 40000 2 1)), (5, .int (nI i))] ++ b6, [.int 4, .ref 364], G4) Q := by
          refine Ex.cv1 rfl rfl rfl q4 (by rfl) (by decide) rfl ?_
          refine r_call (c := 4) R4 hW (by rw [F4.1]; exact hL) (by omega) (fun z G5 R5 F5 => ?_) (fun z G5 R5 F5 => ?_)
          · rw [rfs_congr (by omega) en] at z R5 ⊢
            obtain ⟨w5, q5, hf5⟩ := RT_fs R5
            have R6 := hf5 w5 (rfs lg E 4 (nMs v p dy sh shs gv (spoN lg E v p))) sh shs (nI mn) im (nI ts.length) rs fx
            have F6 := (F4.trans F5).set (c := cO 11 (rF E fx (tdy lg E) (acl lg E).length (osl lg E).length (vsl lg E).length (rsl lg E).length (rfs lg E 4 (nMs v p dy sh shs gv (spoN lg E v p))) sh shs w5 (nI mn) im (nI ts.length) rs)) (show 364 ≤ 364 ∧ 364 ≤ 373 ∧ 364 ≠ 366 by omega)
            have k0 := k0 z _ (RS_fa ht hc F6 R6) F6.fr
            generalize rfs lg E 4 (nMs v p dy sh shs gv (spoN lg E v p)) = no at z q5 k0
            rcases hb6 with rfl | ⟨zz, rfl⟩
            · (repeat (first | refine Ex.go rfl rfl ?_ | refine Ex.gf rfl rfl (by assumption) (by rfl) (by first | rfl | assumption) ?_))
              refine Ex.br (fun h9 => ?_) (fun h9 => ?_)
              · exact absurd z (Int32.not_lt.mpr h9)
              (repeat (first | refine Ex.go rfl rfl ?_ | refine Ex.gf rfl rfl (by assumption) (by rfl) (by first | rfl | assumption) ?_))
              refine Ex.pf rfl rfl (by assumption) (by rfl) (by rfl) (by rfl) ?_
              (repeat (first | refine Ex.go rfl rfl ?_ | refine Ex.gf rfl rfl (by assumption) (by rfl) (by first | rfl | assumption) ?_))
              refine Ex.ret rfl rfl rfl ?_
              exact k0
            · (repeat (first | refine Ex.go rfl rfl ?_ | refine Ex.gf rfl rfl (by assumption) (by rfl) (by first | rfl | assumption) ?_))
              refine Ex.br (fun h9 => ?_) (fun h9 => ?_)
              · exact absurd z (Int32.not_lt.mpr h9)
              (repeat (first | refine Ex.go rfl rfl ?_ | refine Ex.gf rfl rfl (by assumption) (by rfl) (by first | rfl | assumption) ?_))
              refine Ex.pf rfl rfl (by assumption) (by rfl) (by rfl) (by rfl) ?_
              (repeat (first | refine Ex.go rfl rfl ?_ | refine Ex.gf rfl rfl (by assumption) (by rfl) (by first | rfl | assumption) ?_))
              refine Ex.ret rfl rfl rfl ?_
              exact k0
          · rw [rfs_congr (by omega) en] at z
            rw [lgN_congr (by omega) en] at R5
            rw [ansI_congr (by omega) en]
            obtain ⟨w5, q5, hf5⟩ := RT_fs R5
            have R6 := hf5 w5 0 (-1) shs (nI mn) im (nI ts.length) rs fx
            have F6 := (F4.trans F5).set (c := cO 11 (rF (E + 1) fx (tdy (lgN lg E 4 (nMs v p dy sh shs gv (spoN lg E v p))) (E + 1)) (acl (lgN lg E 4 (nMs v p dy sh shs gv (spoN lg E v p))) (E + 1)).length (osl (lgN lg E 4 (nMs v p dy sh shs gv (spoN lg E v p))) (E + 1)).length (vsl (lgN lg E 4 (nMs v p dy sh shs gv (spoN lg E v p))) (E + 1)).length (rsl (lgN lg E 4 (nMs v p dy sh shs gv (spoN lg E v p))) (E + 1)).length 0 (-1) shs w5 (nI mn) im (nI ts.length) rs)) (show 364 ≤ 364 ∧ 364 ≤ 373 ∧ 364 ≠ 366 by omega)
            have k1 := k1 z _ (RS_fa ht hc F6 R6) F6.fr
            have hm := msd_le (nn := nMs v p dy sh shs gv (spoN lg E v p)) 12
            have ea : ansI lg E 4 (nMs v p dy sh shs gv (spoN lg E v p)) = nI (msdN (nMs v p dy sh shs gv (spoN lg E v p)) 12) := by simp only [ansI]
            rw [ea] at k1 ⊢
            rcases hb6 with rfl | ⟨zz, rfl⟩
            · (repeat (first | refine Ex.go rfl rfl ?_ | refine Ex.gf rfl rfl (by assumption) (by rfl) (by first | rfl | assumption) ?_))
              refine Ex.br (fun h9 => ?_) (fun h9 => ?_); rotate_left
              · exact absurd (nI_pos' (n := msdN (nMs v p dy sh shs gv (spoN lg E v p)) 12) (by omega)) h9
              (repeat (first | refine Ex.go rfl rfl ?_ | refine Ex.gf rfl rfl (by assumption) (by rfl) (by first | rfl | assumption) ?_))
              refine Ex.pf rfl rfl (by assumption) (by rfl) (by rfl) (by rfl) ?_
              (repeat (first | refine Ex.go rfl rfl ?_ | refine Ex.gf rfl rfl (by assumption) (by rfl) (by first | rfl | assumption) ?_))
              refine Ex.ret rfl rfl rfl ?_
              exact k1
            · (repeat (first | refine Ex.go rfl rfl ?_ | refine Ex.gf rfl rfl (by assumption) (by rfl) (by first | rfl | assumption) ?_))
              refine Ex.br (fun h9 => ?_) (fun h9 => ?_); rotate_left
              · exact absurd (nI_pos' (n := msdN (nMs v p dy sh shs gv (spoN lg E v p)) 12) (by omega)) h9
              (repeat (first | refine Ex.go rfl rfl ?_ | refine Ex.gf rfl rfl (by assumption) (by rfl) (by first | rfl | assumption) ?_))
              refine Ex.pf rfl rfl (by assumption) (by rfl) (by rfl) (by rfl) ?_
              (repeat (first | refine Ex.go rfl rfl ?_ | refine Ex.gf rfl rfl (by assumption) (by rfl) (by first | rfl | assumption) ?_))
              refine Ex.ret rfl rfl rfl ?_
              exact k1
        rcases hb6 with rfl | ⟨zz, rfl⟩
        · (repeat (first | refine Ex.go rfl rfl ?_ | refine Ex.gf rfl rfl (by assumption) (by rfl) (by first | rfl | assumption) ?_))
          refine Ex.br (fun h9 => ?_) (fun h9 => ?_); rotate_left
          · exact absurd (nI_le (show 12 ≤ i by omega) (by omega)) h9
          (repeat (first | exact callc | refine Ex.go rfl rfl ?_ | refine Ex.gf rfl rfl (by assumption) (by rfl) (by first | rfl | assumption) ?_))
        · (repeat (first | refine Ex.go rfl rfl ?_ | refine Ex.gf rfl rfl (by assumption) (by rfl) (by first | rfl | assumption) ?_))
          refine Ex.br (fun h9 => ?_) (fun h9 => ?_); rotate_left
          · exact absurd (nI_le (show 12 ≤ i by omega) (by omega)) h9
          (repeat (first | exact callc | refine Ex.go rfl rfl ?_ | refine Ex.gf rfl rfl (by assumption) (by rfl) (by first | rfl | assumption) ?_))
      | succ e ih =>
        intro i a nn G4 b6 ha hi R4 F4 n0 n1 n2 hn hb hb6
        subst ha
        obtain ⟨w4, q4, hf4⟩ := RT_fs R4
        have c374 : G4[374]? = some (cI 40 gv) := by rw [F4.2 _ (by omega)]; exact hc.2.1
        obtain ⟨c373, hn4⟩ := RT_n R4
        have e3i : nI 3 + nI i = nI (3 + i) := by rw [nI_add]
        have hs12 := spots_rng (lg := lg) (E := E) (y := 40000) hW.1 (v := v) (p := p)
        -- the number is written
        have step : ∀ x : Int32, x = mN sh shs gv (spoN lg E v p) i → RT (G4.set 373 (cI 15 (upd nn (3 + i) x))) lg E fx 0 sh shs (nI mn) im (nI ts.length) rs (upd nn (3 + i) x) ∧ FA G (G4.set 373 (cI 15 (upd nn (3 + i) x))) ∧ (∀ j, j < i + 1 → upd nn (3 + i) x (3 + j) = mN sh shs gv (spoN lg E v p) j) := by
          intro x hx
          refine ⟨hn4 _, F4.set (by omega), fun j hj => ?_⟩
          by_cases hji : j = i
          · rw [hji, pk_us]; exact hx
          · rw [pk_un (by omega)]; exact hn j (by omega)
        have not : ¬ ((i : Int) < spoN lg E v p ∧ gvP sh shs gv i) → Ex (d + 8) mX11_measure (106, [(0, .ref 364), (1, .int v), (2, .int p), (3, .int dy), (4, .int (sho lg E v p 40000 2 1)), (5, .int (nI i))] ++ b6, [], G4) Q := by
          intro hno
          have ex : (-1 : Int32) = mN sh shs gv (spoN lg E v p) i := (if_neg hno).symm
          obtain ⟨s1, s2, s3⟩ := step (-1) ex
          have nb : ∀ j, j < i + 1 → ¬ mbP sh shs gv (spoN lg E v p) j := fun j hj z => by
            by_cases hji : j = i
            · rw [hji] at z; exact hno z.1
            · exact hb j (by omega) z
          obtain ⟨w5, q5, -⟩ := RT_fs s1
          have nxt := ih (i + 1) _ _ _ [] (nI_1 i) (by omega) s1 s2 ((pk_un (by omega)).trans n0) ((pk_un (by omega)).trans n1) ((pk_un (by omega)).trans n2) s3 nb (Or.inl rfl)
          rcases hb6 with rfl | ⟨zz, rfl⟩
          · (repeat (first | refine Ex.go rfl rfl ?_ | refine Ex.gf rfl rfl (by assumption) (by rfl) (by first | rfl | assumption) ?_))
            refine Ex.iasN rfl e3i c373 (by omega) (by omega) ?_
            (repeat (first | exact nxt | refine Ex.go rfl rfl ?_ | refine Ex.gf rfl rfl (by assumption) (by rfl) (by first | rfl | assumption) ?_))
          · (repeat (first | refine Ex.go rfl rfl ?_ | refine Ex.gf rfl rfl (by assumption) (by rfl) (by first | rfl | assumption) ?_))
            refine Ex.iasN rfl e3i c373 (by omega) (by omega) ?_
            (repeat (first | exact nxt | refine Ex.go rfl rfl ?_ | refine Ex.gf rfl rfl (by assumption) (by rfl) (by first | rfl | assumption) ?_))
        have yes : ((i : Int) < spoN lg E v p ∧ gvP sh shs gv i) → Ex (d + 8) mX11_measure (102, [(0, .ref 364), (1, .int v), (2, .int p), (3, .int dy), (4, .int (sho lg E v p 40000 2 1)), (5, .int (nI i))] ++ b6, [], G4) Q := by
          intro hyes
          have ex : tnI sh gv i = mN sh shs gv (spoN lg E v p) i := (if_pos hyes).symm
          obtain ⟨s1, s2, s3⟩ := step _ ex
          obtain ⟨w5, q5, hf5⟩ := RT_fs s1
          have c373' := (RT_n s1).1
          have bad : ¬ rng (tnI sh gv i) 0 10000 → Q (some (.int (-2))) ((G4.set 373 (cI 15 (upd nn (3 + i) (tnI sh gv i)))).set 364 (cO 11 (rF E fx (tdy lg E) (acl lg E).length (osl lg E).length (vsl lg E).length (rsl lg E).length (-2) sh shs w5 (nI mn) im (nI ts.length) rs))) := by
            intro hr
            have hx : exi (mbP sh shs gv (spoN lg E v p)) 12 = true := exi_iff.mpr ⟨i, by omega, hyes, hr⟩
            rw [if_pos hx] at k0
            have F6 := s2.set (c := cO 11 (rF E fx (tdy lg E) (acl lg E).length (osl lg E).length (vsl lg E).length (rsl lg E).length (-2) sh shs w5 (nI mn) im (nI ts.length) rs)) (show 364 ≤ 364 ∧ 364 ≤ 373 ∧ 364 ≠ 366 by omega)
            exact k0 (by decide) _ (RS_fa ht hc F6 (hf5 w5 (-2) sh shs (nI mn) im (nI ts.length) rs fx)) F6.fr
          have good : rng (tnI sh gv i) 0 10000 → Ex (d + 8) mX11_measure (79, [(0, .ref 364), (1, .int v), (2, .int p), (3, .int dy), (4, .int (sho lg E v p 40000 2 1)), (5, .int (nI i + 1))], [], G4.set 373 (cI 15 (upd nn (3 + i) (tnI sh gv i)))) Q := by
            intro hr
            have nb : ∀ j, j < i + 1 → ¬ mbP sh shs gv (spoN lg E v p) j := fun j hj z => by
              by_cases hji : j = i
              · rw [hji] at z; exact z.2 hr
              · exact hb j (by omega) z
            exact ih (i + 1) _ _ _ [] (nI_1 i) (by omega) s1 s2 ((pk_un (by omega)).trans n0) ((pk_un (by omega)).trans n1) ((pk_un (by omega)).trans n2) s3 nb (Or.inl rfl)
          rcases hb6 with rfl | ⟨zz, rfl⟩
          · (repeat (first | refine Ex.go rfl rfl ?_ | refine Ex.gf rfl rfl (by assumption) (by rfl) (by first | rfl | assumption) ?_))
            refine Ex.cv1 rfl rfl rfl q4 (by rfl) (by decide) rfl ?_
            refine r_tenths R4 c374 (by omega) hyes.2 ?_
            (repeat (first | refine Ex.go rfl rfl ?_ | refine Ex.gf rfl rfl (by assumption) (by rfl) (by first | rfl | assumption) ?_))
            refine Ex.iasN rfl e3i c373 (by omega) (by omega) ?_
            (repeat (first | refine Ex.go rfl rfl ?_ | refine Ex.gf rfl rfl (by assumption) (by rfl) (by first | rfl | assumption) ?_))
            refine Ex.ialN rfl e3i c373' (by omega) (by omega) ?_
            rw [pk_us]
            (repeat (first | refine Ex.go rfl rfl ?_ | refine Ex.gf rfl rfl (by assumption) (by rfl) (by first | rfl | assumption) ?_))
            refine Ex.cs3 rfl rfl rfl rfl rfl rfl ?_
            refine r_inP (lo := 0) (hi := 10000) (by decide +kernel) (by decide +kernel) (fun P1 d1 i1 => ?_)
            (repeat (first | refine Ex.go rfl rfl ?_ | refine Ex.gf rfl rfl (by assumption) (by rfl) (by first | rfl | assumption) ?_))
            first | (refine Ex.brz (fun h5 => ?_) (fun h5 => ?_); rotate_left) | (refine Ex.brn (fun h5 => ?_) (fun h5 => ?_); rotate_left)
            · have bad := bad (fun z => h5 (i1.mpr z))
              (repeat (first | refine Ex.go rfl rfl ?_ | refine Ex.gf rfl rfl (by assumption) (by rfl) (by first | rfl | assumption) ?_))
              refine Ex.pf rfl rfl (by assumption) (by rfl) (by rfl) (by rfl) ?_
              (repeat (first | refine Ex.go rfl rfl ?_ | refine Ex.gf rfl rfl (by assumption) (by rfl) (by first | rfl | assumption) ?_))
              refine Ex.ret rfl rfl rfl ?_
              exact bad
            · (repeat (first | exact good (i1.mp h5) | refine Ex.go rfl rfl ?_ | refine Ex.gf rfl rfl (by assumption) (by rfl) (by first | rfl | assumption) ?_))
          · (repeat (first | refine Ex.go rfl rfl ?_ | refine Ex.gf rfl rfl (by assumption) (by rfl) (by first | rfl | assumption) ?_))
            refine Ex.cv1 rfl rfl rfl q4 (by rfl) (by decide) rfl ?_
            refine r_tenths R4 c374 (by omega) hyes.2 ?_
            (repeat (first | refine Ex.go rfl rfl ?_ | refine Ex.gf rfl rfl (by assumption) (by rfl) (by first | rfl | assumption) ?_))
            refine Ex.iasN rfl e3i c373 (by omega) (by omega) ?_
            (repeat (first | refine Ex.go rfl rfl ?_ | refine Ex.gf rfl rfl (by assumption) (by rfl) (by first | rfl | assumption) ?_))
            refine Ex.ialN rfl e3i c373' (by omega) (by omega) ?_
            rw [pk_us]
            (repeat (first | refine Ex.go rfl rfl ?_ | refine Ex.gf rfl rfl (by assumption) (by rfl) (by first | rfl | assumption) ?_))
            refine Ex.cs3 rfl rfl rfl rfl rfl rfl ?_
            refine r_inP (lo := 0) (hi := 10000) (by decide +kernel) (by decide +kernel) (fun P1 d1 i1 => ?_)
            (repeat (first | refine Ex.go rfl rfl ?_ | refine Ex.gf rfl rfl (by assumption) (by rfl) (by first | rfl | assumption) ?_))
            first | (refine Ex.brz (fun h5 => ?_) (fun h5 => ?_); rotate_left) | (refine Ex.brn (fun h5 => ?_) (fun h5 => ?_); rotate_left)
            · have bad := bad (fun z => h5 (i1.mpr z))
              (repeat (first | refine Ex.go rfl rfl ?_ | refine Ex.gf rfl rfl (by assumption) (by rfl) (by first | rfl | assumption) ?_))
              refine Ex.pf rfl rfl (by assumption) (by rfl) (by rfl) (by rfl) ?_
              (repeat (first | refine Ex.go rfl rfl ?_ | refine Ex.gf rfl rfl (by assumption) (by rfl) (by first | rfl | assumption) ?_))
              refine Ex.ret rfl rfl rfl ?_
              exact bad
            · (repeat (first | exact good (i1.mp h5) | refine Ex.go rfl rfl ?_ | refine Ex.gf rfl rfl (by assumption) (by rfl) (by first | rfl | assumption) ?_))
        rcases hb6 with rfl | ⟨zz, rfl⟩
        · (repeat (first | refine Ex.go rfl rfl ?_ | refine Ex.gf rfl rfl (by assumption) (by rfl) (by first | rfl | assumption) ?_))
          refine Ex.br (fun hc1 => ?_) (fun hc1 => ?_)
          · have := (n_ge (a := i) (b := 12) (by omega) (by omega)).mp hc1
            omega
          (repeat (first | refine Ex.go rfl rfl ?_ | refine Ex.gf rfl rfl (by assumption) (by rfl) (by first | rfl | assumption) ?_))
          refine Ex.br (fun h2 => ?_) (fun h2 => ?_)
          · have h3 := Int32.le_iff_toInt_le.mp h2
            rw [nI_toInt (by omega)] at h3
            (repeat (first | exact not (fun z => by have := z.1; unfold spoN at this; omega) | refine Ex.go rfl rfl ?_ | refine Ex.gf rfl rfl (by assumption) (by rfl) (by first | rfl | assumption) ?_))
          have h3 : (i : Int) < spoN lg E v p := by
            have := fun z => h2 (Int32.le_iff_toInt_le.mpr z)
            rw [nI_toInt (by omega)] at this
            exact Int.not_le.mp this
          (repeat (first | refine Ex.go rfl rfl ?_ | refine Ex.gf rfl rfl (by assumption) (by rfl) (by first | rfl | assumption) ?_))
          refine Ex.cv1 rfl rfl rfl q4 (by rfl) (by decide) rfl ?_
          refine r_isGiven R4 c374 (by omega) ?_
          (repeat (first | refine Ex.go rfl rfl ?_ | refine Ex.gf rfl rfl (by assumption) (by rfl) (by first | rfl | assumption) ?_))
          refine Ex.brz (fun h4 => ?_) (fun h4 => ?_); rotate_left
          · (repeat (first | exact not (fun z => h4 z.2) | refine Ex.go rfl rfl ?_ | refine Ex.gf rfl rfl (by assumption) (by rfl) (by first | rfl | assumption) ?_))
          · (repeat (first | exact yes ⟨h3, h4⟩ | refine Ex.go rfl rfl ?_ | refine Ex.gf rfl rfl (by assumption) (by rfl) (by first | rfl | assumption) ?_))
        · (repeat (first | refine Ex.go rfl rfl ?_ | refine Ex.gf rfl rfl (by assumption) (by rfl) (by first | rfl | assumption) ?_))
          refine Ex.br (fun hc1 => ?_) (fun hc1 => ?_)
          · have := (n_ge (a := i) (b := 12) (by omega) (by omega)).mp hc1
            omega
          (repeat (first | refine Ex.go rfl rfl ?_ | refine Ex.gf rfl rfl (by assumption) (by rfl) (by first | rfl | assumption) ?_))
          refine Ex.br (fun h2 => ?_) (fun h2 => ?_)
          · have h3 := Int32.le_iff_toInt_le.mp h2
            rw [nI_toInt (by omega)] at h3
            (repeat (first | exact not (fun z => by have := z.1; unfold spoN at this; omega) | refine Ex.go rfl rfl ?_ | refine Ex.gf rfl rfl (by assumption) (by rfl) (by first | rfl | assumption) ?_))
          have h3 : (i : Int) < spoN lg E v p := by
            have := fun z => h2 (Int32.le_iff_toInt_le.mpr z)
            rw [nI_toInt (by omega)] at this
            exact Int.not_le.mp this
          (repeat (first | refine Ex.go rfl rfl ?_ | refine Ex.gf rfl rfl (by assumption) (by rfl) (by first | rfl | assumption) ?_))
          refine Ex.cv1 rfl rfl rfl q4 (by rfl) (by decide) rfl ?_
          refine r_isGiven R4 c374 (by omega) ?_
          (repeat (first | refine Ex.go rfl rfl ?_ | refine Ex.gf rfl rfl (by assumption) (by rfl) (by first | rfl | assumption) ?_))
          refine Ex.brz (fun h4 => ?_) (fun h4 => ?_); rotate_left
          · (repeat (first | exact not (fun z => h4 z.2) | refine Ex.go rfl rfl ?_ | refine Ex.gf rfl rfl (by assumption) (by rfl) (by first | rfl | assumption) ?_))
          · (repeat (first | exact yes ⟨h3, h4⟩ | refine Ex.go rfl rfl ?_ | refine Ex.gf rfl rfl (by assumption) (by rfl) (by first | rfl | assumption) ?_))
    have l0 := loop 12 0 _ nn3 G3 [] rfl (by omega) R3 F3 e0 e1 e2 (fun j hj => absurd hj (Nat.not_lt_zero _)) (fun j hj => absurd hj (Nat.not_lt_zero _)) (Or.inl rfl)
    (repeat (first | exact l0 | refine Ex.go rfl rfl ?_ | refine Ex.gf rfl rfl (by assumption) (by rfl) (by first | rfl | assumption) ?_))
  unfold me0 at stage
  refine Cx.body rfl rfl ?_
  (repeat (first | refine Ex.go rfl rfl ?_ | refine Ex.gf rfl rfl (by assumption) (by rfl) (by first | rfl | assumption) ?_))
  refine Ex.cv2 rfl rfl rfl (by assumption) (by rfl) (by decide) rfl ?_
  refine r_isPart RR hI ?_
  (repeat (first | refine Ex.go rfl rfl ?_ | refine Ex.gf rfl rfl (by assumption) (by rfl) (by first | rfl | assumption) ?_))
  first | (refine Ex.brz (fun h1 => ?_) (fun h1 => ?_); rotate_left) | (refine Ex.brn (fun h1 => ?_) (fun h1 => ?_); rotate_left)
  · rw [if_pos (show ¬ isPt lg E v p from h1)] at stage
    (repeat (first | exact stage (-1) rfl | refine Ex.go rfl rfl ?_ | refine Ex.gf rfl rfl (by assumption) (by rfl) (by first | rfl | assumption) ?_))
  rw [if_neg (fun z => z h1)] at stage
  (repeat (first | refine Ex.go rfl rfl ?_ | refine Ex.gf rfl rfl (by assumption) (by rfl) (by first | rfl | assumption) ?_))
  refine Ex.br (fun h2 => ?_) (fun h2 => ?_); rotate_left
  · rw [if_pos (Int32.not_le.mp h2)] at stage
    (repeat (first | exact stage (-3) rfl | refine Ex.go rfl rfl ?_ | refine Ex.gf rfl rfl (by assumption) (by rfl) (by first | rfl | assumption) ?_))
  rw [if_neg (Int32.not_lt.mpr h2)] at stage
  obtain ⟨e1, e2, e3⟩ := nI_iof h1.1.1
  have hv : v.toNatClampNeg < (vsl lg E).length := by have := h1.1.2; omega
  generalize hvv : v.toNatClampNeg = v' at e1 e2 e3 hv stage
  clear h1 k0 k1
  subst e1
  (repeat (first | refine Ex.go rfl rfl ?_ | refine Ex.gf rfl rfl (by assumption) (by rfl) (by first | rfl | assumption) ?_))
  refine Ex.cv2 rfl rfl rfl (by assumption) (by rfl) (by decide) rfl ?_
  refine r_isDay RR hI hv ?_
  (repeat (first | refine Ex.go rfl rfl ?_ | refine Ex.gf rfl rfl (by assumption) (by rfl) (by first | rfl | assumption) ?_))
  first | (refine Ex.brz (fun h3 => ?_) (fun h3 => ?_); rotate_left) | (refine Ex.brn (fun h3 => ?_) (fun h3 => ?_); rotate_left)
  · rw [if_pos (show ¬ dok lg E v' dy from h3)] at stage
    (repeat (first | exact stage (-2) rfl | refine Ex.go rfl rfl ?_ | refine Ex.gf rfl rfl (by assumption) (by rfl) (by first | rfl | assumption) ?_))
  · rw [if_neg (fun z => z h3)] at stage
    (repeat (first | exact stage 0 rfl | refine Ex.go rfl rfl ?_ | refine Ex.gf rfl rfl (by assumption) (by rfl) (by first | rfl | assumption) ?_))
end RR

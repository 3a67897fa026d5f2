-- ===== end of PART A; then your names; then what follows =====
/-! THE CLAIM OUT OF ONE WALK OF THE LAW'S BODY. Your part is whole_start (and what it stands on); all else here is the same for every law, but numbers. -/
def R_law : String := "BoilerRollLaw"
def lw_P (b : Addr) (xs : List Int32) (args : Array Value) (s : State) : Prop := args = #[.ref b] ∧ s.IntsAt b xs ∧ xs.length ≤ 3584 ∧ (Jvm.Cond.and given_1 narrow_1).before args s = true
/-- what a walk over the start with the record d0 says of its end, said of the start itself -/
theorem lw_closed {s t : State} {o : Outcome} {d0 : Drawn} {L : List Loc} {k n : Nat} (hd0 : s.drawn.sameBut d0 lw_cs) (hv : ∃ v, o = .returned v) (hW : (s.setDrawn d0).WarmedH t.vm) (hs : (s.setDrawn d0).sameButNew ({ t with vm := s.vm } : State) L k n) : State.butDraws s t lw_cs (fun t1 => Framed s o t1 L k n) := by
  have h2 : t.drawn = d0 := congrArg State.drawn hs.1
  refine ⟨⟨hv, hW, State.sameButNew.setDrawn hs s.drawn⟩, ?_, by decide⟩
  rw [h2]
  exact hd0
def lw_Q (_ : Array Value) (s : State) (o : Outcome) (t : State) : Prop := o = .returned (some (.int 1)) ∧ State.butDraws s t lw_cs (fun t1 => Framed s o t1 [] 600000 7302250)
def lw_Z (below : List Frame) (a : Array Value) (s : State) : State → Prop := fun t => ∃ o, t.status = .running ∧ Ended t below o ∧ lw_Q a s o t
/-- the law's own end, with 1 on the stack, nothing written that was there before, its room as the claim has it; d0: the record of draws at this point (at the entry s.drawn: begin with 'refine W.base ?_' and 'have hd0 := Drawn.sameBut.refl s.drawn lw_cs') -/
theorem lw_ret {p : Program} {l : Launch} {e : Env} {s : State} {m : MethodId} {below : List Frame} {meth : Method} {c : Code} {b : Nat} {d0 : Drawn} (hd0 : s.drawn.sameBut d0 lw_cs) (hx : p.tables.exec = Jvm.exec) (hb : c.code = code) (hr : meth.sig.returnType = ret) (hlocks : meth.locks = false) {pc : Nat} {H : Heap} {ls : Array Slot} (hdg : decode code pc = .ok (.ireturn, 1)) : W p l e room_1 (s.setDrawn d0) m #[Value.ref b] below meth c H [] 600000 7302250 (lw_Z below #[Value.ref b] s) (F0 m pc ls [.int 1]) := by
  intro T hT X
  obtain ⟨fs, hret, hrun, hended, hW, hframe⟩ := X.leave (v := some (.int 1)) (hlocks := hlocks) (fun h => by rw [hr] at h; cases h)
  have hmeth' : T.vm.method? m = some meth := X.method'
  refine ⟨T.setFrames fs, ?_, .returned (some (.int 1)), hrun, hended, rfl, lw_closed hd0 ⟨_, rfl⟩ hW hframe⟩
  jvm_step X.here [X.here.top, hx, hb, hdg, hmeth', hr, ret, narrow_b1]
  (try refine ⟨rfl, ?_⟩); (try refine ⟨rfl, ?_⟩)
  first | (intro acts; rw [hret _ acts rfl rfl rfl]) | rw [hret _ _ rfl rfl rfl]
  exact Steps.refl _
/-- what holds at the law's entry: the machine, the code, the tables' words (any of lw_tbl by 'hts w (by decide +kernel)'), the script of L ints xs at the cell b, what the Statement gives of the start (any of its parts by flat_of_before) -/
def lw_At (p : Program) (s : State) (m : MethodId) (meth : Method) (c : Code) (b L : Nat) (xs : Nat → Int32) : Prop :=
  p.tables.exec = Jvm.exec ∧ c.code = code ∧ meth.sig.returnType = ret ∧ c.maxLocals = 4 ∧ s.vm.findClass R_law = some m.cls ∧ (∀ w ∈ lw_tbl, w.before #[Value.ref b] s = true) ∧ va_X b L xs s s.heap ∧ b < s.heap.size ∧ meth.locks = false ∧ (Jvm.Cond.and given_1 narrow_1).before #[Value.ref b] s = true

def mL_law : bo_M := (12, x, code, 4, some .boolean, tL_law, false, 0, 1)
theorem bs_inst : ∀ c, c < 12 → Cond.instantiable (bo_R c) (bo_N c) ∈ lw_tbl := by
  intro c hc
  match c, hc with
  | 0, _ => exact List.mem_of_getElem? (i := 349) (by decide +kernel)
  | 1, _ => exact List.mem_of_getElem? (i := 188) (by decide +kernel)
  | 2, _ => exact List.mem_of_getElem? (i := 226) (by decide +kernel)
  | 3, _ => exact List.mem_of_getElem? (i := 108) (by decide +kernel)
  | 4, _ => exact List.mem_of_getElem? (i := 114) (by decide +kernel)
  | 5, _ => exact List.mem_of_getElem? (i := 332) (by decide +kernel)
  | 6, _ => exact List.mem_of_getElem? (i := 233) (by decide +kernel)
  | 7, _ => exact List.mem_of_getElem? (i := 170) (by decide +kernel)
  | 8, _ => exact List.mem_of_getElem? (i := 461) (by decide +kernel)
  | 9, _ => exact List.mem_of_getElem? (i := 162) (by decide +kernel)
  | 10, _ => exact List.mem_of_getElem? (i := 100) (by decide +kernel)
  | 11, _ => exact List.mem_of_getElem? (i := 1145) (by decide +kernel)
  | c + 12, hc => exact absurd hc (by omega)
theorem bs_ls : Cond.laysStatic "BoilerRoll$Roll" "LENGTHS" "[I" ∈ lw_tbl := List.mem_of_getElem? (i := 1123) (by decide +kernel)
theorem bs_ini : Cond.initialized "BoilerRoll$Roll" ∈ lw_tbl := List.mem_of_getElem? (i := 84) (by decide +kernel)
theorem bs_LEN {s : State} {args : Array Value} (hg : (Jvm.Cond.and given_1 narrow_1).before args s = true) : ∀ j : Nat, j < 12 → (Term.elem (.static "BoilerRoll$Roll" "LENGTHS" "[I") (.int (Int32.ofNat j))).eval args s none [] s = some (.int (bo_LEN j)) := by
  have hs := flat_of_before _ hg
  intro j hj
  match j, hj with
  | 0, _ => exact va_eqt (hs (Cond.eq (.elem (.static "BoilerRoll$Roll" "LENGTHS" "[I") (.int 0)) (.int 2)) (by decide +kernel))
  | 1, _ => exact va_eqt (hs (Cond.eq (.elem (.static "BoilerRoll$Roll" "LENGTHS" "[I") (.int 1)) (.int 5)) (by decide +kernel))
  | 2, _ => exact va_eqt (hs (Cond.eq (.elem (.static "BoilerRoll$Roll" "LENGTHS" "[I") (.int 2)) (.int 7)) (by decide +kernel))
  | 3, _ => exact va_eqt (hs (Cond.eq (.elem (.static "BoilerRoll$Roll" "LENGTHS" "[I") (.int 3)) (.int 6)) (by decide +kernel))
  | 4, _ => exact va_eqt (hs (Cond.eq (.elem (.static "BoilerRoll$Roll" "LENGTHS" "[I") (.int 4)) (.int 16)) (by decide +kernel))
  | 5, _ => exact va_eqt (hs (Cond.eq (.elem (.static "BoilerRoll$Roll" "LENGTHS" "[I") (.int 5)) (.int 7)) (by decide +kernel))
  | 6, _ => exact va_eqt (hs (Cond.eq (.elem (.static "BoilerRoll$Roll" "LENGTHS" "[I") (.int 6)) (.int 5)) (by decide +kernel))
  | 7, _ => exact va_eqt (hs (Cond.eq (.elem (.static "BoilerRoll$Roll" "LENGTHS" "[I") (.int 7)) (.int 5)) (by decide +kernel))
  | 8, _ => exact va_eqt (hs (Cond.eq (.elem (.static "BoilerRoll$Roll" "LENGTHS" "[I") (.int 8)) (.int 5)) (by decide +kernel))
  | 9, _ => exact va_eqt (hs (Cond.eq (.elem (.static "BoilerRoll$Roll" "LENGTHS" "[I") (.int 9)) (.int 5)) (by decide +kernel))
  | 10, _ => exact va_eqt (hs (Cond.eq (.elem (.static "BoilerRoll$Roll" "LENGTHS" "[I") (.int 10)) (.int 6)) (by decide +kernel))
  | 11, _ => exact va_eqt (hs (Cond.eq (.elem (.static "BoilerRoll$Roll" "LENGTHS" "[I") (.int 11)) (.int 4)) (by decide +kernel))
  | j + 12, hj => exact absurd hj (by omega)
/-- what is owed of the walk as a function: the law, on a script of L ints, answers true within its room -/
def bo_Law (L : Nat) (xs : Nat → Int32) : Prop := Ex 12 mL_law (0, [(0, .ref 0)], [], [cS L xs]) (fun v G' => v = some (.int 1) ∧ bo_uC G' ≤ 600000 ∧ bo_uS G' ≤ 7302250)
theorem bo_start {p : Program} {e : Env} {s : State} {m : MethodId} {below : List Frame} {meth : Method} {c : Code} (l : Launch) {b L : Nat} {xs : Nat → Int32} (hpure : bo_Law L xs) (C0 : lw_At p s m meth c b L xs) : W p l e room_1 s m #[Value.ref b] below meth c s.heap [] 0 0 (lw_Z below #[Value.ref b] s) (entryFrame m ([Value.ref b] : List Value).toArray 4) := by
  obtain ⟨hx, hb, hr, hml, hown, hts, hX, hbl, hlocks, hgv⟩ := C0
  obtain ⟨n, v, G', hrun, rfl, hC, hS⟩ := hpure
  have hA : ∀ a : Nat, a < s.heap.size → ¬ s.heap.size ≤ a := fun a h => Nat.not_le.mpr h
  have hK : ∀ c : Nat, ∃ (cC : ClassId) (iS : Nat → Nat), c < 12 → u_Kn s (bo_R c) (bo_T c) (bo_N c) cC iS := by
    intro c
    by_cases hc : c < 12
    · obtain ⟨cC, iS, h⟩ := u_known (ws := lw_tbl) hts (fun w hw => (List.mem_filter.mp (bo_lay c hc w hw)).1) (hts _ (bs_inst c hc))
      exact ⟨cC, iS, fun _ => h⟩
    · exact ⟨0, fun _ => 0, fun h => absurd h hc⟩
  obtain ⟨dC, hK⟩ : ∃ dC : Nat → ClassId, ∀ c, ∃ iS : Nat → Nat, c < 12 → u_Kn s (bo_R c) (bo_T c) (bo_N c) (dC c) iS := ⟨fun c => (hK c).choose, fun c => (hK c).choose_spec⟩
  obtain ⟨dI, hK⟩ : ∃ dI : Nat → Nat → Nat, ∀ c, c < 12 → u_Kn s (bo_R c) (bo_T c) (bo_N c) (dC c) (dI c) := ⟨fun c => (hK c).choose, fun c => (hK c).choose_spec⟩
  obtain ⟨cI', kI, compI, hcI, hkI, hkindI⟩ := Cond.arrayClass_spec (hts _ (List.mem_filter.mp bo_w_arr).1)
  have hO : ∀ c, Cond.arrayOver (.object (bo_R c)) ∈ lw_tbl → ∃ cA : ClassId, ArrOfT s cA (.object (bo_R c)) ∧ va_RA s cA (.object (bo_R c)) := by
    intro c hw
    obtain ⟨comp, cA, k, h1, h2, h3, h4, h5⟩ := Cond.arrayOver_spec (hts _ hw)
    exact ⟨cA, fun n z => ⟨fun k h => (by cases h), k, h3, comp, h4⟩, k, comp, h3, h4, h1, h5⟩
  obtain ⟨c2, h2a, h2b⟩ := hO 2 bo_w_ov2
  obtain ⟨c6, h6a, h6b⟩ := hO 6 bo_w_ov6
  obtain ⟨c8, h8a, h8b⟩ := hO 8 bo_w_ov8
  have hs := flat_of_before _ hgv
  obtain ⟨tl, htl, hT⟩ := va_Tof (A := fun q => s.heap.size ≤ q) (N := 12) (f := fun j => .int (bo_LEN j)) (by decide) (hs (Cond.arrayOf (.static "BoilerRoll$Roll" "LENGTHS" "[I") .int) (by decide +kernel)) (va_eqt (hs (Cond.eq (.length (.static "BoilerRoll$Roll" "LENGTHS" "[I")) (.int 12)) (by decide +kernel))) (bs_LEN hgv) hA
  have hZ := va_Zref (A := fun q => s.heap.size ≤ q) (hts _ bs_ls) (hts _ bs_ini) htl hA
  have hU1 : bo_U1 s := by
    refine ⟨fun w hw => ?_, fun c hc => ?_⟩
    · obtain ⟨hw1, hw2⟩ := List.mem_filter.mp hw
      have h := hts w hw1
      cases w <;> first | (cases hw2; done) | exact va_Nw.of rfl h
    · unfold bo_ro at hc
      simp only [Bool.or_eq_true, beq_iff_eq] at hc
      rcases hc with (rfl | rfl) | rfl
      · exact va_AO.of (hts _ bo_w_ov2)
      · exact va_AO.of (hts _ bo_w_ov6)
      · exact va_AO.of (hts _ bo_w_ov8)
  let X : bo_X := ((dC, dI), (cI', c2, c6, c8), s.heap.size, tl)
  have hU : bo_U X s s.heap := by
    refine ⟨⟨fun c q hq => ?_, fun k q hq => by cases hq⟩, ⟨fun n z => ⟨fun k h => (by cases h), kI, hkI, compI, hkindI⟩, hcI⟩, fun c hc => ?_, hZ, hT, Nat.le_refl _, hU1⟩
    · have hc : c < 12 := (List.getElem?_eq_some_iff.mp hq).1
      have := (bo_clok c hc).symm.trans hq
      cases this
      exact hK c hc
    · unfold bo_ro at hc
      simp only [Bool.or_eq_true, beq_iff_eq] at hc
      rcases hc with (rfl | rfl) | rfl
      · exact ⟨h2a, h2b⟩
      · exact ⟨h6a, h6b⟩
      · exact ⟨h8a, h8b⟩
  have hR : bo_Rel X (fun _ => b) (fun _ => 0) s s.heap [cS L xs] := by
    refine ⟨hU, ?_, ?_, ?_, ?_⟩
    · intro i c hc
      have hi : i < 1 := (List.getElem?_eq_some_iff.mp hc).1
      rw [show i = 0 by omega] at hc ⊢
      cases hc
      exact ⟨⟨hX, Nat.not_le.mpr hbl⟩, trivial⟩
    · intro i j hi hj _
      have hi : i < 1 := hi
      have hj : j < 1 := hj
      omega
    · intro i j c d hc _ hrow
      have hi : i < 1 := (List.getElem?_eq_some_iff.mp hc).1
      rw [show i = 0 by omega] at hc
      cases hc
      cases hrow
    · intro i j c hc hrow
      have hi : i < 1 := (List.getElem?_eq_some_iff.mp hc).1
      rw [show i = 0 by omega] at hc
      cases hc
      cases hrow
  have C : bo_Cx p s m #[Value.ref b] meth c mL_law := ⟨hx, hb, hml, hown, fun w hw => hts w (List.mem_filter.mp hw).1, (fun h => by cases h), oL_law⟩
  have W0 := bo_sound_ex (l := l) (e := e) (R := room_1) (below := below) (Q := lw_Z below #[Value.ref b] s) (X := X) (kC := 0) (kS := 0) (n0 := 0) (ad0 := fun _ => 0) (d := 12) (K := bo_Kd n 12) (v := some (.int 1)) (G' := G') C ⟨rfl, by decide⟩ (fun y as G v G' hk => bo_cx_le n 11 y as G v G' hk) (fun d' hd y as G v G' hy hk => by cases hd; exact bo_cx_ok X n 11 y as G v G' hy hk) ⟨by show bo_uC G' - 0 ≤ 600000; omega, by show bo_uS G' - 0 ≤ 7302250; omega⟩ ?_ n _ hrun
  · have hl := lv_entry ([.ref b]) (n := 4) (Nat.le_of_ble_eq_true rfl)
    rw [lg_entry_eq]
    generalize (lg_sl ([.ref b]) ++ List.replicate (4 - (lg_sl ([.ref b])).length) Slot.unset).toArray = ls at hl ⊢
    have k1 := W0 s.heap [] ls (fun _ => b) (fun _ => 0) hR hl ⟨fun q hq => by
      rw [List.mem_singleton.mp hq]
      exact Nat.lt_succ_self 0, fun v hv => by cases hv⟩ (fun q hq => by cases hq) (fun i hi => absurd hi (Nat.not_lt_zero i)) (Nat.zero_le _) (Nat.zero_le _) (Nat.zero_le _)
    exact k1
  · intro pc en lv st he hv
    obtain ⟨len, hd, hok⟩ := oL_law pc en he
    obtain ⟨i, nx, tg, kp⟩ := en
    dsimp only at hd hok hv
    intro H locs ls ad pa h1 h2 h3 h4 h5 h6 h7 h8
    have hz : i = .ireturn ∧ st = [.int 1] := by
      unfold bo_ret at hv
      split at hv
      · rename_i x hrt
        exact absurd hrt (by show ¬ (some FieldType.boolean = some FieldType.int); decide)
      · split at hv
        · cases hv
          exact ⟨rfl, rfl⟩
        · cases hv
      · cases hv
      · cases hv
      · cases hv
      · cases hv
      · cases hv
    obtain ⟨rfl, rfl⟩ := hz
    obtain ⟨rfl, rfl⟩ := bo_len (n := 0) hok rfl
    refine va_forget (fun q hq => h4 q hq) ?_
    refine W.widen (k := 600000) (n := 7302250) (by show bo_uC G' - 0 ≤ _; omega) (by show bo_uS G' - 0 ≤ _; omega) ?_
    exact W.base (lw_ret (Drawn.sameBut.refl s.drawn lw_cs) hx hb hr hlocks hd)

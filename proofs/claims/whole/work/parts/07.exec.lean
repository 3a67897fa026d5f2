/-! The walk as a function: a heap of cells by number; rows of ints (BoilerRoll.Row) stand in it as lists. -/
/-- a cell: an object (kind, fields), a row of ints, a row of references (kind, how many), a Row (limit, room, its ints), the script -/
abbrev bo_C : Type := (Nat × List Value) ⊕ (Nat × (Nat → Int32)) ⊕ (Nat × Nat × (Nat → Option Nat)) ⊕ (Nat × Nat × List Int32) ⊕ (Nat × (Nat → Int32))
abbrev cO (c : Nat) (fs : List Value) : bo_C := .inl (c, fs)
abbrev cI (n : Nat) (f : Nat → Int32) : bo_C := .inr (.inl (n, f))
abbrev cQ (c n : Nat) (f : Nat → Option Nat) : bo_C := .inr (.inr (.inl (c, n, f)))
abbrev cR (lim cap : Nat) (xs : List Int32) : bo_C := .inr (.inr (.inr (.inl (lim, cap, xs))))
abbrev cS (n : Nat) (f : Nat → Int32) : bo_C := .inr (.inr (.inr (.inr (n, f))))
abbrev bo_G : Type := List bo_C
abbrev bo_LV : Type := List (Nat × Value)
abbrev bo_S : Type := Nat × bo_LV × List Value × bo_G
/-- locals stand by their numbers -/
def bo_ins (i : Nat) (v : Value) : bo_LV → bo_LV
  | [] => [(i, v)]
  | q :: r => bif Nat.blt i q.1 then (i, v) :: q :: r else q :: bo_ins i v r
def bo_s1 (lv : bo_LV) (i : Nat) (v : Value) : bo_LV := bo_ins i v (lv.filter (fun q => !(q.1 == i) && !(q.1 + 1 == i && q.2.category == 2)))
def bo_s2 (lv : bo_LV) (i : Nat) (v : Value) : bo_LV := bo_ins i v (lv.filter (fun q => !(q.1 == i) && (!(q.1 == i + 1) && !(q.1 + 1 == i && q.2.category == 2))))
def bo_ldI (lv : bo_LV) (i nx : Nat) (st : List Value) (G : bo_G) : Option bo_S := match lv.lookup i with
  | some (.int x) => some (nx, lv, .int x :: st, G)
  | _ => none
def bo_ldL (lv : bo_LV) (i nx : Nat) (st : List Value) (G : bo_G) : Option bo_S := match lv.lookup i with
  | some (.long x) => some (nx, lv, .long x :: st, G)
  | _ => none
def bo_ldA (lv : bo_LV) (i nx : Nat) (st : List Value) (G : bo_G) : Option bo_S := match lv.lookup i with
  | some (.ref x) => some (nx, lv, .ref x :: st, G)
  | some .null => some (nx, lv, .null :: st, G)
  | _ => none
def bo_stI (ml : Nat) (lv : bo_LV) (i nx : Nat) (st : List Value) (G : bo_G) : Option bo_S := match st with
  | .int x :: r => bif Nat.blt i ml then some (nx, bo_s1 lv i (.int x), r, G) else none
  | _ => none
def bo_stL (ml : Nat) (lv : bo_LV) (i nx : Nat) (st : List Value) (G : bo_G) : Option bo_S := match st with
  | .long x :: r => bif Nat.blt (i + 1) ml then some (nx, bo_s2 lv i (.long x), r, G) else none
  | _ => none
def bo_stA (ml : Nat) (lv : bo_LV) (i nx : Nat) (st : List Value) (G : bo_G) : Option bo_S := match st with
  | .ref x :: r => bif Nat.blt i ml then some (nx, bo_s1 lv i (.ref x), r, G) else none
  | .null :: r => bif Nat.blt i ml then some (nx, bo_s1 lv i .null, r, G) else none
  | _ => none
def bo_inc (ml : Nat) (lv : bo_LV) (i : Nat) (n : Int) (nx : Nat) (st : List Value) (G : bo_G) : Option bo_S := match lv.lookup i with
  | some (.int x) => bif Nat.blt i ml then some (nx, bo_s1 lv i (.int (x + Int32.ofInt n)), st, G) else none
  | _ => none
def bo_i1 (f : Int32 → Value) (lv : bo_LV) (nx : Nat) (st : List Value) (G : bo_G) : Option bo_S := match st with
  | .int x :: r => some (nx, lv, f x :: r, G)
  | _ => none
def bo_i2 (f : Int32 → Int32 → Value) (lv : bo_LV) (nx : Nat) (st : List Value) (G : bo_G) : Option bo_S := match st with
  | .int y :: .int x :: r => some (nx, lv, f x y :: r, G)
  | _ => none
def bo_l1 (f : Int64 → Value) (lv : bo_LV) (nx : Nat) (st : List Value) (G : bo_G) : Option bo_S := match st with
  | .long x :: r => some (nx, lv, f x :: r, G)
  | _ => none
def bo_l2 (f : Int64 → Int64 → Value) (lv : bo_LV) (nx : Nat) (st : List Value) (G : bo_G) : Option bo_S := match st with
  | .long y :: .long x :: r => some (nx, lv, f x y :: r, G)
  | _ => none
/-- a division: none by 0 -/
def bo_d2 (f : Int32 → Int32 → Value) (lv : bo_LV) (nx : Nat) (st : List Value) (G : bo_G) : Option bo_S := match st with
  | .int y :: .int x :: r => if y = 0 then none else some (nx, lv, f x y :: r, G)
  | _ => none
def bo_dl (f : Int64 → Int64 → Value) (lv : bo_LV) (nx : Nat) (st : List Value) (G : bo_G) : Option bo_S := match st with
  | .long y :: .long x :: r => if y = 0 then none else some (nx, lv, f x y :: r, G)
  | _ => none
def bo_b1 (c : Int32 → Bool) (lv : bo_LV) (nx tg : Nat) (st : List Value) (G : bo_G) : Option bo_S := match st with
  | .int x :: r => some (bif c x then tg else nx, lv, r, G)
  | _ => none
def bo_b2 (c : Int32 → Int32 → Bool) (lv : bo_LV) (nx tg : Nat) (st : List Value) (G : bo_G) : Option bo_S := match st with
  | .int y :: .int x :: r => some (bif c x y then tg else nx, lv, r, G)
  | _ => none
def bo_c1 : ClassFile.Cond → Int32 → Bool
  | .eq => fun x => decide (x = 0)
  | .ne => fun x => decide (¬ x = 0)
  | .lt => fun x => decide (x < 0)
  | .ge => fun x => decide (0 ≤ x)
  | .gt => fun x => decide (0 < x)
  | .le => fun x => decide (x ≤ 0)
def bo_c2 : ClassFile.Cond → Int32 → Int32 → Bool
  | .eq => fun x y => decide (x = y)
  | .ne => fun x y => decide (¬ x = y)
  | .lt => fun x y => decide (x < y)
  | .ge => fun x y => decide (y ≤ x)
  | .gt => fun x y => decide (y < x)
  | .le => fun x y => decide (x ≤ y)
def bo_nul (b : Bool) (lv : bo_LV) (nx tg : Nat) (st : List Value) (G : bo_G) : Option bo_S := match st with
  | .null :: r => some (bif b then tg else nx, lv, r, G)
  | .ref _ :: r => some (bif b then nx else tg, lv, r, G)
  | _ => none
def bo_gf (ck : Nat × Nat) (lv : bo_LV) (nx : Nat) (st : List Value) (G : bo_G) : Option bo_S := match st with
  | .ref a :: r => match G[a]? with
    | some (.inl o) => bif Nat.beq o.1 ck.1 then (match o.2[ck.2]? with
      | some v => some (nx, lv, v :: r, G)
      | none => none) else none
    | some (.inr (.inr (.inr (.inl w)))) => bif Nat.beq ck.1 4 then (match ck.2 with
      | 0 => some (nx, lv, .int (Int32.ofNat w.1) :: r, G)
      | 2 => some (nx, lv, .int (Int32.ofNat w.2.2.length) :: r, G)
      | _ => none) else none
    | _ => none
  | _ => none
/-- whether a field may be written where m runs -/
def bo_wr (m : bo_M) (ck : Nat × Nat) (v : Value) : Bool := Nat.beq (bo_o m) ck.1 && ((!(bo_T ck.1 ck.2).2.2.2 || bo_in m) && (match bo_ty ck.1 ck.2, v with
  | .int, .int _ => true
  | .long, .long _ => true
  | .boolean, .int x => decide (x = 0 ∨ x = 1)
  | .object _, .ref _ => true
  | .object _, .null => true
  | .array _, .ref _ => true
  | _, _ => false))
def bo_pf (m : bo_M) (ck : Nat × Nat) (lv : bo_LV) (nx : Nat) (st : List Value) (G : bo_G) : Option bo_S := match st with
  | v :: .ref a :: r => match G[a]? with
    | some (.inl o) => bif Nat.beq o.1 ck.1 && (Nat.blt ck.2 o.2.length && bo_wr m ck v) then some (nx, lv, r, G.set a (cO o.1 (o.2.set ck.2 v))) else none
    | some (.inr (.inr (.inr (.inl w)))) => bif Nat.beq ck.1 4 && (Nat.beq ck.2 2 && Nat.beq (bo_o m) 4) then (match v with
      | .int x => if 0 ≤ x ∧ x.toNatClampNeg ≤ w.2.2.length then some (nx, lv, r, G.set a (cR w.1 w.2.1 (w.2.2.take x.toNatClampNeg))) else none
      | _ => none) else none
    | _ => none
  | _ => none
def bo_new (c : Nat) (lv : bo_LV) (nx : Nat) (st : List Value) (G : bo_G) : Option bo_S := some (nx, lv, .ref G.length :: st, G ++ [cO c (bo_df c)])
def bo_na1 (lv : bo_LV) (nx : Nat) (st : List Value) (G : bo_G) : Option bo_S := match st with
  | .int n :: r => if 0 ≤ n ∧ n ≤ 200000 then some (nx, lv, .ref G.length :: r, G ++ [cI n.toNatClampNeg (fun _ => 0)]) else none
  | _ => none
def bo_na2 (c : Nat) (lv : bo_LV) (nx : Nat) (st : List Value) (G : bo_G) : Option bo_S := match st with
  | .int n :: r => if 0 ≤ n ∧ n ≤ 200000 ∧ bo_ro c = true then some (nx, lv, .ref G.length :: r, G ++ [cQ c n.toNatClampNeg (fun _ => none)]) else none
  | _ => none
def bo_al (lv : bo_LV) (nx : Nat) (st : List Value) (G : bo_G) : Option bo_S := match st with
  | .ref a :: r => match G[a]? with
    | some (.inr (.inl w)) => some (nx, lv, .int (Int32.ofNat w.1) :: r, G)
    | some (.inr (.inr (.inl w))) => some (nx, lv, .int (Int32.ofNat w.2.1) :: r, G)
    | some (.inr (.inr (.inr (.inr w)))) => some (nx, lv, .int (Int32.ofNat w.1) :: r, G)
    | _ => none
  | _ => none
/-- an index in its row -/
def bo_ix (i : Int32) (n : Nat) : Prop := 0 ≤ i ∧ i.toNatClampNeg < n
def bo_ial (lv : bo_LV) (nx : Nat) (st : List Value) (G : bo_G) : Option bo_S := match st with
  | .int i :: .ref a :: r => match G[a]? with
    | some (.inr (.inl w)) => if 0 ≤ i ∧ i.toNatClampNeg < w.1 then some (nx, lv, .int (w.2 i.toNatClampNeg) :: r, G) else none
    | some (.inr (.inr (.inr (.inr w)))) => if 0 ≤ i ∧ i.toNatClampNeg < w.1 then some (nx, lv, .int (w.2 i.toNatClampNeg) :: r, G) else none
    | _ => none
  | _ => none
def bo_ias (lv : bo_LV) (nx : Nat) (st : List Value) (G : bo_G) : Option bo_S := match st with
  | .int x :: .int i :: .ref a :: r => match G[a]? with
    | some (.inr (.inl w)) => if 0 ≤ i ∧ i.toNatClampNeg < w.1 then some (nx, lv, r, G.set a (cI w.1 (upd w.2 i.toNatClampNeg x))) else none
    | _ => none
  | _ => none
def bo_aal (lv : bo_LV) (nx : Nat) (st : List Value) (G : bo_G) : Option bo_S := match st with
  | .int i :: .ref a :: r => match G[a]? with
    | some (.inr (.inr (.inl w))) => if 0 ≤ i ∧ i.toNatClampNeg < w.2.1 then some (nx, lv, va_rf (w.2.2 i.toNatClampNeg) :: r, G) else none
    | _ => none
  | _ => none
def bo_aas (lv : bo_LV) (nx : Nat) (st : List Value) (G : bo_G) : Option bo_S := match st with
  | .ref v :: .int i :: .ref a :: r => match G[a]? with
    | some (.inr (.inr (.inl w))) => (match G[v]? with
      | some (.inl o) => if 0 ≤ i ∧ i.toNatClampNeg < w.2.1 ∧ o.1 = w.1 then some (nx, lv, r, G.set a (cQ w.1 w.2.1 (va_up w.2.2 i.toNatClampNeg (some v)))) else none
      | _ => none)
    | _ => none
  | _ => none
def bo_tsw (pc : Nat) (d lo hi : Int) (offs : Array Int) (x : Int) : Int := if x < lo ∨ hi < x then pc + d else pc + offs.toList.getD (x - lo).toNat 0
def bo_lsw (pc : Nat) (d : Int) (ps : List (Int × Int)) (x : Int) : Int := pc + Op.lookupswitch.offset ps d x
def bo_fm (lv : bo_LV) (nx : Nat) (st : List Value) (G : bo_G) : Option bo_S := match st with
  | .float y :: .float x :: r => if FP.fmul x y &&& 0x7fffffff ≤ 0x7f800000 then some (nx, lv, .float (FP.fmul x y) :: r, G) else none
  | _ => none
def bo_i8 : Int → Bool
  | .ofNat k => Nat.ble k 127
  | .negSucc k => Nat.ble k 127
def bo_i16 : Int → Bool
  | .ofNat k => Nat.ble k 32767
  | .negSucc k => Nat.ble k 32767
/-- one instruction that calls nothing and doesn't return -/
def bo_step (m : bo_M) (pc : Nat) (e : bo_E) (lv : bo_LV) (st : List Value) (G : bo_G) : Option bo_S := match e.1 with
  | .aconst_null => some (e.2.1, lv, .null :: st, G)
  | .aload k => bo_ldA lv k e.2.1 st G
  | .aload_n k => bo_ldA lv k.val e.2.1 st G
  | .iload k => bo_ldI lv k e.2.1 st G
  | .iload_n k => bo_ldI lv k.val e.2.1 st G
  | .lload k => bo_ldL lv k e.2.1 st G
  | .lload_n k => bo_ldL lv k.val e.2.1 st G
  | .astore k => bo_stA (bo_ml m) lv k e.2.1 st G
  | .astore_n k => bo_stA (bo_ml m) lv k.val e.2.1 st G
  | .istore k => bo_stI (bo_ml m) lv k e.2.1 st G
  | .istore_n k => bo_stI (bo_ml m) lv k.val e.2.1 st G
  | .lstore k => bo_stL (bo_ml m) lv k e.2.1 st G
  | .lstore_n k => bo_stL (bo_ml m) lv k.val e.2.1 st G
  | .iinc k n => bo_inc (bo_ml m) lv k n e.2.1 st G
  | .iconst n => some (e.2.1, lv, .int (Int32.ofInt n) :: st, G)
  | .bipush n => bif bo_i8 n then some (e.2.1, lv, .int (Int32.ofInt n) :: st, G) else none
  | .sipush n => bif bo_i16 n then some (e.2.1, lv, .int (Int32.ofInt n) :: st, G) else none
  | .lconst n => some (e.2.1, lv, .long (Int64.ofNat n.val) :: st, G)
  | .ldc k => match bo_ck (bo_o m) k with
    | some v => some (e.2.1, lv, .int v :: st, G)
    | none => match bo_cf (bo_o m) k with
      | some v => some (e.2.1, lv, .float v :: st, G)
      | none => none
  | .ldc_w k => match bo_ck (bo_o m) k with
    | some v => some (e.2.1, lv, .int v :: st, G)
    | none => none
  | .ldc2_w k => match bo_cl (bo_o m) k with
    | some v => some (e.2.1, lv, .long v :: st, G)
    | none => none
  | .iadd => bo_i2 (fun x y => .int (x + y)) lv e.2.1 st G
  | .isub => bo_i2 (fun x y => .int (x - y)) lv e.2.1 st G
  | .imul => bo_i2 (fun x y => .int (x * y)) lv e.2.1 st G
  | .iand => bo_i2 (fun x y => .int (x &&& y)) lv e.2.1 st G
  | .ior => bo_i2 (fun x y => .int (x ||| y)) lv e.2.1 st G
  | .ishr => bo_i2 (fun x y => .int (x >>> (y &&& 31))) lv e.2.1 st G
  | .iushr => bo_i2 (fun x y => .int (x.toUInt32 >>> (y.toUInt32 &&& Int32.toUInt32 31)).toInt32) lv e.2.1 st G
  | .idiv => bo_d2 (fun x y => .int (x / y)) lv e.2.1 st G
  | .irem => bo_d2 (fun x y => .int (x - x / y * y)) lv e.2.1 st G
  | .ineg => bo_i1 (fun x => .int (-x)) lv e.2.1 st G
  | .i2l => bo_i1 (fun x => .long x.toInt64) lv e.2.1 st G
  | .i2s => bo_i1 (fun x => .int x.toInt16.toInt32) lv e.2.1 st G
  | .i2f => bo_i1 (fun x => .float (FP.i2f x)) lv e.2.1 st G
  | .f2i => match st with
    | .float x :: r => some (e.2.1, lv, .int (FP.f2i x) :: r, G)
    | _ => none
  | .fmul => bo_fm lv e.2.1 st G
  | .l2i => bo_l1 (fun x => .int x.toInt32) lv e.2.1 st G
  | .ladd => bo_l2 (fun x y => .long (x + y)) lv e.2.1 st G
  | .lsub => bo_l2 (fun x y => .long (x - y)) lv e.2.1 st G
  | .lmul => bo_l2 (fun x y => .long (x * y)) lv e.2.1 st G
  | .lxor => bo_l2 (fun x y => .long (x ^^^ y)) lv e.2.1 st G
  | .lcmp => bo_l2 (fun x y => .int (lg_cmp x y)) lv e.2.1 st G
  | .ldiv => bo_dl (fun x y => .long (x / y)) lv e.2.1 st G
  | .dup => match st with
    | v :: r => bif Nat.beq v.category 1 then some (e.2.1, lv, v :: v :: r, G) else none
    | _ => none
  | .dup2 => match st with
    | v :: w :: r => bif Nat.beq v.category 1 && Nat.beq w.category 1 then some (e.2.1, lv, v :: w :: v :: w :: r, G) else none
    | _ => none
  | .pop => match st with
    | v :: r => bif Nat.beq v.category 1 then some (e.2.1, lv, r, G) else none
    | _ => none
  | .goto _ => some (e.2.2.1, lv.filter (fun q => Nat.blt q.1 e.2.2.2), st, G)
  | .ifCond c _ => bo_b1 (bo_c1 c) lv e.2.1 e.2.2.1 st G
  | .if_icmp c _ => bo_b2 (bo_c2 c) lv e.2.1 e.2.2.1 st G
  | .ifnull _ => bo_nul true lv e.2.1 e.2.2.1 st G
  | .ifnonnull _ => bo_nul false lv e.2.1 e.2.2.1 st G
  | .tableswitch d lo hi offs => match st with
    | .int x :: r => if 0 ≤ bo_tsw pc d lo hi offs x.toInt ∧ ((hi - lo).toNat < offs.toList.length) then some ((bo_tsw pc d lo hi offs x.toInt).toNat, lv, r, G) else none
    | _ => none
  | .lookupswitch d ps => match st with
    | .int x :: r => if 0 ≤ bo_lsw pc d ps.toList x.toInt ∧ (ps.toList.zip (ps.toList.drop 1)).all (fun (a, next) => a.1 < next.1) = true then some ((bo_lsw pc d ps.toList x.toInt).toNat, lv, r, G) else none
    | _ => none
  | .getfield k => match bo_fk (bo_o m) k with
    | some ck => bo_gf ck lv e.2.1 st G
    | none => none
  | .putfield k => match bo_fk (bo_o m) k with
    | some ck => bo_pf m ck lv e.2.1 st G
    | none => none
  | .new k => match bo_kk (bo_o m) k with
    | some c => bo_new c lv e.2.1 st G
    | none => none
  | .newarray t => match t with
    | .int => bo_na1 lv e.2.1 st G
    | _ => none
  | .anewarray k => match bo_kk (bo_o m) k with
    | some c => bo_na2 c lv e.2.1 st G
    | none => none
  | .arraylength => bo_al lv e.2.1 st G
  | .iaload => bo_ial lv e.2.1 st G
  | .iastore => bo_ias lv e.2.1 st G
  | .aaload => bo_aal lv e.2.1 st G
  | .aastore => bo_aas lv e.2.1 st G
  | _ => none
abbrev bo_A : Type := Option Value × bo_G
abbrev bo_K : Type := bo_M → List Value → bo_G → Option bo_A
/-- what a return answers -/
def bo_ret (m : bo_M) (i : Instr) (st : List Value) : Option (Option Value) := match i, st, bo_rt m with
  | .ireturn, [.int x], some .int => some (some (.int x))
  | .ireturn, [.int x], some .boolean => if x = 0 ∨ x = 1 then some (some (.int x)) else none
  | .lreturn, [.long x], some .long => some (some (.long x))
  | .areturn, [.ref a], some (.object _) => some (some (.ref a))
  | .areturn, [.null], some (.object _) => some (some .null)
  | .return_, [], none => some none
  | _, _, _ => none
/-- a receiver's kind fits the method's class -/
def bo_is (G : bo_G) (c : Nat) (v : Value) : Bool := match v with
  | .ref a => match G[a]? with
    | some (.inl o) => Nat.beq o.1 c
    | some (.inr (.inr (.inr (.inl _)))) => Nat.beq c 4
    | _ => false
  | _ => false
/-- a call: which method, its arguments, what stays on the stack -/
def bo_cal (m : bo_M) (i : Instr) (st : List Value) (G : bo_G) : Option (bo_M × List Value × List Value) := match i with
  | .invokevirtual k => match bo_lk (bo_o m) k with
    | some (0, y) => bif bo_is G (bo_o y) ((st.take (bo_na y + 1)).getLastD .null) && Nat.beq (st.take (bo_na y + 1)).length (bo_na y + 1) then some (y, (st.take (bo_na y + 1)).reverse, st.drop (bo_na y + 1)) else none
    | _ => none
  | .invokespecial k => match bo_lk (bo_o m) k with
    | some (2, y) => bif bo_is G (bo_o y) ((st.take (bo_na y + 1)).getLastD .null) && Nat.beq (st.take (bo_na y + 1)).length (bo_na y + 1) then some (y, (st.take (bo_na y + 1)).reverse, st.drop (bo_na y + 1)) else none
    | some (4, y) => bif bo_is G (bo_o y) ((st.take (bo_na y + 1)).getLastD .null) && Nat.beq (st.take (bo_na y + 1)).length (bo_na y + 1) then some (y, (st.take (bo_na y + 1)).reverse, st.drop (bo_na y + 1)) else none
    | _ => none
  | .invokestatic k => match bo_lk (bo_o m) k with
    | some (1, y) => bif Nat.beq (st.take (bo_na y)).length (bo_na y) then some (y, (st.take (bo_na y)).reverse, st.drop (bo_na y)) else none
    | some (3, y) => bif Nat.beq (st.take (bo_na y)).length (bo_na y) then some (y, (st.take (bo_na y)).reverse, st.drop (bo_na y)) else none
    | _ => none
  | _ => none
/-- calls that aren't walked: Object's constructor, a float by its bits -/
def bo_nat (m : bo_M) (i : Instr) (st : List Value) : Option (List Value) := match i with
  | .invokespecial k => match bo_lk (bo_o m) k with
    | some (5, _) => match st with
      | .ref _ :: r => some r
      | _ => none
    | _ => none
  | .invokestatic k => match bo_lk (bo_o m) k with
    | some (6, _) => match st with
      | .int b :: r => if (b.toUInt32 &&& 0x7fffffff > 0x7f800000 && b.toUInt32 &&& 0x00400000 == 0) = false then some (.float b.toUInt32 :: r) else none
      | _ => none
    | _ => none
  | _ => none
def bo_cat (st : List Value) : Bool := Nat.ble (st.map fun v => v.category).sum 8
/-- d: how many calls may stand open above this one; K: what a call answers; n: how many instructions are walked at most -/
def bo_ex (d : Nat) (K : bo_K) (m : bo_M) : Nat → bo_S → Option bo_A
  | 0, _ => none
  | n + 1, (pc, lv, st, G) => match bo_cd m pc with
    | none => none
    | some e => match bo_step m pc e lv st G with
      | some s => bo_ex d K m n s
      | none => match bo_ret m e.1 st with
        | some v => some (v, G)
        | none => match bo_nat m e.1 st with
          | some r => bif Nat.blt 0 d && bo_cat r then bo_ex d K m n (e.2.1, lv, r, G) else none
          | none => match bo_cal m e.1 st G with
            | some (y, as, r) => bif Nat.blt 0 d && bo_cat r then (match K y as G with
              | some (v, G') => bo_ex d K m n (e.2.1, lv, v.toList ++ r, G')
              | none => none) else none
            | none => none
/-- Roll's row of lengths -/
def bo_LEN (k : Nat) : Int32 := ([2, 5, 7, 6, 16, 7, 5, 5, 5, 5, 6, 4] : List Int32).getD k 0
def bo_at (xs : List Int32) (i : Int32) : Int32 := if 0 ≤ i then xs.getD i.toNatClampNeg 0 else 0
def bo_put (xs : List Int32) (i v : Int32) : List Int32 := if 0 ≤ i then xs.set i.toNatClampNeg v else xs
/-- a Row's room behind one more int -/
def bo_cap (lim cap n : Nat) : Nat := if n < lim ∧ cap ≤ n then min lim (cap * 2) else cap
def bo_add (lim : Nat) (xs : List Int32) (v : Int32) : List Int32 := if xs.length < lim then xs ++ [v] else xs
/-- what the four methods of Row that touch its cells, and Roll.lengthOf, do -/
def bo_pm (d : Nat) (p : Nat) (as : List Value) (G : bo_G) : Option bo_A := match p, as with
  | 1, [.ref a, .int l] => match G[a]? with
    | some (.inl o) => if Nat.beq o.1 4 = true ∧ 1 ≤ d ∧ 1 ≤ l ∧ l ≤ 40000 ∧ o.2 = bo_df 4 then some (none, G.set a (cR l.toNatClampNeg (min l.toNatClampNeg 16) [])) else none
    | _ => none
  | 2, [.ref a, .int i] => match G[a]? with
    | some (.inr (.inr (.inr (.inl w)))) => some (some (.int (bo_at w.2.2 i)), G)
    | _ => none
  | 3, [.ref a, .int i, .int v] => match G[a]? with
    | some (.inr (.inr (.inr (.inl w)))) => some (none, G.set a (cR w.1 w.2.1 (bo_put w.2.2 i v)))
    | _ => none
  | 4, [.ref a, .int v] => match G[a]? with
    | some (.inr (.inr (.inr (.inl w)))) => if 2 ≤ d then some (some (.ref a), G.set a (cR w.1 (bo_cap w.1 w.2.1 w.2.2.length) (bo_add w.1 w.2.2 v))) else none
    | _ => none
  | 5, [.int c] => some (some (.int (if 0 ≤ c ∧ c < 12 then bo_LEN c.toNatClampNeg else 0)), G)
  | _, _ => none
/-- a call of m, d calls deep at most above it, n instructions in each -/
def bo_cx (n : Nat) : Nat → bo_K
  | 0 => fun m as G => match bo_pr m with
    | 0 => bif Nat.ble (lg_sl as).length (bo_ml m) then bo_ex 0 (fun _ _ _ => none) m n (0, lv_args 0 as, [], G) else none
    | p => bo_pm 0 p as G
  | d + 1 => fun m as G => match bo_pr m with
    | 0 => bif Nat.ble (lg_sl as).length (bo_ml m) then bo_ex (d + 1) (bo_cx n d) m n (0, lv_args 0 as, [], G) else none
    | p => bo_pm (d + 1) p as G

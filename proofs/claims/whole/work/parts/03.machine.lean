/-! THE PLAIN MACHINE, part 2: values, one instruction, runs -/
abbrev zm_V : Type := Int ⊕ Int ⊕ Nat ⊕ Unit
abbrev zm_I (z : Int) : zm_V := .inl z
abbrev zm_L (z : Int) : zm_V := .inr (.inl z)
abbrev zm_A (a : Nat) : zm_V := .inr (.inr (.inl a))
abbrev zm_U : zm_V := .inr (.inr (.inr ()))
abbrev zm_H : Type := Nat → Int → Int
def zm_wr (h : zm_H) (a : Nat) (i v : Int) : zm_H := fun b j => if b = a ∧ j = i then v else h b j
def zm_zr (h : zm_H) (a : Nat) : zm_H := fun b j => if b = a then 0 else h b j
abbrev zm_i32 (z : Int) : Prop := -2147483648 ≤ z ∧ z ≤ 2147483647
abbrev zm_i64 (z : Int) : Prop := -9223372036854775808 ≤ z ∧ z ≤ 9223372036854775807
abbrev zm_bit (z : Int) : Prop := z = 0 ∨ z = 1
def zm_ck (p : Prop) [Decidable p] {α : Type} (x : Option α) : Option α := if p then x else none
def zm_cat (v : zm_V) : Nat := match v with
  | .inr (.inl _) => 2
  | .inr (.inr (.inr _)) => 0
  | _ => 1
/-- a step: on to another place, an answer, or a call -/
abbrev zm_N : Type := (Nat × List zm_V × List zm_V × Nat × zm_H) ⊕ zm_V ⊕ (Nat × List zm_V × List zm_V)
def zm_go (pc : Nat) (loc stk : List zm_V) (nx : Nat) (h : zm_H) : Option zm_N := some (.inl (pc, loc, stk, nx, h))
def zm_own (y : Nat) : Nat := (zm_m y).1
def zm_code (y : Nat) : ByteArray := (zm_m y).2.1
def zm_mx (y : Nat) : Nat := (zm_m y).2.2.1
def zm_na (y : Nat) : Nat := (zm_m y).2.2.2.1
def zm_ret (y : Nat) : Nat := (zm_m y).2.2.2.2
def zm_fld (c i : Nat) : Option (Nat × Nat × Nat) := (zm_fldL.getD c []).lookup i
def zm_cal (c i : Nat) : Option (Nat × Nat × Nat × Nat × Nat × Nat) := (zm_calL.getD c []).lookup i
def zm_new (c i : Nat) : Option (Nat × Nat × Nat × Nat) := (zm_newL.getD c []).lookup i
def zm_lng (c i : Nat) : Option (Int × Nat) := (zm_lngL.getD c []).lookup i
/-- a method's rank in the order of the calls; seven of the parser's go by how many brackets are open -/
def zm_rk (y : Nat) (as : List zm_V) : Nat := match zm_rkL.getD y (0, 0) with
  | (b, 0) => b
  | (b, lv) => match as with
    | _ :: .inl z :: _ => b + 10 * (8 - z.toNat) + lv
    | _ => 1000
def zm_text : List Nat := "kind worth size layer child reach feels first best large small likes costs puts purse hour left dips mean or and not all min max ".toList.map Char.toNat
def zm_len : Instr → Option Nat
  | .iload _ | .lload _ | .aload _ | .istore _ | .lstore _ | .astore _ | .bipush _ | .ldc _ | .newarray _ => some 2
  | .iinc _ _ | .sipush _ | .ldc2_w _ | .getfield _ | .putfield _ | .getstatic _ | .new _ | .anewarray _ | .invokevirtual _ | .invokestatic _ | .invokespecial _ | .if_icmp _ _ | .ifCond _ _ | .goto _ => some 3
  | .tableswitch _ _ _ _ | .lookupswitch _ _ => none
  | _ => some 1
def zm_f2 : Instr → Option (Int → Int → Option Int)
  | .iadd => some fun x y => zm_ck (zm_i32 (x + y)) (some (x + y))
  | .isub => some fun x y => zm_ck (zm_i32 (x - y)) (some (x - y))
  | .imul => some fun x y => zm_ck (zm_i32 (x * y)) (some (x * y))
  | .idiv => some fun x y => zm_ck (y ≠ 0 ∧ zm_i32 (x.tdiv y)) (some (x.tdiv y))
  | .irem => some fun x y => zm_ck (y ≠ 0 ∧ zm_i32 (x.tdiv y) ∧ zm_i32 (x.tmod y)) (some (x.tmod y))
  | .iand => some fun x y => some ((Int32.ofInt x &&& Int32.ofInt y).toInt)
  | .ior => some fun x y => some ((Int32.ofInt x ||| Int32.ofInt y).toInt)
  | .ixor => some fun x y => some ((Int32.ofInt x ^^^ Int32.ofInt y).toInt)
  | .ishl => some fun x y => some ((Int32.ofInt x <<< (Int32.ofInt y &&& 31)).toInt)
  | .ishr => some fun x y => some ((Int32.ofInt x >>> (Int32.ofInt y &&& 31)).toInt)
  | .iushr => some fun x y => some (((Int32.ofInt x).toUInt32 >>> ((Int32.ofInt y).toUInt32 &&& Int32.toUInt32 31)).toInt32.toInt)
  | _ => none
def zm_g2 : Instr → Option (Int → Int → Option Int)
  | .ladd => some fun x y => zm_ck (zm_i64 (x + y)) (some (x + y))
  | .lsub => some fun x y => zm_ck (zm_i64 (x - y)) (some (x - y))
  | .lmul => some fun x y => zm_ck (zm_i64 (x * y)) (some (x * y))
  | .ldiv => some fun x y => zm_ck (y ≠ 0 ∧ zm_i64 (x.tdiv y)) (some (x.tdiv y))
  | .lrem => some fun x y => zm_ck (y ≠ 0 ∧ zm_i64 (x.tdiv y) ∧ zm_i64 (x.tmod y)) (some (x.tmod y))
  | .land => some fun x y => some ((Int64.ofInt x &&& Int64.ofInt y).toInt)
  | .lor => some fun x y => some ((Int64.ofInt x ||| Int64.ofInt y).toInt)
  | _ => none
def zm_s2 : Instr → Option (Int → Int → Option Int)
  | .lshl => some fun x y => some ((Int64.ofInt x <<< ((Int32.ofInt y).toInt64 &&& 63)).toInt)
  | .lshr => some fun x y => some ((Int64.ofInt x >>> ((Int32.ofInt y).toInt64 &&& 63)).toInt)
  | _ => none
def zm_cmp (c : Jvm.ClassFile.Cond) (x y : Int) : Bool := match c with
  | .eq => decide (x = y)
  | .ne => decide (¬ x = y)
  | .lt => decide (x < y)
  | .ge => decide (y ≤ x)
  | .gt => decide (y < x)
  | .le => decide (x ≤ y)
def zm_jmp (pc : Nat) (off : Int) (loc stk : List zm_V) (nx : Nat) (h : zm_H) : Option zm_N := zm_ck (0 ≤ (pc : Int) + off) (zm_go ((pc : Int) + off).toNat loc stk nx h)
/-- a local is written: a long that begins just ahead of it is gone -/
def zm_kill (loc : List zm_V) (n : Nat) : List zm_V := if n = 0 then loc else match loc[n - 1]? with
  | some (.inr (.inl _)) => loc.set (n - 1) zm_U
  | _ => loc
def zm_st1 (loc : List zm_V) (n : Nat) (v : zm_V) : List zm_V := (zm_kill loc n).set n v
def zm_st2 (loc : List zm_V) (n : Nat) (v : zm_V) : List zm_V := ((zm_kill loc n).set (n + 1) zm_U).set n v
def zm_rdf (md : Bool) (c k o : Nat) (h : zm_H) : Option zm_V := match zm_ft c k with
  | 0 => some (zm_I (h o k))
  | 1 => some (zm_I (h o k))
  | 2 => some (zm_L (h o k))
  | 3 => zm_ck (md = true ∨ h o k ≠ 0) (some (zm_A (zm_fr o k)))
  | 4 => zm_ck (3 < h o k) (some (zm_A (h o k).toNat))
  | _ => none
def zm_wrf (md : Bool) (y c k o : Nat) (v : zm_V) (nx : Nat) (h : zm_H) : Option zm_H := match zm_ft c k, v with
  | 0, .inl z => some (zm_wr h o k z)
  | 1, .inl z => zm_ck (zm_bit z) (some (zm_wr h o k z))
  | 2, .inr (.inl z) => some (zm_wr h o k z)
  | 3, .inr (.inr (.inl a)) => zm_ck (md = false ∧ a = zm_fr o k ∧ zm_ret y = 4 ∧ c = zm_own y ∧ 3 < a ∧ a < nx) (some (zm_wr h o k 1))
  | 4, .inr (.inr (.inl a)) => zm_ck (3 < a ∧ a < nx) (some (zm_wr h o k a))
  | _, _ => none
def zm_ald (X : Option (Nat × (Int → Int))) (a : Nat) (i : Int) (nx : Nat) (h : zm_H) : Option zm_V :=
  if a = 1 then zm_ck (0 ≤ i ∧ i < 5) (some (zm_I i))
  else if a = 3 then match X with
    | some (n, xs) => zm_ck (0 ≤ i ∧ i < n) (some (zm_I (xs i)))
    | none => none
  else match zm_lay a with
    | .inr (0, n) => zm_ck (3 < a ∧ a < nx ∧ 0 ≤ i ∧ i < n) (some (zm_I (h a i)))
    | _ => none
/-- an array of kind t: may its place i be used -/
def zm_ok (t a : Nat) (i : Int) (nx : Nat) : Prop := 3 < a ∧ a < nx ∧ 0 ≤ i ∧ ∃ n : Nat, zm_lay a = .inr (t, n) ∧ i < n
def zm_okb (t a : Nat) (i : Int) (nx : Nat) : Bool := match zm_lay a with
  | .inr (u, n) => decide (u = t ∧ 3 < a ∧ a < nx ∧ 0 ≤ i ∧ i < n)
  | _ => false
def zm_cats (l : List zm_V) : Nat := (l.map zm_cat).sum
def zm_rcv (y : Nat) (as : List zm_V) (nx : Nat) : Bool := match as with
  | .inr (.inr (.inl b)) :: _ => decide (zm_lay b = .inl (zm_own y) ∧ 3 < b ∧ b < nx)
  | _ => false
/-- a call's own conditions: the receiver's class with a virtual call, ranks fall, few words stay below -/
def zm_call (rk : Nat) (vir : Bool) (y : Nat) (stk : List zm_V) (nx : Nat) : Option zm_N :=
  zm_ck (zm_na y ≤ stk.length ∧ zm_cats (stk.drop (zm_na y)) ≤ 8 ∧ zm_rk y (stk.take (zm_na y)).reverse < rk ∧ (vir = true → zm_rcv y (stk.take (zm_na y)).reverse nx = true))
    (some (.inr (.inr (y, (stk.take (zm_na y)).reverse, stk.drop (zm_na y)))))
/-- one instruction -/
def zm_si (X : Option (Nat × (Int → Int))) (md : Bool) (rk y pc : Nat) (loc stk : List zm_V) (nx : Nat) (h : zm_H) (i : Instr) : Option zm_N :=
  match i with
  | .iload n => match loc[n]? with
    | some (.inl z) => zm_go (pc + 2) loc (zm_I z :: stk) nx h
    | _ => none
  | .iload_n n => match loc[(n : Nat)]? with
    | some (.inl z) => zm_go (pc + 1) loc (zm_I z :: stk) nx h
    | _ => none
  | .lload n => match loc[n]? with
    | some (.inr (.inl z)) => zm_go (pc + 2) loc (zm_L z :: stk) nx h
    | _ => none
  | .lload_n n => match loc[(n : Nat)]? with
    | some (.inr (.inl z)) => zm_go (pc + 1) loc (zm_L z :: stk) nx h
    | _ => none
  | .aload n => match loc[n]? with
    | some (.inr (.inr (.inl a))) => zm_go (pc + 2) loc (zm_A a :: stk) nx h
    | _ => none
  | .aload_n n => match loc[(n : Nat)]? with
    | some (.inr (.inr (.inl a))) => zm_go (pc + 1) loc (zm_A a :: stk) nx h
    | _ => none
  | .istore n => match stk with
    | .inl z :: r => zm_ck (n < loc.length) (zm_go (pc + 2) (zm_st1 loc n (zm_I z)) r nx h)
    | _ => none
  | .istore_n n => match stk with
    | .inl z :: r => zm_ck ((n : Nat) < loc.length) (zm_go (pc + 1) (zm_st1 loc n (zm_I z)) r nx h)
    | _ => none
  | .lstore n => match stk with
    | .inr (.inl z) :: r => zm_ck (n + 1 < loc.length) (zm_go (pc + 2) (zm_st2 loc n (zm_L z)) r nx h)
    | _ => none
  | .lstore_n n => match stk with
    | .inr (.inl z) :: r => zm_ck ((n : Nat) + 1 < loc.length) (zm_go (pc + 1) (zm_st2 loc n (zm_L z)) r nx h)
    | _ => none
  | .astore n => match stk with
    | .inr (.inr (.inl a)) :: r => zm_ck (n < loc.length) (zm_go (pc + 2) (zm_st1 loc n (zm_A a)) r nx h)
    | _ => none
  | .astore_n n => match stk with
    | .inr (.inr (.inl a)) :: r => zm_ck ((n : Nat) < loc.length) (zm_go (pc + 1) (zm_st1 loc n (zm_A a)) r nx h)
    | _ => none
  | .iinc n k => match loc[n]? with
    | some (.inl z) => zm_ck (zm_i32 (z + k) ∧ n < loc.length) (zm_go (pc + 3) (zm_st1 loc n (zm_I (z + k))) stk nx h)
    | _ => none
  | .iconst k => zm_ck (zm_i32 k) (zm_go (pc + 1) loc (zm_I k :: stk) nx h)
  | .bipush k => zm_ck (-128 ≤ k ∧ k < 128) (zm_go (pc + 2) loc (zm_I k :: stk) nx h)
  | .sipush k => zm_ck (-32768 ≤ k ∧ k < 32768) (zm_go (pc + 3) loc (zm_I k :: stk) nx h)
  | .lconst k => zm_go (pc + 1) loc (zm_L ((k : Nat) : Int) :: stk) nx h
  | .ldc2_w ix => match zm_lng (zm_own y) ix with
    | some (z, _) => zm_go (pc + 3) loc (zm_L z :: stk) nx h
    | none => none
  | .ldc ix => zm_ck (zm_own y = 9 ∧ ix = 19) (zm_go (pc + 2) loc (zm_A 2 :: stk) nx h)
  | .dup => match stk with
    | v :: r => zm_ck (zm_cat v = 1) (zm_go (pc + 1) loc (v :: v :: r) nx h)
    | _ => none
  | .dup_x1 => match stk with
    | v :: w :: r => zm_ck (zm_cat v = 1 ∧ zm_cat w = 1) (zm_go (pc + 1) loc (v :: w :: v :: r) nx h)
    | _ => none
  | .dup2 => match stk with
    | v :: r => if zm_cat v = 2 then zm_go (pc + 1) loc (v :: v :: r) nx h else match r with
      | w :: r => zm_ck (zm_cat v = 1 ∧ zm_cat w = 1) (zm_go (pc + 1) loc (v :: w :: v :: w :: r) nx h)
      | _ => none
    | _ => none
  | .pop => match stk with
    | v :: r => zm_ck (zm_cat v = 1) (zm_go (pc + 1) loc r nx h)
    | _ => none
  | .ineg => match stk with
    | .inl z :: r => zm_ck (zm_i32 (-z)) (zm_go (pc + 1) loc (zm_I (-z) :: r) nx h)
    | _ => none
  | .i2l => match stk with
    | .inl z :: r => zm_go (pc + 1) loc (zm_L z :: r) nx h
    | _ => none
  | .l2i => match stk with
    | .inr (.inl z) :: r => zm_ck (zm_i32 z) (zm_go (pc + 1) loc (zm_I z :: r) nx h)
    | _ => none
  | .lcmp => match stk with
    | .inr (.inl z) :: .inr (.inl x) :: r => zm_go (pc + 1) loc (zm_I (if x < z then -1 else if x = z then 0 else 1) :: r) nx h
    | _ => none
  | .if_icmp c off => match stk with
    | .inl z :: .inl x :: r => zm_ck (0 ≤ (pc : Int) + off) (if zm_cmp c x z = true then zm_go ((pc : Int) + off).toNat loc r nx h else zm_go (pc + 3) loc r nx h)
    | _ => none
  | .ifCond c off => match stk with
    | .inl x :: r => zm_ck (0 ≤ (pc : Int) + off) (if zm_cmp c x 0 = true then zm_go ((pc : Int) + off).toNat loc r nx h else zm_go (pc + 3) loc r nx h)
    | _ => none
  | .goto off => zm_jmp pc off loc stk nx h
  | .tableswitch d lo hi offs => match stk with
    | .inl x :: r => if x < lo ∨ hi < x then zm_jmp pc d loc r nx h else match offs[(x - lo).toNat]? with
      | some off => zm_jmp pc off loc r nx h
      | none => none
    | _ => none
  | .lookupswitch d ps => match stk with
    | .inl x :: r => zm_ck ((ps.toList.zip (ps.toList.drop 1)).all (fun (a, next) => a.1 < next.1) = true) (zm_jmp pc (Op.lookupswitch.offset ps.toList d x) loc r nx h)
    | _ => none
  | .getfield ix => match stk with
    | .inr (.inr (.inl o)) :: r => match zm_fld (zm_own y) ix with
      | some (c, k, _) => zm_ck (zm_lay o = .inl c ∧ 3 < o ∧ o < nx) ((zm_rdf md c k o h).bind fun v => zm_go (pc + 3) loc (v :: r) nx h)
      | none => none
    | _ => none
  | .putfield ix => match stk with
    | v :: .inr (.inr (.inl o)) :: r => match zm_fld (zm_own y) ix with
      | some (c, k, _) => zm_ck (zm_lay o = .inl c ∧ 3 < o ∧ o < nx) ((zm_wrf md y c k o v nx h).bind fun g => zm_go (pc + 3) loc r nx g)
      | none => none
    | _ => none
  | .getstatic ix => zm_ck (zm_own y = 0 ∧ ix = 330) (zm_go (pc + 3) loc (zm_A 1 :: stk) nx h)
  | .iaload => match stk with
    | .inl i :: .inr (.inr (.inl a)) :: r => (zm_ald X a i nx h).bind fun v => zm_go (pc + 1) loc (v :: r) nx h
    | _ => none
  | .laload => match stk with
    | .inl i :: .inr (.inr (.inl a)) :: r => zm_ck (zm_okb 1 a i nx = true) (zm_go (pc + 1) loc (zm_L (h a i) :: r) nx h)
    | _ => none
  | .baload => match stk with
    | .inl i :: .inr (.inr (.inl a)) :: r => zm_ck (zm_okb 2 a i nx = true) (zm_go (pc + 1) loc (zm_I (h a i) :: r) nx h)
    | _ => none
  | .aaload => match stk with
    | .inl i :: .inr (.inr (.inl a)) :: r => zm_ck (zm_okb 3 a i nx = true ∧ (md = true ∨ h a i ≠ 0)) (zm_go (pc + 1) loc (zm_A (zm_fr a i.toNat) :: r) nx h)
    | _ => none
  | .iastore => match stk with
    | .inl z :: .inl i :: .inr (.inr (.inl a)) :: r => zm_ck (zm_okb 0 a i nx = true) (zm_go (pc + 1) loc r nx (zm_wr h a i z))
    | _ => none
  | .lastore => match stk with
    | .inr (.inl z) :: .inl i :: .inr (.inr (.inl a)) :: r => zm_ck (zm_okb 1 a i nx = true) (zm_go (pc + 1) loc r nx (zm_wr h a i z))
    | _ => none
  | .bastore => match stk with
    | .inl z :: .inl i :: .inr (.inr (.inl a)) :: r => zm_ck (zm_okb 2 a i nx = true ∧ zm_bit z) (zm_go (pc + 1) loc r nx (zm_wr h a i z))
    | _ => none
  | .aastore => match stk with
    | .inr (.inr (.inl b)) :: .inl i :: .inr (.inr (.inl a)) :: r => zm_ck (zm_okb 3 a i nx = true ∧ md = false ∧ b = zm_fr a i.toNat ∧ zm_lay b = .inl 11 ∧ 3 < b ∧ b < nx) (zm_go (pc + 1) loc r nx (zm_wr h a i 1))
    | _ => none
  | .arraylength => match stk with
    | .inr (.inr (.inl a)) :: r => if a = 3 then match X with
        | some (n, _) => zm_go (pc + 1) loc (zm_I n :: r) nx h
        | none => none
      else match zm_lay a with
        | .inr (t, n) => zm_ck (t ≤ 3 ∧ 3 < a ∧ a < nx) (zm_go (pc + 1) loc (zm_I n :: r) nx h)
        | _ => none
    | _ => none
  | .new ix => match zm_new (zm_own y) ix with
    | some (c, _) => zm_ck (md = false ∧ zm_lay nx = .inl c) (zm_go (pc + 3) loc (zm_A nx :: stk) (nx + 1) (zm_zr h nx))
    | none => none
  | .newarray t => match stk with
    | .inl z :: r => match zm_lay nx with
      | .inr (u, n) => zm_ck (md = false ∧ z = n ∧ ((u = 0 ∧ t = .int) ∨ (u = 1 ∧ t = .long) ∨ (u = 2 ∧ t = .boolean))) (zm_go (pc + 2) loc (zm_A nx :: r) (nx + 1) (zm_zr h nx))
      | _ => none
    | _ => none
  | .anewarray ix => match stk with
    | .inl z :: r => match zm_lay nx with
      | .inr (u, n) => zm_ck (md = false ∧ z = n ∧ u = 3 ∧ zm_own y = 3 ∧ ix = 9) (zm_go (pc + 3) loc (zm_A nx :: r) (nx + 1) (zm_zr h nx))
      | _ => none
    | _ => none
  | .invokevirtual ix => match zm_cal (zm_own y) ix with
    | some (0, q, _) => zm_call rk true q stk nx
    | some (6, _) => match stk with
      | .inr (.inr (.inl 2)) :: r => zm_ck (zm_cats r ≤ 8) (zm_go (pc + 3) loc (zm_I zm_text.length :: r) nx h)
      | _ => none
    | some (7, _) => match stk with
      | .inl i :: .inr (.inr (.inl 2)) :: r => zm_ck (0 ≤ i ∧ zm_cats r ≤ 8) (match zm_text[i.toNat]? with
        | some ch => zm_go (pc + 3) loc (zm_I ch :: r) nx h
        | none => none)
      | _ => none
    | _ => none
  | .invokestatic ix => match zm_cal (zm_own y) ix with
    | some (1, q, _) => zm_call rk false q stk nx
    | some (3, q, _) => zm_call rk false q stk nx
    | some (8, _) => match stk with
      | .inl z :: .inl x :: r => zm_ck (zm_cats r ≤ 8 ∧ 1 ≤ rk) (zm_go (pc + 3) loc (zm_I (min x z) :: r) nx h)
      | _ => none
    | some (9, _) => match stk with
      | .inl z :: .inl x :: r => zm_ck (zm_cats r ≤ 8 ∧ 1 ≤ rk) (zm_go (pc + 3) loc (zm_I (max x z) :: r) nx h)
      | _ => none
    | some (10, _) => match stk with
      | .inr (.inl z) :: .inr (.inl x) :: r => zm_ck (zm_cats r ≤ 8 ∧ 1 ≤ rk) (zm_go (pc + 3) loc (zm_L (min x z) :: r) nx h)
      | _ => none
    | some (11, _) => match stk with
      | .inr (.inl z) :: .inr (.inl x) :: r => zm_ck (zm_cats r ≤ 8 ∧ 1 ≤ rk) (zm_go (pc + 3) loc (zm_L (max x z) :: r) nx h)
      | _ => none
    | some (12, _) => match stk with
      | .inl z :: .inl x :: r => zm_ck (zm_cats r ≤ 8 ∧ 1 ≤ rk ∧ z ≠ 0 ∧ -1000000000 ≤ x ∧ x ≤ 1000000000) (zm_go (pc + 3) loc (zm_I (x.fdiv z) :: r) nx h)
      | _ => none
    | some (13, _) => match stk with
      | .inl z :: .inl x :: r => zm_ck (zm_cats r ≤ 8 ∧ 1 ≤ rk ∧ z ≠ 0 ∧ -1000000000 ≤ x ∧ x ≤ 1000000000) (zm_go (pc + 3) loc (zm_I (x.fmod z) :: r) nx h)
      | _ => none
    | _ => none
  | .invokespecial ix => match zm_cal (zm_own y) ix with
    | some (2, q, _) => zm_call rk true q stk nx
    | some (4, q, _) => zm_call rk true q stk nx
    | some (5, _) => match stk with
      | .inr (.inr (.inl _)) :: r => zm_ck (zm_cats r ≤ 8 ∧ 1 ≤ rk) (zm_go (pc + 3) loc r nx h)
      | _ => none
    | _ => none
  | .ireturn => match stk with
    | [.inl z] => zm_ck (zm_ret y = 0 ∨ (zm_ret y = 1 ∧ zm_bit z)) (some (.inr (.inl (zm_I z))))
    | _ => none
  | .lreturn => match stk with
    | [.inr (.inl z)] => zm_ck (zm_ret y = 2) (some (.inr (.inl (zm_L z))))
    | _ => none
  | .return_ => match stk with
    | [] => zm_ck (zm_ret y = 3 ∨ zm_ret y = 4) (some (.inr (.inl zm_U)))
    | _ => none
  | i => match stk with
    | .inl z :: .inl x :: r => match zm_f2 i with
      | some f => (f x z).bind fun v => zm_go (pc + 1) loc (zm_I v :: r) nx h
      | none => none
    | .inr (.inl z) :: .inr (.inl x) :: r => match zm_g2 i with
      | some f => (f x z).bind fun v => zm_go (pc + 1) loc (zm_L v :: r) nx h
      | none => none
    | .inl z :: .inr (.inl x) :: r => match zm_s2 i with
      | some f => (f x z).bind fun v => zm_go (pc + 1) loc (zm_L v :: r) nx h
      | none => none
    | _ => none
def zm_sup : Instr → Bool
  | .iload _ => true
  | .iload_n _ => true
  | .lload _ => true
  | .lload_n _ => true
  | .aload _ => true
  | .aload_n _ => true
  | .istore _ => true
  | .istore_n _ => true
  | .lstore _ => true
  | .lstore_n _ => true
  | .astore _ => true
  | .astore_n _ => true
  | .iinc _ _ => true
  | .iconst _ => true
  | .bipush _ => true
  | .sipush _ => true
  | .lconst _ => true
  | .ldc2_w _ => true
  | .ldc _ => true
  | .dup => true
  | .dup_x1 => true
  | .dup2 => true
  | .pop => true
  | .ineg => true
  | .i2l => true
  | .l2i => true
  | .lcmp => true
  | .if_icmp _ _ => true
  | .ifCond _ _ => true
  | .goto _ => true
  | .tableswitch _ _ _ _ => true
  | .lookupswitch _ _ => true
  | .getfield _ => true
  | .putfield _ => true
  | .getstatic _ => true
  | .iaload => true
  | .laload => true
  | .baload => true
  | .aaload => true
  | .iastore => true
  | .lastore => true
  | .bastore => true
  | .aastore => true
  | .arraylength => true
  | .new _ => true
  | .newarray _ => true
  | .anewarray _ => true
  | .invokevirtual _ => true
  | .invokestatic _ => true
  | .invokespecial _ => true
  | .ireturn => true
  | .lreturn => true
  | .return_ => true
  | .iadd => true
  | .isub => true
  | .imul => true
  | .idiv => true
  | .irem => true
  | .iand => true
  | .ior => true
  | .ixor => true
  | .ishl => true
  | .ishr => true
  | .iushr => true
  | .ladd => true
  | .lsub => true
  | .lmul => true
  | .ldiv => true
  | .lrem => true
  | .land => true
  | .lor => true
  | .lshl => true
  | .lshr => true
  | _ => false
def zm_kd : Instr → Nat
  | .ireturn | .lreturn | .return_ => 1
  | .invokevirtual _ | .invokestatic _ | .invokespecial _ => 2
  | _ => 0
/-- returns return, invokes call -/
def zm_fl (i : Instr) (x : Option zm_N) : Option zm_N := match x with
  | some (.inr (.inl v)) => zm_ck (zm_kd i = 1) (some (.inr (.inl v)))
  | some (.inr (.inr q)) => zm_ck (zm_kd i = 2) (some (.inr (.inr q)))
  | some (.inl g) => some (.inl g)
  | none => none
def zm_step (X : Option (Nat × (Int → Int))) (md : Bool) (rk y pc : Nat) (loc stk : List zm_V) (nx : Nat) (h : zm_H) : Option zm_N :=
  match decode (zm_code y) pc with
  | .ok (i, len) => zm_ck ((zm_len i = none ∨ zm_len i = some len) ∧ zm_sup i = true) (zm_fl i (zm_si X md rk y pc loc stk nx h i))
  | .error _ => none
/-- the locals at a method's entry: a long takes two places -/
def zm_two (as : List zm_V) : List zm_V := as.flatMap fun v => if zm_cat v = 2 then [v, zm_U] else [v]
def zm_ini (y : Nat) (as : List zm_V) : List zm_V := zm_two as ++ List.replicate (zm_mx y - (zm_two as).length) zm_U
def zm_push (v : zm_V) (r : List zm_V) : List zm_V := if zm_cat v = 0 then r else v :: r
def zm_ex (X : Option (Nat × (Int → Int))) (md : Bool) : Nat → Nat → Nat → Nat → List zm_V → List zm_V → Nat × zm_H → Option (zm_V × Nat × zm_H)
  | 0, _, _, _, _, _, _ => none
  | f + 1, rk, y, pc, loc, stk, S => match zm_step X md rk y pc loc stk S.1 S.2 with
    | none => none
    | some (.inl (pc', loc', stk', S')) => zm_ck (S.1 ≤ S'.1 ∧ (md = true → S'.1 = S.1)) (zm_ex X md f rk y pc' loc' stk' S')
    | some (.inr (.inl v)) => some (v, S)
    | some (.inr (.inr (q, as, r))) => zm_ck ((zm_ini q as).length = zm_mx q) (match zm_ex none md f (zm_rk q as) q 0 (zm_ini q as) [] S with
      | none => none
      | some (v, S') => zm_ex X md f rk y (pc + 3) loc (zm_push v r) S')

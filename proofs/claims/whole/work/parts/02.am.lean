/-! THE ABSTRACT MACHINE: a small interpreter over abstract cells; part 03 proves that the real machine follows it. A state: kind and length of each cell, its whole numbers, its references, its longs, and three counts (next cell, cells made, slots made). Kinds: 0 nothing known, 1 int[], 2 long[], 3 String[], 4 Palette[], 5 the script, 6 a constant text, 10 + c an object of class c of vwCl. -/
abbrev aSt : Type := (Nat → Nat × Nat) × (Nat → Nat → Int32) × (Nat → Nat → Option Nat) × (Nat → Nat → Int64) × (Nat × Nat × Nat)
abbrev aCfg : Type := Nat × List (Option Value) × List Value × aSt
abbrev aRes : Type := Option Value ⊕ Nat
abbrev aAct : Type := aCfg ⊕ ((aRes × aSt) ⊕ (Nat × List Value × aCfg))
abbrev aRef : Type := Nat × Nat × Nat
abbrev aOp : Type := Instr × Nat × aRef × Int32 × Nat
abbrev aCode : Type := List (Nat × aOp)
def a_kd (σ : aSt) (a : Nat) : Nat := (σ.1 a).1
def a_ln (σ : aSt) (a : Nat) : Nat := (σ.1 a).2
def a_I (σ : aSt) (a k : Nat) : Int32 := σ.2.1 a k
def a_R (σ : aSt) (a k : Nat) : Option Nat := σ.2.2.1 a k
def a_L (σ : aSt) (a k : Nat) : Int64 := σ.2.2.2.1 a k
def a_n (σ : aSt) : Nat := σ.2.2.2.2.1
def a_uc (σ : aSt) : Nat := σ.2.2.2.2.2.1
def a_us (σ : aSt) : Nat := σ.2.2.2.2.2.2
def a_setI (σ : aSt) (a k : Nat) (v : Int32) : aSt := (σ.1, fun b j => if b = a ∧ j = k then v else σ.2.1 b j, σ.2.2)
def a_setR (σ : aSt) (a k : Nat) (v : Option Nat) : aSt := (σ.1, σ.2.1, fun b j => if b = a ∧ j = k then v else σ.2.2.1 b j, σ.2.2.2)
def a_setL (σ : aSt) (a k : Nat) (v : Int64) : aSt := (σ.1, σ.2.1, σ.2.2.1, fun b j => if b = a ∧ j = k then v else σ.2.2.2.1 b j, σ.2.2.2.2)
/-- a new cell, all zero; us more slots -/
def a_new (σ : aSt) (kd ln us : Nat) : aSt := (fun b => if b = a_n σ then (kd, ln) else σ.1 b, fun b j => if b = a_n σ then 0 else σ.2.1 b j, fun b j => if b = a_n σ then none else σ.2.2.1 b j, fun b j => if b = a_n σ then 0 else σ.2.2.2.1 b j, (a_n σ + 1, a_uc σ + 1, a_us σ + us))
/-- an exception was made: one cell that is not told -/
def a_made (σ : aSt) : aSt := (σ.1, σ.2.1, σ.2.2.1, σ.2.2.2.1, (a_n σ, a_uc σ + 1, a_us σ + 6))
/-- a name for a cell of which nothing is known -/
def a_name (σ : aSt) : aSt := (σ.1, σ.2.1, σ.2.2.1, σ.2.2.2.1, (a_n σ + 1, a_uc σ, a_us σ))
def a_rf : Option Nat → Value | none => .null | some a => .ref a
def a_go (pc : Nat) (L : List (Option Value)) (st : List Value) (σ : aSt) : Option aAct := some (.inl (pc, L, st, σ))
def a_rt (r : aRes) (σ : aSt) : Option aAct := some (.inr (.inl (r, σ)))
def a_c1 (o : Option Value) : Bool := match o with | some v => v.category == 1 | none => true
abbrev a_in (i : Int32) (n : Nat) : Prop := ¬ i < 0 ∧ i.toNatClampNeg < n
/-- storing in a local: of one place, of two -/
def a_st1 (L : List (Option Value)) (i : Nat) (v : Value) : Option (List (Option Value)) := if i < L.length ∧ (i = 0 ∨ a_c1 (L.getD (i - 1) none) = true) then some (L.set i (some v)) else none
def a_st2 (L : List (Option Value)) (i : Nat) (v : Value) : Option (List (Option Value)) := if i + 1 < L.length ∧ (i = 0 ∨ a_c1 (L.getD (i - 1) none) = true) then some ((L.set i (some v)).set (i + 1) none) else none
def a_sto (pc : Nat) (o : Option (List (Option Value))) (st : List Value) (σ : aSt) : Option aAct := match o with | some L => a_go pc L st σ | none => none
def a_ldI (pc : Nat) (L : List (Option Value)) (i : Nat) (st : List Value) (σ : aSt) : Option aAct := match L.getD i none with | some (.int x) => a_go pc L (.int x :: st) σ | _ => none
def a_ldA (pc : Nat) (L : List (Option Value)) (i : Nat) (st : List Value) (σ : aSt) : Option aAct := match L.getD i none with | some (.ref x) => a_go pc L (.ref x :: st) σ | some .null => a_go pc L (.null :: st) σ | _ => none
def a_ldL (pc : Nat) (L : List (Option Value)) (i : Nat) (st : List Value) (σ : aSt) : Option aAct := match L.getD i none with | some (.long x) => a_go pc L (.long x :: st) σ | _ => none
def a_ldD (pc : Nat) (L : List (Option Value)) (i : Nat) (st : List Value) (σ : aSt) : Option aAct := match L.getD i none with | some (.double x) => a_go pc L (.double x :: st) σ | _ => none
def a_stI (pc : Nat) (L : List (Option Value)) (i : Nat) (st : List Value) (σ : aSt) : Option aAct := match st with | .int x :: st => a_sto pc (a_st1 L i (.int x)) st σ | _ => none
def a_stA (pc : Nat) (L : List (Option Value)) (i : Nat) (st : List Value) (σ : aSt) : Option aAct := match st with | .ref x :: st => a_sto pc (a_st1 L i (.ref x)) st σ | .null :: st => a_sto pc (a_st1 L i .null) st σ | _ => none
def a_stD (pc : Nat) (L : List (Option Value)) (i : Nat) (st : List Value) (σ : aSt) : Option aAct := match st with | .double x :: st => a_sto pc (a_st2 L i (.double x)) st σ | _ => none
def a_binI (f : Int32 → Int32 → Int32) (pc : Nat) (L : List (Option Value)) (st : List Value) (σ : aSt) : Option aAct := match st with | .int y :: .int x :: st => a_go pc L (.int (f x y) :: st) σ | _ => none
def a_binL (f : Int64 → Int64 → Int64) (pc : Nat) (L : List (Option Value)) (st : List Value) (σ : aSt) : Option aAct := match st with | .long y :: .long x :: st => a_go pc L (.long (f x y) :: st) σ | _ => none
def a_div (f : Int32 → Int32 → Int32) (pc : Nat) (L : List (Option Value)) (st : List Value) (σ : aSt) : Option aAct := match st with | .int y :: .int x :: st => if y = 0 then none else a_go pc L (.int (f x y) :: st) σ | _ => none
def a_cmp (c : Jvm.ClassFile.Cond) (x y : Int32) : Bool := match c with | .eq => decide (x = y) | .ne => decide (¬ x = y) | .lt => decide (x < y) | .ge => decide (y ≤ x) | .gt => decide (y < x) | .le => decide (x ≤ y)
def a_br (b : Bool) (tgt pc : Nat) (L : List (Option Value)) (st : List Value) (σ : aSt) : Option aAct := a_go (if b then tgt else pc) L st σ
/-- the texts that are loaded, and the row of digits, as bytes; their names: 60 the digits, 60 + s the bytes of the text s -/
def a_txt : Nat → List Nat
  | 1 => [112, 97, 108, 101, 116, 116, 101]
  | 2 => [116, 117, 98, 101]
  | 3 => [98, 114, 117, 115, 104, 101, 115]
  | 4 => [109, 111, 115, 116]
  | 5 => [116, 111, 108, 101, 114, 97, 110, 99, 101]
  | 6 => [109, 105, 120]
  | 7 => [109, 97, 110, 121]
  | 8 => [102, 105, 114, 115, 116]
  | 9 => [97, 110, 100]
  | 10 => [111, 114]
  | 11 => [110, 111, 116]
  | 12 => [116, 117, 98, 101, 115]
  | 13 => [112, 97, 114, 116, 115]
  | 14 => [114, 101, 100]
  | 15 => [103, 114, 101, 101, 110]
  | 16 => [98, 108, 117, 101]
  | 17 => [98, 114, 111, 107, 101, 110]
  | 18 => [115, 116, 114, 111, 107, 101, 115]
  | _ => []
def a_tbl (a : Nat) : List Nat := if a = 60 then (List.range 100).map (fun i => 48 + i % 10) else a_txt (a - 60)
/-- a field of a kind: 0 int, 1 reference, 2 boolean -/
def a_get (pc : Nat) (r : aRef) (L : List (Option Value)) (st : List Value) (σ : aSt) : Option aAct := match st with
  | .ref a :: st => if a_kd σ a = 10 + r.1 then (if r.2.2 = 1 then a_go pc L (a_rf (a_R σ a r.2.1) :: st) σ else a_go pc L (.int (a_I σ a r.2.1) :: st) σ) else if a_kd σ a = 6 ∧ 1 ≤ a ∧ a ≤ 18 ∧ r.1 = 0 ∧ r.2.1 < 2 then (if r.2.1 = 0 then a_go pc L (.ref (60 + a) :: st) σ else a_go pc L (.int 0 :: st) σ) else none
  | _ => none
def a_put (pc : Nat) (r : aRef) (L : List (Option Value)) (st : List Value) (σ : aSt) : Option aAct := match st with
  | .int x :: .ref a :: st => if a_kd σ a = 10 + r.1 ∧ 100 ≤ a ∧ (r.2.2 = 0 ∨ (r.2.2 = 2 ∧ (x = 0 ∨ x = 1))) then a_go pc L st (a_setI σ a r.2.1 x) else none
  | .ref x :: .ref a :: st => if a_kd σ a = 10 + r.1 ∧ 100 ≤ a ∧ r.2.2 = 1 then a_go pc L st (a_setR σ a r.2.1 (some x)) else none
  | _ => none
def a_tsw (pc : Nat) (dflt lo hi : Int) (offs : Array Int) (L : List (Option Value)) (st : List Value) (σ : aSt) : Option aAct := match st with
  | .int x :: st => if x.toInt < lo ∨ hi < x.toInt then a_go ((pc : Int) + dflt).toNat L st σ else match offs[(x.toInt - lo).toNat]? with | some o => a_go ((pc : Int) + o).toNat L st σ | none => none
  | _ => none
/-- the operands of a call, the receiver among them -/
def a_inv (pc k n : Nat) (L : List (Option Value)) (st : List Value) (σ : aSt) : Option aAct :=
  if n ≤ st.length ∧ ((st.drop n).map fun v => v.category).sum ≤ 8 then some (.inr (.inr (k, (st.take n).reverse, (pc, L, st.drop n, σ)))) else none
def a_exec (i : Instr) (len : Nat) (r : aRef) (z : Int32) (tgt : Nat) (pc : Nat) (L : List (Option Value)) (st : List Value) (σ : aSt) : Option aAct :=
  match i with
  | .iconst _ | .bipush _ | .sipush _ => a_go (pc + len) L (.int z :: st) σ
  | .ldc _ | .ldc_w _ => if r.1 = 0 then a_go (pc + len) L (.int z :: st) σ else a_go (pc + len) L (.ref r.2.1 :: st) σ
  | .ldc2_w _ => a_go (pc + len) L (.long z.toInt64 :: st) σ
  | .lconst n => a_go (pc + len) L (.long (Int64.ofNat n) :: st) σ
  | .fconst n => if n = 0 then a_go (pc + len) L (.float FP.fconst0 :: st) σ else none
  | .dconst n => if n = 0 then a_go (pc + len) L (.double FP.dconst0 :: st) σ else none
  | .aconst_null => a_go (pc + len) L (.null :: st) σ
  | .iload i => a_ldI (pc + len) L i st σ
  | .iload_n i => a_ldI (pc + len) L i st σ
  | .aload i => a_ldA (pc + len) L i st σ
  | .aload_n i => a_ldA (pc + len) L i st σ
  | .lload_n i => a_ldL (pc + len) L i st σ
  | .dload i => a_ldD (pc + len) L i st σ
  | .istore i => a_stI (pc + len) L i st σ
  | .istore_n i => a_stI (pc + len) L i st σ
  | .astore i => a_stA (pc + len) L i st σ
  | .astore_n i => a_stA (pc + len) L i st σ
  | .dstore i => a_stD (pc + len) L i st σ
  | .iinc i _ => match L.getD i none with | some (.int x) => a_sto (pc + len) (a_st1 L i (.int (x + z))) st σ | _ => none
  | .iadd => a_binI (fun x y => x + y) (pc + len) L st σ
  | .isub => a_binI (fun x y => x - y) (pc + len) L st σ
  | .imul => a_binI (fun x y => x * y) (pc + len) L st σ
  | .iand => a_binI (fun x y => x &&& y) (pc + len) L st σ
  | .ior => a_binI (fun x y => x ||| y) (pc + len) L st σ
  | .ixor => a_binI (fun x y => x ^^^ y) (pc + len) L st σ
  | .ishl => a_binI (fun x y => x <<< (y &&& 31)) (pc + len) L st σ
  | .ishr => a_binI (fun x y => x >>> (y &&& 31)) (pc + len) L st σ
  | .idiv => a_div (fun x y => x / y) (pc + len) L st σ
  | .irem => a_div (fun x y => x - x / y * y) (pc + len) L st σ
  | .iushr => a_binI (fun x y => (x.toUInt32 >>> (y.toUInt32 &&& Int32.toUInt32 31)).toInt32) (pc + len) L st σ
  | .ineg => match st with | .int x :: st => a_go (pc + len) L (.int (-x) :: st) σ | _ => none
  | .ladd => a_binL (fun x y => x + y) (pc + len) L st σ
  | .lsub => a_binL (fun x y => x - y) (pc + len) L st σ
  | .lmul => a_binL (fun x y => x * y) (pc + len) L st σ
  | .land => a_binL (fun x y => x &&& y) (pc + len) L st σ
  | .lor => a_binL (fun x y => x ||| y) (pc + len) L st σ
  | .i2l => match st with | .int x :: st => a_go (pc + len) L (.long x.toInt64 :: st) σ | _ => none
  | .l2i => match st with | .long x :: st => a_go (pc + len) L (.int x.toInt32 :: st) σ | _ => none
  | .i2c => match st with | .int x :: st => a_go (pc + len) L (.int (x.toUInt32 % 65536).toInt32 :: st) σ | _ => none
  | .i2b => match st with | .int x :: st => a_go (pc + len) L (.int x.toInt8.toInt32 :: st) σ | _ => none
  | .i2d => match st with | .int x :: st => a_go (pc + len) L (.double (FP.i2d x) :: st) σ | _ => none
  | .i2f => match st with | .int x :: st => a_go (pc + len) L (.float (FP.i2f x) :: st) σ | _ => none
  | .lcmp => match st with | .long y :: .long x :: st => a_go (pc + len) L (.int (lg_cmp x y) :: st) σ | _ => none
  | .dcmp op => match st with | .double y :: .double x :: st => a_go (pc + len) L (.int (Op.cmpValue (FP.dcmp x y) op) :: st) σ | _ => none
  | .ifCond c _ => match st with | .int x :: st => a_br (a_cmp c x 0) tgt (pc + len) L st σ | _ => none
  | .if_icmp c _ => match st with | .int y :: .int x :: st => a_br (a_cmp c x y) tgt (pc + len) L st σ | _ => none
  | .ifnonnull _ => match st with | .ref _ :: st => a_go tgt L st σ | .null :: st => a_go (pc + len) L st σ | _ => none
  | .ifnull _ => match st with | .ref _ :: st => a_go (pc + len) L st σ | .null :: st => a_go tgt L st σ | _ => none
  | .goto _ => a_go tgt L st σ
  | .tableswitch d lo hi offs => a_tsw pc d lo hi offs L st σ
  | .dup => match st with | v :: st => if v.category = 1 then a_go (pc + len) L (v :: v :: st) σ else none | _ => none
  | .dup_x1 => match st with | v :: w :: st => if v.category = 1 ∧ w.category = 1 then a_go (pc + len) L (v :: w :: v :: st) σ else none | _ => none
  | .dup2 => match st with | v :: w :: st => if v.category = 1 ∧ w.category = 1 then a_go (pc + len) L (v :: w :: v :: w :: st) σ else none | _ => none
  | .pop => match st with | v :: st => if v.category = 1 then a_go (pc + len) L st σ else none | _ => none
  | .getstatic _ => if r.1 = 0 then a_go (pc + len) L (.int z :: st) σ else if r.1 = 2 then a_go (pc + len) L (.null :: st) σ else if r.2.1 < 100 then a_go (pc + len) L (.ref r.2.1 :: st) σ else none
  | .getfield _ => a_get (pc + len) r L st σ
  | .putfield _ => a_put (pc + len) r L st σ
  | .arraylength => match st with | .ref a :: st => if 1 ≤ a_kd σ a ∧ a_kd σ a ≤ 5 ∧ a_ln σ a < 2147483648 then a_go (pc + len) L (.int (Int32.ofNat (a_ln σ a)) :: st) σ else if a_kd σ a = 7 ∧ a_ln σ a < 2147483648 then a_go (pc + len) L (.int (Int32.ofNat (a_ln σ a)) :: st) σ else if 60 ≤ a ∧ a ≤ 78 then a_go (pc + len) L (.int (Int32.ofNat (a_tbl a).length) :: st) σ else none | _ => none
  | .iaload => match st with | .int i :: .ref a :: st => if (a_kd σ a = 1 ∨ a_kd σ a = 5) ∧ a_in i (a_ln σ a) then a_go (pc + len) L (.int (a_I σ a i.toNatClampNeg) :: st) σ else none | _ => none
  | .baload => match st with | .int i :: .ref a :: st => if 60 ≤ a ∧ a ≤ 78 ∧ a_in i (a_tbl a).length then a_go (pc + len) L (.int (Int32.ofNat ((a_tbl a).getD i.toNatClampNeg 0)) :: st) σ else if a_kd σ a = 7 ∧ a_in i (a_ln σ a) then a_go (pc + len) L (.int (a_I σ a i.toNatClampNeg) :: st) σ else none | _ => none
  | .laload => match st with | .int i :: .ref a :: st => if a_kd σ a = 2 ∧ a_in i (a_ln σ a) then a_go (pc + len) L (.long (a_L σ a i.toNatClampNeg) :: st) σ else none | _ => none
  | .aaload => match st with | .int i :: .ref a :: st => if (a_kd σ a = 3 ∨ a_kd σ a = 4) ∧ a_in i (a_ln σ a) then a_go (pc + len) L (a_rf (a_R σ a i.toNatClampNeg) :: st) σ else none | _ => none
  | .iastore => match st with | .int x :: .int i :: .ref a :: st => if a_kd σ a = 1 ∧ 100 ≤ a ∧ a_in i (a_ln σ a) then a_go (pc + len) L st (a_setI σ a i.toNatClampNeg x) else none | _ => none
  | .bastore => match st with | .int x :: .int i :: .ref a :: st => if a_kd σ a = 7 ∧ 100 ≤ a ∧ a_in i (a_ln σ a) then a_go (pc + len) L st (a_setI σ a i.toNatClampNeg (vp_nar .byte x)) else none | _ => none
  | .lastore => match st with | .long x :: .int i :: .ref a :: st => if a_kd σ a = 2 ∧ 100 ≤ a ∧ a_in i (a_ln σ a) then a_go (pc + len) L st (a_setL σ a i.toNatClampNeg x) else none | _ => none
  | .aastore => match st with | .ref x :: .int i :: .ref a :: st => if ((a_kd σ a = 3 ∧ a_kd σ x = 6) ∨ (a_kd σ a = 4 ∧ a_kd σ x = 13)) ∧ 100 ≤ a ∧ a_in i (a_ln σ a) then a_go (pc + len) L st (a_setR σ a i.toNatClampNeg (some x)) else none | _ => none
  | .new _ => if r.2.2 = 0 then a_go (pc + len) L (.ref (a_n σ) :: st) (a_new σ (10 + r.1) r.2.1 r.2.1) else if (st.map fun v => v.category).sum ≤ 8 then a_rt (.inr r.1) (a_made σ) else none
  | .newarray _ => match st with | .int n :: st => if ¬ n < 0 ∧ n.toNatClampNeg ≤ 65536 then a_go (pc + len) L (.ref (a_n σ) :: st) (a_new σ r.1 n.toNatClampNeg n.toNatClampNeg) else none | _ => none
  | .anewarray _ => match st with | .int n :: st => if ¬ n < 0 ∧ n.toNatClampNeg ≤ 65536 then a_go (pc + len) L (.ref (a_n σ) :: st) (a_new σ r.1 n.toNatClampNeg n.toNatClampNeg) else none | _ => none
  | .invokevirtual _ => if r.2.2 = 0 then a_inv (pc + len) r.1 r.2.1 L st σ else (match st[r.2.1 - 1]? with | some (.ref b) => if a_kd σ b = r.2.2 then a_inv (pc + len) r.1 r.2.1 L st σ else none | _ => none)
  | .invokestatic _ => a_inv (pc + len) r.1 r.2.1 L st σ
  | .invokespecial _ => if r.2.2 = 0 then (match st with | .ref _ :: st => if (st.map fun v => v.category).sum ≤ 8 then a_go (pc + len) L st σ else none | _ => none) else (match st[r.2.1 - 1]? with | some (.ref b) => if r.2.2 < 10 ∨ a_kd σ b = r.2.2 then a_inv (pc + len) r.1 r.2.1 L st σ else none | _ => none)
  | .ireturn => match st with | [.int x] => if r.1 = 0 ∨ (r.1 = 1 ∧ (x = 0 ∨ x = 1)) ∨ (r.1 = 2 ∧ narrow .char (.int x) = .int x) then a_rt (.inl (some (.int x))) σ else none | _ => none
  | .lreturn => match st with | [.long x] => a_rt (.inl (some (.long x))) σ | _ => none
  | .dreturn => match st with | [.double x] => a_rt (.inl (some (.double x))) σ | _ => none
  | .freturn => match st with | [.float x] => a_rt (.inl (some (.float x))) σ | _ => none
  | .areturn => match st with | [.ref x] => a_rt (.inl (some (.ref x))) σ | [.null] => a_rt (.inl (some .null)) σ | _ => none
  | .return_ => match st with | [] => a_rt (.inl none) σ | _ => none
  | .ddiv => match st with | .double y :: .double x :: st => if FP.ddiv x y &&& 0x7fffffffffffffff ≤ 0x7ff0000000000000 then a_go (pc + len) L (.double (FP.ddiv x y) :: st) σ else none | _ => none
  | .fdiv => match st with | .float y :: .float x :: st => if FP.fdiv x y &&& 0x7fffffff ≤ 0x7f800000 then a_go (pc + len) L (.float (FP.fdiv x y) :: st) σ else none | _ => none
  | .f2d => match st with | .float x :: st => if FP.f2d x &&& 0x7fffffffffffffff ≤ 0x7ff0000000000000 then a_go (pc + len) L (.double (FP.f2d x) :: st) σ else none | _ => none
  | _ => none
/-- the code of a method at a place; one step -/
def a_step (code : aCode) (c : aCfg) : Option aAct := match code.lookup c.1 with
  | none => none
  | some (i, len, r, z, tgt) => a_exec i len r z tgt c.1 c.2.1 c.2.2.1 c.2.2.2
/-- a method: its name, bytes, locals, type, class, code, handlers (from, to, at, exception, entry) -/
abbrev aMeth : Type := MethodName × ByteArray × Nat × Option FieldType × String × aCode × List (Nat × Nat × Nat × Nat × Nat)
abbrev aTab : Type := Nat → Option aMeth
abbrev aCall : Type := Nat → List Value → aSt → Option (aRes × aSt)
def a_hand (hh : List (Nat × Nat × Nat × Nat × Nat)) (pc x : Nat) : Option Nat := match hh with
  | [] => none
  | (f, t, h, y, _) :: r => if f ≤ pc ∧ pc < t ∧ (y = 0 ↔ x = 0) then some h else a_hand r pc x
def a_runN (call : aCall) (code : aCode) (hh : List (Nat × Nat × Nat × Nat × Nat)) : Nat → aCfg → Option (aRes × aSt)
  | 0, _ => none
  | n + 1, c => match a_step code c with
    | none => none
    | some (.inl c') => a_runN call code hh n c'
    | some (.inr (.inl (r, σ))) => some (r, σ)
    | some (.inr (.inr (k, as, (pc, L, st, σ)))) => match call k as σ with
      | none => none
      | some (.inl v, σ') => a_runN call code hh n (pc, L, v.toList ++ st, σ')
      | some (.inr x, σ') => match a_hand hh c.1 x with
        | some h => a_runN call code hh n (h, L, [.ref (a_n σ')], a_name σ')
        | none => some (.inr x, σ')
/-- what a row of answers comes to -/
noncomputable def a_lim (f : Nat → Option (aRes × aSt)) : Option (aRes × aSt) := by
  classical
  exact if h : ∃ n, (f n).isSome then f (Classical.choose h) else none
def a_ent : List Value → List (Option Value)
  | [] => []
  | v :: l => if v.category = 2 then some v :: none :: a_ent l else some v :: a_ent l
def a_pad (n : Nat) (l : List (Option Value)) : List (Option Value) := l ++ List.replicate (n - l.length) none
/-- a call, at depth d: of the table's methods, or (what is not in the table) of the given ones -/
noncomputable def a_call (M : aTab) (P : aCall) : Nat → aCall
  | 0 => P
  | d + 1 => fun k as σ => match M k with
    | none => P k as σ
    | some m => if (a_ent as).length ≤ m.2.2.1 then a_lim (fun n => a_runN (a_call M P d) m.2.2.2.2.2.1 m.2.2.2.2.2.2 n (0, a_pad m.2.2.1 (a_ent as), [], σ)) else none

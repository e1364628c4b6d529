/-! A small machine over the same bytecode. Cells are numbered; a reference is a number.
    A step is a predicate transformer: 'am_ex .. K x F M' says that instruction x from frame F and memory M goes on so that K holds there. -/
/-- cells in use; kind and size of each; ints; longs; references -/
abbrev am_M : Type := Nat × (Nat → Nat × Nat) × (Nat → Nat → Int32) × (Nat → Nat → Int64) × (Nat → Nat → Option Nat)
/-- instruction, next pc, two numbers, an Int -/
abbrev am_I : Type := Instr × Nat × Nat × Nat × Int
/-- pc, locals, stack, cells and slots that may still be made -/
abbrev am_F : Type := Nat × List Value × List Value × Nat × Nat
abbrev am_Q : Type := Option Value → am_M → Prop
/-- a callee: method, arguments, cells, slots, memory, what is wanted behind it -/
abbrev am_C : Type := Nat → List Value → Nat → Nat → am_M → am_Q → Prop
def am_u {α : Type} (f : Nat → Nat → α) (c i : Nat) (v : α) : Nat → Nat → α := fun c' i' => if c' = c then (if i' = i then v else f c' i') else f c' i'
/-- a whole row -/
def am_ur {α : Type} (f : Nat → Nat → α) (c : Nat) (r : Nat → α) : Nat → Nat → α := fun c' => if c' = c then r else f c'
def am_clr (L : List Value) (i : Nat) : List Value := match i with
  | 0 => L
  | j + 1 => match L[j]? with
    | some (.long _) => L.set j .null
    | some (.double _) => L.set j .null
    | _ => L
def am_st1 (L : List Value) (i : Nat) (v : Value) : List Value := (am_clr L i).set i v
def am_st2 (L : List Value) (i : Nat) (v : Value) : List Value := ((am_clr L i).set i v).set (i + 1) .null
def am_ob (M : am_M) (r k : Nat) : Bool := Nat.beq (M.2.1 r).1 k
/-- an int array, of the world or read only -/
def am_ia (M : am_M) (r : Nat) : Bool := match (M.2.1 r).1 with
  | 0 => true
  | 1 => true
  | _ => false
def am_isref : Value → Bool
  | .ref _ => true
  | _ => false
def am_sw (K : Nat → Prop) (x : Int32) (lo : Int) : List Nat → Prop
  | [] => True
  | t :: ts => (x.toInt = lo → K t) ∧ am_sw K x (lo + 1) ts
/-- the targets of a switch -/
def am_tg (pc : Nat) (offs : List Int) : List Nat := offs.map fun o => ((pc : Int) + o).toNat
/-- the class of a method, by the number of the last method of each class -/
def am_kcl : List Nat → Nat → Nat → Nat
  | [], _, c => c
  | n :: ns, k, c => match Nat.ble k n with
    | true => c
    | false => am_kcl ns k (c + 1)
def am_kc (k : Nat) : Nat := am_kcl [7, 9, 16, 26, 33, 36, 40, 46, 50, 107, 194] k 0
/-- how many locals each method has -/
def am_nls : List Nat := [4, 5, 5, 3, 5, 7, 5, 1, 1, 4, 2, 4, 3, 4, 2, 3, 8, 1, 6, 6, 3, 4, 3, 1, 4, 4, 5, 1, 2, 1, 2, 2, 2, 2, 1, 3, 5, 1, 3, 1, 4, 1, 1, 4, 3, 3, 3, 1, 3, 2, 2, 2, 2, 2, 1, 4, 4, 4, 4, 5, 5, 2, 2, 2, 7, 2, 3, 4, 2, 3, 3, 2, 2, 1, 9, 7, 3, 3, 7, 4, 3, 6, 5, 8, 5, 2, 4, 7, 3, 1, 1, 1, 2, 2, 1, 3, 2, 1, 1, 6, 4, 4, 5, 4, 1, 4, 7, 11, 2, 6, 1, 1, 1, 2, 2, 1, 5, 2, 4, 2, 6, 4, 7, 2, 2, 1, 1, 3, 4, 2, 1, 2, 2, 2, 4, 3, 3, 4, 4, 1, 1, 4, 5, 3, 2, 8, 1, 1, 1, 6, 3, 2, 3, 2, 2, 2, 8, 3, 6, 3, 2, 2, 6, 3, 4, 1, 5, 7, 2, 4, 3, 3, 2, 5, 4, 5, 3, 2, 2, 2, 4, 1, 11, 3, 3, 8, 3, 3, 3, 7, 2, 4, 4, 4, 5, 1, 4]
def am_nl (k : Nat) : Nat := am_nls.getD k 0
def am_ent : List Value → List Value
  | [] => []
  | .long v :: vs => .long v :: .null :: am_ent vs
  | .double v :: vs => .double v :: .null :: am_ent vs
  | v :: vs => v :: am_ent vs
def am_pad (n : Nat) (L : List Value) : List Value := L ++ List.replicate (n - L.length) .null
/-- the field's type by class and number -/
def am_ty (ci k : Nat) : FieldType := match ci with
  | 0 => tyX0 k
  | 1 => tyX1 k
  | 2 => tyX2 k
  | 3 => tyX3 k
  | 4 => tyX4 k
  | 5 => tyX5 k
  | 6 => tyX6 k
  | 7 => tyX7 k
  | 8 => tyX8 k
  | 9 => tyX9 k
  | _ => tyX10 k
/-- 0: int, 1: boolean, 2: a reference -/
def am_fk (t : FieldType) : Nat := match t with
  | .int => 0
  | .boolean => 1
  | .object _ => 2
  | .array _ => 2
  | _ => 3
def am_ld (L : List Value) (i : Nat) (f : Value → Prop) : Prop := match L[i]? with
  | some v => f v
  | none => False
def am_isi : Value → Bool
  | .int _ => true
  | _ => false
def am_isl : Value → Bool
  | .long _ => true
  | _ => false
def am_iload (L : List Value) (i : Nat) (f : Value → Prop) : Prop := match L[i]? with
  | some (.int v) => f (.int v)
  | _ => False
def am_lload (L : List Value) (i : Nat) (f : Value → Prop) : Prop := match L[i]? with
  | some (.long v) => f (.long v)
  | _ => False
def am_aload (L : List Value) (i : Nat) (f : Value → Prop) : Prop := match L[i]? with
  | some (.ref v) => f (.ref v)
  | _ => False
def am_ii (st : List Value) (f : Int32 → Int32 → List Value → Prop) : Prop := match st with
  | .int y :: .int x :: r => f x y r
  | _ => False
def am_ll (st : List Value) (f : Int64 → Int64 → List Value → Prop) : Prop := match st with
  | .long y :: .long x :: r => f x y r
  | _ => False
def am_i (st : List Value) (f : Int32 → List Value → Prop) : Prop := match st with
  | .int x :: r => f x r
  | _ => False
def am_l (st : List Value) (f : Int64 → List Value → Prop) : Prop := match st with
  | .long x :: r => f x r
  | _ => False
def am_r (st : List Value) (f : Nat → List Value → Prop) : Prop := match st with
  | .ref x :: r => f x r
  | _ => False
/-- index and array -/
def am_ir (st : List Value) (f : Int32 → Nat → List Value → Prop) : Prop := match st with
  | .int i :: .ref a :: r => f i a r
  | _ => False
/-- an index: the number that it is, within -/
def am_ix (i : Int32) (N : Nat) (f : Nat → Prop) : Prop := ∃ k : Nat, i = Int32.ofInt (k : Int) ∧ (k < N ∧ k < 2147483648) ∧ f k
def am_cp (st : List Value) (f : Nat → Nat → Int32 → Int32 → Int32 → List Value → Prop) : Prop := match st with
  | .int n :: .int dp :: .ref t :: .int sp :: .ref s :: r => f s t sp dp n r
  | _ => False
/-- Math: abs, abs of longs, max, max of longs, min -/
def am_math (k : Nat) (st : List Value) (f : Value → List Value → Prop) : Prop := match k with
  | 0 => am_i st fun x r => f (.int (if 0 ≤ x then x else 0 - x)) r
  | 1 => am_l st fun x r => f (.long (if 0 < x then x else -x)) r
  | 2 => am_ii st fun x y r => f (.int (if x < y then y else x)) r
  | 3 => am_ll st fun x y r => f (.long (if y < x then x else y)) r
  | _ => am_ii st fun x y r => f (.int (if y < x then y else x)) r
def am_v (st : List Value) (f : Value → List Value → Prop) : Prop := match st with
  | x :: r => f x r
  | _ => False
def am_if (c : Prop) (A B : Prop) : Prop := (c → A) ∧ (¬ c → B)
def am_on (b : Bool) (A : Prop) : Prop := match b with
  | true => A
  | false => False
def am_sum (st : List Value) : Nat := (st.map fun v => v.category).sum
/-- the receiver's cell is an object of class ci -/
def am_recv (M : am_M) (ci : Nat) : List Value → Bool
  | .ref r :: _ => am_ob M r (6 + ci)
  | _ => false
def am_call (call : am_C) (K : am_F → am_M → Prop) (nx k nb : Nat) (z : Int) (L st : List Value) (bc bs : Nat) (M : am_M) : Prop :=
  match z with
  | 0 => call k (st.take nb).reverse 0 0 M (fun r M' => K (nx, L, r.toList ++ st.drop nb, bc, bs) M')
  | _ => ∃ c1 s1, c1 ≤ bc ∧ s1 ≤ bs ∧ call k (st.take nb).reverse c1 s1 M (fun r M' => K (nx, L, r.toList ++ st.drop nb, bc - c1, bs - s1) M')
def am_ex (call : am_C) (Q : am_Q) (K : am_F → am_M → Prop) (x : am_I) (F : am_F) (M : am_M) : Prop :=
  match F, x with
  | (pc, L, st, bc, bs), (ins, nx, a, b, z) =>
  match ins with
  | .iconst i => K (nx, L, .int (Int32.ofInt i) :: st, bc, bs) M
  | .bipush i => K (nx, L, .int (Int32.ofInt i) :: st, bc, bs) M
  | .sipush i => K (nx, L, .int (Int32.ofInt i) :: st, bc, bs) M
  | .ldc _ => K (nx, L, .int (Int32.ofInt z) :: st, bc, bs) M
  | .ldc_w _ => K (nx, L, .int (Int32.ofInt z) :: st, bc, bs) M
  | .ldc2_w _ => K (nx, L, .long (Int64.ofInt z) :: st, bc, bs) M
  | .lconst _ => K (nx, L, .long (Int64.ofInt z) :: st, bc, bs) M
  | .iload_n i => am_iload L i fun v => K (nx, L, v :: st, bc, bs) M
  | .iload i => am_iload L i fun v => K (nx, L, v :: st, bc, bs) M
  | .lload_n i => am_lload L i fun v => K (nx, L, v :: st, bc, bs) M
  | .lload i => am_lload L i fun v => K (nx, L, v :: st, bc, bs) M
  | .aload_n i => am_aload L i fun v => K (nx, L, v :: st, bc, bs) M
  | .aload i => am_aload L i fun v => K (nx, L, v :: st, bc, bs) M
  | .istore_n i => am_i st fun x r => am_on (Nat.blt i L.length) (K (nx, am_st1 L i (.int x), r, bc, bs) M)
  | .istore i => am_i st fun x r => am_on (Nat.blt i L.length) (K (nx, am_st1 L i (.int x), r, bc, bs) M)
  | .lstore_n i => am_l st fun x r => am_on (Nat.blt (i + 1) L.length) (K (nx, am_st2 L i (.long x), r, bc, bs) M)
  | .lstore i => am_l st fun x r => am_on (Nat.blt (i + 1) L.length) (K (nx, am_st2 L i (.long x), r, bc, bs) M)
  | .astore_n i => am_r st fun x r => am_on (Nat.blt i L.length) (K (nx, am_st1 L i (.ref x), r, bc, bs) M)
  | .astore i => am_r st fun x r => am_on (Nat.blt i L.length) (K (nx, am_st1 L i (.ref x), r, bc, bs) M)
  | .iinc i n => am_iload L i fun v => match v with
    | .int x => K (nx, am_st1 L i (.int (x + Int32.ofInt n)), st, bc, bs) M
    | _ => False
  | .iadd => am_ii st fun x y r => K (nx, L, .int (x + y) :: r, bc, bs) M
  | .isub => am_ii st fun x y r => K (nx, L, .int (x - y) :: r, bc, bs) M
  | .imul => am_ii st fun x y r => K (nx, L, .int (x * y) :: r, bc, bs) M
  | .iand => am_ii st fun x y r => K (nx, L, .int (x &&& y) :: r, bc, bs) M
  | .ior => am_ii st fun x y r => K (nx, L, .int (x ||| y) :: r, bc, bs) M
  | .ixor => am_ii st fun x y r => K (nx, L, .int (x ^^^ y) :: r, bc, bs) M
  | .ishl => am_ii st fun x y r => K (nx, L, .int (x <<< (y &&& 31)) :: r, bc, bs) M
  | .ishr => am_ii st fun x y r => K (nx, L, .int (x >>> (y &&& 31)) :: r, bc, bs) M
  | .iushr => am_ii st fun x y r => K (nx, L, .int (x.toUInt32 >>> (y.toUInt32 &&& Int32.toUInt32 31)).toInt32 :: r, bc, bs) M
  | .idiv => am_ii st fun x y r => ¬ y = 0 ∧ K (nx, L, .int (x / y) :: r, bc, bs) M
  | .irem => am_ii st fun x y r => ¬ y = 0 ∧ K (nx, L, .int (x - x / y * y) :: r, bc, bs) M
  | .ineg => am_i st fun x r => K (nx, L, .int (-x) :: r, bc, bs) M
  | .i2l => am_i st fun x r => K (nx, L, .long x.toInt64 :: r, bc, bs) M
  | .i2b => am_i st fun x r => K (nx, L, .int x.toInt8.toInt32 :: r, bc, bs) M
  | .i2s => am_i st fun x r => K (nx, L, .int x.toInt16.toInt32 :: r, bc, bs) M
  | .ladd => am_ll st fun x y r => K (nx, L, .long (x + y) :: r, bc, bs) M
  | .lsub => am_ll st fun x y r => K (nx, L, .long (x - y) :: r, bc, bs) M
  | .lmul => am_ll st fun x y r => K (nx, L, .long (x * y) :: r, bc, bs) M
  | .ldiv => am_ll st fun x y r => ¬ y = 0 ∧ K (nx, L, .long (x / y) :: r, bc, bs) M
  | .lrem => am_ll st fun x y r => ¬ y = 0 ∧ K (nx, L, .long (x - x / y * y) :: r, bc, bs) M
  | .lneg => am_l st fun x r => K (nx, L, .long (-x) :: r, bc, bs) M
  | .lcmp => am_ll st fun x y r => K (nx, L, .int (lg_cmp x y) :: r, bc, bs) M
  | .dup => am_v st fun v r => am_on (Nat.beq v.category 1) (K (nx, L, v :: v :: r, bc, bs) M)
  | .dup2 => am_v st fun v r => am_v r fun w r => am_on (Nat.beq v.category 1 && Nat.beq w.category 1) (K (nx, L, v :: w :: v :: w :: r, bc, bs) M)
  | .pop => am_v st fun v r => am_on (Nat.beq v.category 1) (K (nx, L, r, bc, bs) M)
  | .ifCond .eq _ => am_i st fun x r => am_if (x = 0) (K (a, L, r, bc, bs) M) (K (nx, L, r, bc, bs) M)
  | .ifCond .ne _ => am_i st fun x r => am_if (x = 0) (K (nx, L, r, bc, bs) M) (K (a, L, r, bc, bs) M)
  | .ifCond .lt _ => am_i st fun x r => am_if (x < 0) (K (a, L, r, bc, bs) M) (K (nx, L, r, bc, bs) M)
  | .ifCond .ge _ => am_i st fun x r => am_if (0 ≤ x) (K (a, L, r, bc, bs) M) (K (nx, L, r, bc, bs) M)
  | .ifCond .gt _ => am_i st fun x r => am_if (0 < x) (K (a, L, r, bc, bs) M) (K (nx, L, r, bc, bs) M)
  | .ifCond .le _ => am_i st fun x r => am_if (x ≤ 0) (K (a, L, r, bc, bs) M) (K (nx, L, r, bc, bs) M)
  | .if_icmp .eq _ => am_ii st fun x y r => am_if (x = y) (K (a, L, r, bc, bs) M) (K (nx, L, r, bc, bs) M)
  | .if_icmp .ne _ => am_ii st fun x y r => am_if (x = y) (K (nx, L, r, bc, bs) M) (K (a, L, r, bc, bs) M)
  | .if_icmp .lt _ => am_ii st fun x y r => am_if (x < y) (K (a, L, r, bc, bs) M) (K (nx, L, r, bc, bs) M)
  | .if_icmp .ge _ => am_ii st fun x y r => am_if (y ≤ x) (K (a, L, r, bc, bs) M) (K (nx, L, r, bc, bs) M)
  | .if_icmp .gt _ => am_ii st fun x y r => am_if (y < x) (K (a, L, r, bc, bs) M) (K (nx, L, r, bc, bs) M)
  | .if_icmp .le _ => am_ii st fun x y r => am_if (x ≤ y) (K (a, L, r, bc, bs) M) (K (nx, L, r, bc, bs) M)
  | .goto _ => K (a, L, st, bc, bs) M
  | .getfield _ => am_r st fun r rest => am_on (am_ob M r (6 + a)) (match am_fk (am_ty a b) with
    | 2 => match M.2.2.2.2 r b with
      | some q => K (nx, L, .ref q :: rest, bc, bs) M
      | none => False
    | 3 => False
    | _ => K (nx, L, .int (M.2.2.1 r b) :: rest, bc, bs) M)
  | .iaload => am_ir st fun i r rest => am_on (am_ia M r) (am_ix i (M.2.1 r).2 fun k => K (nx, L, .int (M.2.2.1 r k) :: rest, bc, bs) M)
  | .baload => am_ir st fun i r rest => am_on (am_ob M r 2) (am_ix i (M.2.1 r).2 fun k => K (nx, L, .int (M.2.2.1 r k) :: rest, bc, bs) M)
  | .laload => am_ir st fun i r rest => am_on (am_ob M r 3) (am_ix i (M.2.1 r).2 fun k => K (nx, L, .long (M.2.2.2.1 r k) :: rest, bc, bs) M)
  | .aaload => am_ir st fun i r rest => am_on (am_ob M r (4 + a)) (am_ix i (M.2.1 r).2 fun k => match M.2.2.2.2 r k with
    | some q => K (nx, L, .ref q :: rest, bc, bs) M
    | none => False)
  | .iastore => am_i st fun x st => am_ir st fun i r rest => am_on (am_ob M r 0) (am_ix i (M.2.1 r).2 fun k => K (nx, L, rest, bc, bs) (M.1, M.2.1, am_u M.2.2.1 r k x, M.2.2.2.1, M.2.2.2.2))
  | .bastore => am_i st fun x st => am_ir st fun i r rest => am_on (am_ob M r 2) (am_ix i (M.2.1 r).2 fun k => K (nx, L, rest, bc, bs) (M.1, M.2.1, am_u M.2.2.1 r k (vp_nar .boolean x), M.2.2.2.1, M.2.2.2.2))
  | .lastore => am_l st fun x st => am_ir st fun i r rest => am_on (am_ob M r 3) (am_ix i (M.2.1 r).2 fun k => K (nx, L, rest, bc, bs) (M.1, M.2.1, M.2.2.1, am_u M.2.2.2.1 r k x, M.2.2.2.2))
  | .arraylength => am_r st fun r rest => am_on (am_ia M r) (K (nx, L, .int (Int32.ofNat (M.2.1 r).2) :: rest, bc, bs) M)
  | .putfield _ => (match am_fk (am_ty a b) with
    | 0 => am_i st fun x st => am_r st fun r rest => am_on (am_ob M r (6 + a)) (K (nx, L, rest, bc, bs) (M.1, M.2.1, am_u M.2.2.1 r b x, M.2.2.2.1, M.2.2.2.2))
    | 1 => am_i st fun x st => am_r st fun r rest => am_on (am_ob M r (6 + a)) ((x = 0 ∨ x = 1) ∧ K (nx, L, rest, bc, bs) (M.1, M.2.1, am_u M.2.2.1 r b x, M.2.2.2.1, M.2.2.2.2))
    | 2 => am_r st fun q st => am_r st fun r rest => am_on (am_ob M r (6 + a)) (K (nx, L, rest, bc, bs) (M.1, M.2.1, M.2.2.1, M.2.2.2.1, am_u M.2.2.2.2 r b (some q)))
    | _ => False)
  | .newarray .int => am_i st fun x rest => 1 ≤ bc ∧ ¬ x < 0 ∧ x.toNatClampNeg ≤ bs ∧ x.toNatClampNeg ≤ 100000000 ∧ K (nx, L, .ref M.1 :: rest, bc - 1, bs - x.toNatClampNeg) (M.1 + 1, (fun c => if c = M.1 then (0, x.toNatClampNeg) else M.2.1 c), am_ur M.2.2.1 M.1 (fun _ => 0), M.2.2.2.1, M.2.2.2.2)
  | .getstatic _ => am_on (Nat.blt a 3) (K (nx, L, .ref a :: st, bc, bs) M)
  | .checkcast _ => am_r st fun r rest => am_on (am_ob M r 0) (K (nx, L, st, bc, bs) M)
  | .new _ => 1 ≤ bc ∧ b ≤ bs ∧ K (nx, L, .ref M.1 :: st, bc - 1, bs - b) (M.1 + 1, (fun c => if c = M.1 then (6 + a, 0) else M.2.1 c), am_ur M.2.2.1 M.1 (fun _ => 0), M.2.2.2.1, am_ur M.2.2.2.2 M.1 (fun _ => none))
  | .newarray .boolean => am_i st fun x rest => 1 ≤ bc ∧ ¬ x < 0 ∧ x.toNatClampNeg ≤ bs ∧ x.toNatClampNeg ≤ 100000000 ∧ K (nx, L, .ref M.1 :: rest, bc - 1, bs - x.toNatClampNeg) (M.1 + 1, (fun c => if c = M.1 then (2, x.toNatClampNeg) else M.2.1 c), am_ur M.2.2.1 M.1 (fun _ => 0), M.2.2.2.1, M.2.2.2.2)
  | .newarray .long => am_i st fun x rest => 1 ≤ bc ∧ ¬ x < 0 ∧ x.toNatClampNeg ≤ bs ∧ x.toNatClampNeg ≤ 50000000 ∧ K (nx, L, .ref M.1 :: rest, bc - 1, bs - x.toNatClampNeg) (M.1 + 1, (fun c => if c = M.1 then (3, x.toNatClampNeg) else M.2.1 c), M.2.2.1, am_ur M.2.2.2.1 M.1 (fun _ => 0), M.2.2.2.2)
  | .anewarray _ => am_i st fun x rest => 1 ≤ bc ∧ ¬ x < 0 ∧ x.toNatClampNeg ≤ bs ∧ x.toNatClampNeg ≤ 100000000 ∧ K (nx, L, .ref M.1 :: rest, bc - 1, bs - x.toNatClampNeg) (M.1 + 1, (fun c => if c = M.1 then (4, x.toNatClampNeg) else M.2.1 c), M.2.2.1, M.2.2.2.1, am_ur M.2.2.2.2 M.1 (fun _ => none))
  | .aastore => am_r st fun v st => am_ir st fun i r rest => am_on (am_ob M r 4 && am_ob M v 13) (am_ix i (M.2.1 r).2 fun k => K (nx, L, rest, bc, bs) (M.1, M.2.1, M.2.2.1, M.2.2.2.1, am_u M.2.2.2.2 r k (some v)))
  | .multianewarray _ _ => am_ii st fun x y rest => 8 ≤ bc ∧ x = 7 ∧ y = 7 ∧ 56 ≤ bs ∧ K (nx, L, .ref M.1 :: rest, bc - 8, bs - 56) (M.1 + 8, (fun c => if c = M.1 then (5, 7) else if M.1 < c ∧ c < M.1 + 8 then (0, 7) else M.2.1 c), (fun c => if M.1 < c ∧ c < M.1 + 8 then (fun _ => 0) else M.2.2.1 c), M.2.2.2.1, am_ur M.2.2.2.2 M.1 (fun i => if i < 7 then some (M.1 + 1 + i) else none))
  | .invokespecial _ => (match Nat.beq a 1000 with
    | true => am_r st fun _ rest => am_on (Nat.ble (am_sum rest) 8) (K (nx, L, rest, bc, bs) M)
    | false => am_on (Nat.ble b st.length && Nat.ble (am_sum (st.drop b)) 8 && Nat.ble (am_ent (st.take b).reverse).length (am_nl a) && am_recv M (am_kc a) (st.take b).reverse) (am_call call K nx a b z L st bc bs M))
  | .invokevirtual _ => match Nat.beq a 1001 with
    | true => am_r st fun r rest => am_on (am_ob M r 1 && Nat.ble (am_sum rest) 8) (r < 3 ∧ 1 ≤ bc ∧ (M.2.1 r).2 ≤ bs ∧ K (nx, L, .ref M.1 :: rest, bc - 1, bs - (M.2.1 r).2) (M.1 + 1, (fun c => if c = M.1 then (0, (M.2.1 r).2) else M.2.1 c), am_ur M.2.2.1 M.1 (M.2.2.1 r), M.2.2.2.1, M.2.2.2.2))
    | false => am_on (Nat.ble b st.length && Nat.ble (am_sum (st.drop b)) 8 && Nat.ble (am_ent (st.take b).reverse).length (am_nl a) && am_recv M (am_kc a) (st.take b).reverse) (am_call call K nx a b z L st bc bs M)
  | .invokestatic _ => match Nat.beq a 1002 with
    | true => am_cp st fun s t sp dp n rest => am_on (am_ob M s 0 && am_ob M t 0 && Nat.ble (am_sum rest) 8) (¬ sp < 0 ∧ ¬ dp < 0 ∧ ¬ n < 0 ∧ sp.toNatClampNeg + n.toNatClampNeg ≤ (M.2.1 s).2 ∧ dp.toNatClampNeg + n.toNatClampNeg ≤ (M.2.1 t).2 ∧ K (nx, L, rest, bc, bs) (M.1, M.2.1, am_ur M.2.2.1 t (va_cpy (M.2.2.1 s) (M.2.2.1 t) sp.toNatClampNeg dp.toNatClampNeg n.toNatClampNeg), M.2.2.2.1, M.2.2.2.2))
    | false => match Nat.beq a 1003 with
      | true => am_math b st fun v r => am_on (Nat.ble (am_sum r) 8) (K (nx, L, v :: r, bc, bs) M)
      | false => am_on (Nat.ble b st.length && Nat.ble (am_sum (st.drop b)) 8 && Nat.ble (am_ent (st.take b).reverse).length (am_nl a)) (am_call call K nx a b z L st bc bs M)
  | .tableswitch dflt lo hi offs => am_i st fun x r => am_sw (fun t => K (t, L, r, bc, bs) M) x lo (am_tg pc offs.toList) ∧ (x.toInt < lo ∨ hi < x.toInt → K (((pc : Int) + dflt).toNat, L, r, bc, bs) M)
  | .ireturn => am_i st fun x r => am_on r.isEmpty (match b with
    | 0 => Q (some (.int x)) M
    | _ => (x = 0 ∨ x = 1) ∧ Q (some (.int x)) M)
  | .lreturn => am_l st fun x r => am_on r.isEmpty (Q (some (.long x)) M)
  | .return_ => am_on st.isEmpty (Q none M)
  | _ => False
/-- the code: rows of sixteen -/
abbrev am_T : Type := List (List (Option am_I))
def am_at (T : am_T) (pc : Nat) : Option am_I := match T[pc / 16]? with
  | some r => match r[pc % 16]? with
    | some x => x
    | none => none
  | none => none
def am_step (call : am_C) (T : am_T) (Q : am_Q) (K : am_F → am_M → Prop) (F : am_F) (M : am_M) : Prop := match F with
  | (pc, L, st, bc, bs) => match am_at T pc with
    | some x => am_ex call Q K x (pc, L, st, bc, bs) M
    | none => False
/-- the least predicate that is closed under steps -/
def am_wp (call : am_C) (T : am_T) (Q : am_Q) (F : am_F) (M : am_M) : Prop := ∀ P : am_F → am_M → Prop, (∀ F M, am_step call T Q P F M → P F M) → P F M
/-- n steps at most, up to a pc that is to be stopped at -/
def am_run (call : am_C) (T : am_T) (Q : am_Q) (stop : Nat → Bool) (K : am_F → am_M → Prop) : Nat → am_F → am_M → Prop
  | 0 => K
  | n + 1 => fun F M => match F with
    | (pc, L, st, bc, bs) => match stop pc with
      | true => K (pc, L, st, bc, bs) M
      | false => am_step call T Q (am_run call T Q stop K n) (pc, L, st, bc, bs) M

theorem am_u_ne {α : Type} {f : Nat → Nat → α} {c i c' : Nat} {v : α} (h : c' ≠ c) : am_u f c i v c' = f c' := by
  funext j
  simp [am_u, h]
theorem am_u_at {α : Type} {f : Nat → Nat → α} {c i j : Nat} {v : α} : am_u f c i v c j = if j = i then v else f c j := by simp [am_u]
theorem am_ur_ne {α : Type} {f : Nat → Nat → α} {c c' : Nat} {r : Nat → α} (h : c' ≠ c) : am_ur f c r c' = f c' := by simp [am_ur, h]
theorem am_ur_at {α : Type} {f : Nat → Nat → α} {c : Nat} {r : Nat → α} : am_ur f c r c = r := by simp [am_ur]
/-! what follows from less -/
theorem am_iload_mono {L : List Value} {i : Nat} {f g : Value → Prop} (h : ∀ v, f v → g v) (k : am_iload L i f) : am_iload L i g := by
  unfold am_iload at *
  split at k
  · exact h _ k
  · exact k.elim
theorem am_lload_mono {L : List Value} {i : Nat} {f g : Value → Prop} (h : ∀ v, f v → g v) (k : am_lload L i f) : am_lload L i g := by
  unfold am_lload at *
  split at k
  · exact h _ k
  · exact k.elim
theorem am_aload_mono {L : List Value} {i : Nat} {f g : Value → Prop} (h : ∀ v, f v → g v) (k : am_aload L i f) : am_aload L i g := by
  unfold am_aload at *
  split at k
  · exact h _ k
  · exact k.elim
theorem am_ii_mono {st : List Value} {f g : Int32 → Int32 → List Value → Prop} (h : ∀ x y r, f x y r → g x y r) (k : am_ii st f) : am_ii st g := by
  unfold am_ii at *
  split at k
  · exact h _ _ _ k
  · exact k.elim
theorem am_ll_mono {st : List Value} {f g : Int64 → Int64 → List Value → Prop} (h : ∀ x y r, f x y r → g x y r) (k : am_ll st f) : am_ll st g := by
  unfold am_ll at *
  split at k
  · exact h _ _ _ k
  · exact k.elim
theorem am_i_mono {st : List Value} {f g : Int32 → List Value → Prop} (h : ∀ x r, f x r → g x r) (k : am_i st f) : am_i st g := by
  unfold am_i at *
  split at k
  · exact h _ _ k
  · exact k.elim
theorem am_l_mono {st : List Value} {f g : Int64 → List Value → Prop} (h : ∀ x r, f x r → g x r) (k : am_l st f) : am_l st g := by
  unfold am_l at *
  split at k
  · exact h _ _ k
  · exact k.elim
theorem am_r_mono {st : List Value} {f g : Nat → List Value → Prop} (h : ∀ x r, f x r → g x r) (k : am_r st f) : am_r st g := by
  unfold am_r at *
  split at k
  · exact h _ _ k
  · exact k.elim
theorem am_ir_mono {st : List Value} {f g : Int32 → Nat → List Value → Prop} (h : ∀ x y r, f x y r → g x y r) (k : am_ir st f) : am_ir st g := by
  unfold am_ir at *
  split at k
  · exact h _ _ _ k
  · exact k.elim
theorem am_cp_mono {st : List Value} {f g : Nat → Nat → Int32 → Int32 → Int32 → List Value → Prop} (h : ∀ s t sp dp n r, f s t sp dp n r → g s t sp dp n r) (k : am_cp st f) : am_cp st g := by
  unfold am_cp at *
  split at k
  · exact h _ _ _ _ _ _ k
  · exact k.elim
theorem am_ix_mono {i : Int32} {N : Nat} {f g : Nat → Prop} (h : ∀ k, f k → g k) (k : am_ix i N f) : am_ix i N g := by
  obtain ⟨j, h1, h2, h3⟩ := k
  exact ⟨j, h1, h2, h _ h3⟩
theorem am_math_mono {k : Nat} {st : List Value} {f g : Value → List Value → Prop} (h : ∀ v r, f v r → g v r) (q : am_math k st f) : am_math k st g := by
  unfold am_math at *
  split at q
  · exact am_i_mono (fun _ _ k => h _ _ k) q
  · exact am_l_mono (fun _ _ k => h _ _ k) q
  · exact am_ii_mono (fun _ _ _ k => h _ _ k) q
  · exact am_ll_mono (fun _ _ _ k => h _ _ k) q
  · exact am_ii_mono (fun _ _ _ k => h _ _ k) q
theorem am_v_mono {st : List Value} {f g : Value → List Value → Prop} (h : ∀ x r, f x r → g x r) (k : am_v st f) : am_v st g := by
  unfold am_v at *
  split at k
  · exact h _ _ k
  · exact k.elim
theorem am_on_mono {b : Bool} {A B : Prop} (h : A → B) (k : am_on b A) : am_on b B := by
  cases b
  · exact k
  · exact h k
theorem am_if_mono {c A B A' B' : Prop} (h : A → A') (h2 : B → B') (k : am_if c A B) : am_if c A' B' := ⟨fun q => h (k.1 q), fun q => h2 (k.2 q)⟩
theorem am_sw_mono {K K' : Nat → Prop} (h : ∀ t, K t → K' t) {x : Int32} : ∀ {lo : Int} {ts : List Nat}, am_sw K x lo ts → am_sw K' x lo ts
  | _, [], _ => trivial
  | _, _ :: _, k => ⟨fun q => h _ (k.1 q), am_sw_mono h k.2⟩
def am_cm (call call' : am_C) : Prop := ∀ (k : Nat) (a : List Value) (c s : Nat) (M : am_M) (Q Q' : am_Q), (∀ r M, Q r M → Q' r M) → call k a c s M Q → call' k a c s M Q'
theorem am_call_mono {call call' : am_C} (hc : am_cm call call') {K K' : am_F → am_M → Prop} (hK : ∀ F M, K F M → K' F M) {nx k nb : Nat} {z : Int} {L st : List Value} {bc bs : Nat} {M : am_M} (h : am_call call K nx k nb z L st bc bs M) : am_call call' K' nx k nb z L st bc bs M := by
  unfold am_call at *
  split
  · exact hc _ _ _ _ _ _ _ (fun _ _ q => hK _ _ q) h
  · split at h
    · contradiction
    · obtain ⟨c1, s1, h1, h2, h3⟩ := h
      exact ⟨c1, s1, h1, h2, hc _ _ _ _ _ _ _ (fun _ _ q => hK _ _ q) h3⟩
set_option maxHeartbeats 4000000 in
theorem am_ex_mono {call call' : am_C} (hc : am_cm call call') {Q Q' : am_Q} (hQ : ∀ r M, Q r M → Q' r M) {K K' : am_F → am_M → Prop} (hK : ∀ F M, K F M → K' F M) {x : am_I} {F : am_F} {M : am_M} (h : am_ex call Q K x F M) : am_ex call' Q' K' x F M := by
  obtain ⟨pc, L, st, bc, bs⟩ := F
  obtain ⟨ins, nx, a, b, z⟩ := x
  cases ins
  case ifCond c o =>
    cases c <;> exact am_i_mono (fun _ _ k => am_if_mono (hK _ _) (hK _ _) k) h
  case if_icmp c o =>
    cases c <;> exact am_ii_mono (fun _ _ _ k => am_if_mono (hK _ _) (hK _ _) k) h
  case getfield i =>
    refine am_r_mono (fun _ _ k => am_on_mono (fun k => ?_) k) h
    revert k
    generalize am_fk (am_ty a b) = t
    intro k
    split at k
    · split at k
      · exact hK _ _ k
      · exact k
    · exact k
    · exact hK _ _ k
  case aaload =>
    refine am_ir_mono (fun _ _ _ k => am_on_mono (am_ix_mono (fun _ k => ?_)) k) h
    split at k
    · exact hK _ _ k
    · exact k.elim
  case putfield i =>
    revert h
    show (match am_fk (am_ty a b) with | 0 => _ | 1 => _ | 2 => _ | _ => False) → (match am_fk (am_ty a b) with | 0 => _ | 1 => _ | 2 => _ | _ => False)
    generalize am_fk (am_ty a b) = t
    intro h
    split at h
    · exact am_i_mono (fun _ _ k => am_r_mono (fun _ _ k => am_on_mono (hK _ _) k) k) h
    · exact am_i_mono (fun _ _ k => am_r_mono (fun _ _ k => am_on_mono (fun k => ⟨k.1, hK _ _ k.2⟩) k) k) h
    · exact am_r_mono (fun _ _ k => am_r_mono (fun _ _ k => am_on_mono (hK _ _) k) k) h
    · exact h.elim
  case newarray t =>
    cases t
    case int => exact am_i_mono (fun _ _ k => ⟨k.1, k.2.1, k.2.2.1, k.2.2.2.1, hK _ _ k.2.2.2.2⟩) h
    case boolean => exact am_i_mono (fun _ _ k => ⟨k.1, k.2.1, k.2.2.1, k.2.2.2.1, hK _ _ k.2.2.2.2⟩) h
    case long => exact am_i_mono (fun _ _ k => ⟨k.1, k.2.1, k.2.2.1, k.2.2.2.1, hK _ _ k.2.2.2.2⟩) h
    all_goals exact h.elim
  case new i => exact ⟨h.1, h.2.1, hK _ _ h.2.2⟩
  case anewarray i => exact am_i_mono (fun _ _ k => ⟨k.1, k.2.1, k.2.2.1, k.2.2.2.1, hK _ _ k.2.2.2.2⟩) h
  case multianewarray i j => exact am_ii_mono (fun _ _ _ k => ⟨k.1, k.2.1, k.2.2.1, k.2.2.2.1, hK _ _ k.2.2.2.2⟩) h
  case aastore => exact am_r_mono (fun _ _ k => am_ir_mono (fun _ _ _ k => am_on_mono (am_ix_mono (fun _ k => hK _ _ k)) k) k) h
  case getstatic i => exact am_on_mono (hK _ _) h
  case invokespecial i =>
    revert h
    show (match Nat.beq a 1000 with | true => _ | false => _) → (match Nat.beq a 1000 with | true => _ | false => _)
    generalize Nat.beq a 1000 = t
    intro h
    cases t
    · exact am_on_mono (am_call_mono hc hK) h
    · exact am_r_mono (fun _ _ k => am_on_mono (hK _ _) k) h
  case invokevirtual i =>
    revert h
    show (match Nat.beq a 1001 with | true => _ | false => _) → (match Nat.beq a 1001 with | true => _ | false => _)
    generalize Nat.beq a 1001 = t
    intro h
    cases t
    · exact am_on_mono (am_call_mono hc hK) h
    · exact am_r_mono (fun _ _ k => am_on_mono (fun k => ⟨k.1, k.2.1, k.2.2.1, hK _ _ k.2.2.2⟩) k) h
  case invokestatic i =>
    revert h
    show (match Nat.beq a 1002 with | true => _ | false => _) → (match Nat.beq a 1002 with | true => _ | false => _)
    generalize Nat.beq a 1002 = t
    intro h
    cases t
    · revert h
      show (match Nat.beq a 1003 with | true => _ | false => _) → (match Nat.beq a 1003 with | true => _ | false => _)
      generalize Nat.beq a 1003 = t
      intro h
      cases t
      · exact am_on_mono (am_call_mono hc hK) h
      · exact am_math_mono (fun _ _ k => am_on_mono (hK _ _) k) h
    · exact am_cp_mono (fun _ _ _ _ _ _ k => am_on_mono (fun k => ⟨k.1, k.2.1, k.2.2.1, k.2.2.2.1, k.2.2.2.2.1, hK _ _ k.2.2.2.2.2⟩) k) h
  case tableswitch d lo hi offs => exact am_i_mono (fun _ _ k => ⟨am_sw_mono (fun _ => hK _ _) k.1, fun q => hK _ _ (k.2 q)⟩) h
  case ireturn =>
    refine am_i_mono (fun x r k => am_on_mono (fun k => ?_) k) h
    revert k
    cases b with
    | zero => exact fun k => hQ _ _ k
    | succ b => exact fun k => ⟨k.1, hQ _ _ k.2⟩
  case lreturn => exact am_l_mono (fun _ _ k => am_on_mono (hQ _ _) k) h
  case return_ => exact am_on_mono (hQ _ _) h
  case iinc i n =>
    refine am_iload_mono (L := L) (i := i) (f := fun v => match v with | .int x => K (nx, am_st1 L i (.int (x + Int32.ofInt n)), st, bc, bs) M | _ => False) (g := fun v => match v with | .int x => K' (nx, am_st1 L i (.int (x + Int32.ofInt n)), st, bc, bs) M | _ => False) (fun v k => ?_) h
    cases v <;> first | exact hK _ _ k | exact k.elim
  case iload i => exact am_iload_mono (L := L) (i := i) (f := fun v => K (nx, L, v :: st, bc, bs) M) (g := fun v => K' (nx, L, v :: st, bc, bs) M) (fun _ k => hK _ _ k) h
  case iload_n i => exact am_iload_mono (L := L) (i := i) (f := fun v => K (nx, L, v :: st, bc, bs) M) (g := fun v => K' (nx, L, v :: st, bc, bs) M) (fun _ k => hK _ _ k) h
  case lload i => exact am_lload_mono (L := L) (i := i) (f := fun v => K (nx, L, v :: st, bc, bs) M) (g := fun v => K' (nx, L, v :: st, bc, bs) M) (fun _ k => hK _ _ k) h
  case lload_n i => exact am_lload_mono (L := L) (i := i) (f := fun v => K (nx, L, v :: st, bc, bs) M) (g := fun v => K' (nx, L, v :: st, bc, bs) M) (fun _ k => hK _ _ k) h
  case aload i => exact am_aload_mono (L := L) (i := i) (f := fun v => K (nx, L, v :: st, bc, bs) M) (g := fun v => K' (nx, L, v :: st, bc, bs) M) (fun _ k => hK _ _ k) h
  case aload_n i => exact am_aload_mono (L := L) (i := i) (f := fun v => K (nx, L, v :: st, bc, bs) M) (g := fun v => K' (nx, L, v :: st, bc, bs) M) (fun _ k => hK _ _ k) h
  all_goals first
    | exact hK _ _ h
    | exact am_ii_mono (fun _ _ _ k => hK _ _ k) h
    | exact am_ll_mono (fun _ _ _ k => hK _ _ k) h
    | exact am_i_mono (fun _ _ k => hK _ _ k) h
    | exact am_l_mono (fun _ _ k => hK _ _ k) h
    | exact am_i_mono (fun _ _ k => am_on_mono (hK _ _) k) h
    | exact am_l_mono (fun _ _ k => am_on_mono (hK _ _) k) h
    | exact am_r_mono (fun _ _ k => am_on_mono (hK _ _) k) h
    | exact am_v_mono (fun _ _ k => am_on_mono (hK _ _) k) h
    | exact am_v_mono (fun _ _ k => am_v_mono (fun _ _ k => am_on_mono (hK _ _) k) k) h
    | exact am_ii_mono (fun _ _ _ k => ⟨k.1, hK _ _ k.2⟩) h
    | exact am_ll_mono (fun _ _ _ k => ⟨k.1, hK _ _ k.2⟩) h
    | exact am_ir_mono (fun _ _ _ k => am_on_mono (am_ix_mono (fun _ k => hK _ _ k)) k) h
    | exact am_i_mono (fun _ _ k => am_ir_mono (fun _ _ _ k => am_on_mono (am_ix_mono (fun _ k => hK _ _ k)) k) k) h
    | exact am_l_mono (fun _ _ k => am_ir_mono (fun _ _ _ k => am_on_mono (am_ix_mono (fun _ k => hK _ _ k)) k) k) h
    | exact False.elim h
theorem am_step_mono {call call' : am_C} (hc : am_cm call call') {T : am_T} {Q Q' : am_Q} (hQ : ∀ r M, Q r M → Q' r M) {K K' : am_F → am_M → Prop} (hK : ∀ F M, K F M → K' F M) {F : am_F} {M : am_M} (h : am_step call T Q K F M) : am_step call' T Q' K' F M := by
  obtain ⟨pc, L, st, bc, bs⟩ := F
  unfold am_step at *
  dsimp only at *
  split at h
  · exact am_ex_mono hc hQ hK h
  · exact h.elim
theorem am_wp_step {call : am_C} (hc : am_cm call call) {T : am_T} {Q : am_Q} {F : am_F} {M : am_M} (h : am_step call T Q (am_wp call T Q) F M) : am_wp call T Q F M :=
  fun P hP => hP _ _ (am_step_mono hc (fun _ _ q => q) (fun _ _ k => k P hP) h)
theorem am_wp_mono {call call' : am_C} (hc : am_cm call call') {T : am_T} {Q Q' : am_Q} (hQ : ∀ r M, Q r M → Q' r M) {F : am_F} {M : am_M} (h : am_wp call T Q F M) : am_wp call' T Q' F M :=
  fun P hP => h P (fun F M s => hP F M (am_step_mono hc hQ (fun _ _ k => k) s))
theorem am_wp_run {call : am_C} (hc : am_cm call call) {T : am_T} {Q : am_Q} (stop : Nat → Bool) : ∀ (n : Nat) {F : am_F} {M : am_M}, am_run call T Q stop (am_wp call T Q) n F M → am_wp call T Q F M
  | 0, _, _, h => h
  | n + 1, (pc, L, st, bc, bs), M, h => by
    unfold am_run at h
    dsimp only at h
    split at h
    · exact h
    · exact am_wp_step hc (am_step_mono hc (fun _ _ q => q) (fun _ _ k => am_wp_run hc stop n k) h)
/-- the first step is taken, then on to a stop -/
theorem am_wp_go {call : am_C} (hc : am_cm call call) {T : am_T} {Q : am_Q} (stop : Nat → Bool) (n : Nat) {F : am_F} {M : am_M} (h : am_step call T Q (am_run call T Q stop (am_wp call T Q) n) F M) : am_wp call T Q F M :=
  am_wp_step hc (am_step_mono hc (fun _ _ q => q) (fun _ _ k => am_wp_run hc stop n k) h)

/-! THE LIGHT MACHINE: cells by small numbers; its heap: kinds and lengths, ints, references, longs.
Kinds: 0..11 the objects of vwCl's classes; 20 int[], 21 byte[], 22 boolean[], 23 long[], 24 int[][], 25 History[]; 30 the script, 31 a String constant, 32 its bytes; 40 an exception.
Places below 64 are what was there at the start: 0..20 the Strings, 21..41 their bytes, 63 the script. -/
abbrev LH : Type := List (Nat × Nat) × (Nat → Nat → Int32) × (Nat → Nat → Option Nat) × (Nat → Nat → Int64)
def jl_kd (h : LH) (a : Nat) : Nat := (h.1[a]?).elim 999 (fun q => q.1)
def jl_ln (h : LH) (a : Nat) : Nat := (h.1[a]?).elim 0 (fun q => q.2)
def jl_setI (h : LH) (a k : Nat) (x : Int32) : LH := (h.1, (fun b j => if b = a ∧ j = k then x else h.2.1 b j), h.2.2.1, h.2.2.2)
def jl_setP (h : LH) (a k : Nat) (x : Option Nat) : LH := (h.1, h.2.1, (fun b j => if b = a ∧ j = k then x else h.2.2.1 b j), h.2.2.2)
def jl_setL (h : LH) (a k : Nat) (x : Int64) : LH := (h.1, h.2.1, h.2.2.1, (fun b j => if b = a ∧ j = k then x else h.2.2.2 b j))
/-- a new cell, all of it 0 or null -/
def jl_new (h : LH) (kd n : Nat) : LH := (h.1 ++ [(kd, n)], (fun b j => if b = h.1.length then 0 else h.2.1 b j), (fun b j => if b = h.1.length then none else h.2.2.1 b j), (fun b j => if b = h.1.length then 0 else h.2.2.2 b j))
/-- new int[n][k] -/
def jl_new2 (h : LH) (n k : Nat) : LH := (h.1 ++ ((24, n) :: List.replicate n (20, k)), (fun b j => if h.1.length ≤ b then 0 else h.2.1 b j), (fun b j => if b = h.1.length then (if j < n then some (b + 1 + j) else none) else if h.1.length < b then none else h.2.2.1 b j), (fun b j => if h.1.length ≤ b then 0 else h.2.2.2 b j))
/-- System.arraycopy between two int[] -/
def jl_copy (h : LH) (a b sp dp n : Nat) : LH := (h.1, (fun c j => if c = b ∧ dp ≤ j ∧ j < dp + n then h.2.1 a (sp + (j - dp)) else h.2.1 c j), h.2.2.1, h.2.2.2)
/-- an exception is made -/
def jl_junk (h : LH) (n : Nat) : LH := (h.1 ++ [(40, n)], h.2.1, h.2.2.1, h.2.2.2)
/-- no exception was made last (then none was made at all) -/
def jl_nj (h : LH) : Bool := (h.1.getLast?).elim true (fun q => q.1 != 40)
def jl_rv (r : Option Nat) : Value := match r with
  | none => .null
  | some a => .ref a
def jl_in (i : Int32) (n : Nat) : Bool := decide (¬ i < 0) && decide (i.toNatClampNeg < n)
def jl_cmp (c : ClassFile.Cond) (x y : Int32) : Bool := match c with
  | .eq => decide (x = y)
  | .ne => decide (¬ x = y)
  | .lt => decide (x < y)
  | .ge => decide (y ≤ x)
  | .gt => decide (y < x)
  | .le => decide (x ≤ y)
/-- what a step gives: a configuration; or the end with an answer; or a call (how: 1 special, 2 static, 3 virtual; method, arguments, rest of the stack); or a throw (kind of exception) -/
abbrev JCfg : Type := Nat × List Value × List Value × LH
abbrev JOut : Type := (Option Value ⊕ Nat) × LH
abbrev JStep : Type := JCfg ⊕ (Option Value ⊕ ((Nat × Nat × List Value × List Value) ⊕ Nat))
/-- the program's tables: field (class, place) of a constant pool's number; method; class to make; constant (int, or a String's number); a field's type (0 int, 1 boolean, 2 byte, 3 reference) and whether it is final; a class' number of fields; a method: how many arguments with the receiver, kind of call's receiver (its class' kind, or 999 for static) -/
def jl_go (pc : Nat) (off : Int) (ls st : List Value) (h : LH) : Option JStep := if 0 ≤ (pc : Int) + off then some (.inl (((pc : Int) + off).toNat, ls, st, h)) else none
def jl_next (pc : Nat) (ls st : List Value) (h : LH) : Option JStep := some (.inl (pc, ls, st, h))
/-- a branch -/
def jl_br (b : Bool) (pc : Nat) (off : Int) (len : Nat) (ls st : List Value) (h : LH) : Option JStep := if 0 ≤ (pc : Int) + off then (if b = true then jl_next ((pc : Int) + off).toNat ls st h else jl_next (pc + len) ls st h) else none
def jl_loadI (ls st : List Value) (h : LH) (pc i : Nat) : Option JStep := match ls[i]? with
  | some (.int x) => jl_next pc ls (.int x :: st) h
  | _ => none
def jl_loadA (ls st : List Value) (h : LH) (pc i : Nat) : Option JStep := match ls[i]? with
  | some (.ref a) => jl_next pc ls (.ref a :: st) h
  | _ => none
def jl_storeI (ls st : List Value) (h : LH) (pc i : Nat) : Option JStep := match st with
  | .int x :: st => if i < ls.length then jl_next pc (ls.set i (.int x)) st h else none
  | _ => none
def jl_storeA (ls st : List Value) (h : LH) (pc i : Nat) : Option JStep := match st with
  | .ref a :: st => if i < ls.length then jl_next pc (ls.set i (.ref a)) st h else none
  | _ => none
def jl_bin (f : Int32 → Int32 → Int32) (ls st : List Value) (h : LH) (pc : Nat) : Option JStep := match st with
  | .int y :: .int x :: st => jl_next pc ls (.int (f x y) :: st) h
  | _ => none
def jl_div (f : Int32 → Int32 → Int32) (ls st : List Value) (h : LH) (pc : Nat) : Option JStep := match st with
  | .int y :: .int x :: st => if y = 0 then none else jl_next pc ls (.int (f x y) :: st) h
  | _ => none
def jl_un (f : Int32 → Int32) (ls st : List Value) (h : LH) (pc : Nat) : Option JStep := match st with
  | .int x :: st => jl_next pc ls (.int (f x) :: st) h
  | _ => none
def jl_get (T : JTab) (own idx : Nat) (ls st : List Value) (h : LH) (pc : Nat) : Option JStep := match st, T.1 own idx with
  | .ref a :: st, some (ci, k) =>
    if ci = 13 then (if jl_kd h a = 31 then (if k = 0 then jl_next pc ls (.ref (a + 21) :: st) h else if k = 1 then jl_next pc ls (.int 0 :: st) h else none) else none)
    else if jl_kd h a = ci ∧ ci < 12 ∧ k < T.2.2.2.2.2.1 ci then jl_next pc ls ((if (T.2.2.2.2.1 ci k).1 = 3 then jl_rv (h.2.2.1 a k) else .int (h.2.1 a k)) :: st) h else none
  | _, _ => none
def jl_put (T : JTab) (own : Nat) (ini : Bool) (idx : Nat) (ls st : List Value) (h : LH) (pc : Nat) : Option JStep := match st, T.1 own idx with
  | .int x :: .ref a :: st, some (ci, k) =>
    if jl_kd h a = ci ∧ ci < 12 ∧ 64 ≤ a ∧ k < T.2.2.2.2.2.1 ci ∧ T.2.2.2.2.1 ci k = (0, false) then jl_next pc ls st (jl_setI h a k x)
    else if jl_kd h a = ci ∧ ci < 12 ∧ 64 ≤ a ∧ k < T.2.2.2.2.2.1 ci ∧ T.2.2.2.2.1 ci k = (1, false) ∧ (x = 0 ∨ x = 1) then jl_next pc ls st (jl_setI h a k x)
    else none
  | .ref b :: .ref a :: st, some (ci, k) =>
    if jl_kd h a = ci ∧ ci < 12 ∧ 64 ≤ a ∧ k < T.2.2.2.2.2.1 ci ∧ (T.2.2.2.2.1 ci k).1 = 3 ∧ ((T.2.2.2.2.1 ci k).2 = false ∨ (ini = true ∧ own = ci)) then jl_next pc ls st (jl_setP h a k (some b)) else none
  | _, _ => none
def jl_ald (ok : Nat → Bool) (ls st : List Value) (h : LH) (pc : Nat) : Option JStep := match st with
  | .int i :: .ref a :: st => if ok (jl_kd h a) = true ∧ jl_in i (jl_ln h a) = true then jl_next pc ls (.int (h.2.1 a i.toNatClampNeg) :: st) h else none
  | _ => none
def jl_aald (ls st : List Value) (h : LH) (pc : Nat) : Option JStep := match st with
  | .int i :: .ref a :: st => if (jl_kd h a = 24 ∨ jl_kd h a = 25) ∧ jl_in i (jl_ln h a) = true then jl_next pc ls (jl_rv (h.2.2.1 a i.toNatClampNeg) :: st) h else none
  | _ => none
def jl_lald (ls st : List Value) (h : LH) (pc : Nat) : Option JStep := match st with
  | .int i :: .ref a :: st => if jl_kd h a = 23 ∧ jl_in i (jl_ln h a) = true then jl_next pc ls (.long (h.2.2.2 a i.toNatClampNeg) :: st) h else none
  | _ => none
def jl_iast (ls st : List Value) (h : LH) (pc : Nat) : Option JStep := match st with
  | .int x :: .int i :: .ref a :: st => if jl_kd h a = 20 ∧ 64 ≤ a ∧ jl_in i (jl_ln h a) = true then jl_next pc ls st (jl_setI h a i.toNatClampNeg x) else none
  | _ => none
def jl_bast (ls st : List Value) (h : LH) (pc : Nat) : Option JStep := match st with
  | .int x :: .int i :: .ref a :: st =>
    if jl_kd h a = 21 ∧ 64 ≤ a ∧ jl_in i (jl_ln h a) = true then jl_next pc ls st (jl_setI h a i.toNatClampNeg (vp_nar .byte x))
    else if jl_kd h a = 22 ∧ 64 ≤ a ∧ jl_in i (jl_ln h a) = true then jl_next pc ls st (jl_setI h a i.toNatClampNeg (vp_nar .boolean x)) else none
  | _ => none
def jl_last (ls st : List Value) (h : LH) (pc : Nat) : Option JStep := match st with
  | .long x :: .int i :: .ref a :: st => if jl_kd h a = 23 ∧ 64 ≤ a ∧ jl_in i (jl_ln h a) = true then jl_next pc ls st (jl_setL h a i.toNatClampNeg x) else none
  | _ => none
def jl_aast (ls st : List Value) (h : LH) (pc : Nat) : Option JStep := match st with
  | .ref v :: .int i :: .ref a :: st => if jl_kd h a = 25 ∧ 64 ≤ a ∧ jl_in i (jl_ln h a) = true ∧ jl_kd h v = 2 ∧ 64 ≤ v then jl_next pc ls st (jl_setP h a i.toNatClampNeg (some v)) else none
  | _ => none
def jl_alen (ls st : List Value) (h : LH) (pc : Nat) : Option JStep := match st with
  | .ref a :: st => if (20 ≤ jl_kd h a ∧ jl_kd h a ≤ 25) ∨ jl_kd h a = 30 ∨ jl_kd h a = 32 then jl_next pc ls (.int (Int32.ofNat (jl_ln h a)) :: st) h else none
  | _ => none
def jl_akd (t : ArrayType) : Nat := match t with
  | .int => 20
  | .byte => 21
  | .boolean => 22
  | .long => 23
  | _ => 999
def jl_newa (t : ArrayType) (ls st : List Value) (h : LH) (pc : Nat) : Option JStep := match st with
  | .int n :: st => if ¬ n < 0 ∧ n.toNatClampNeg ≤ 10000 ∧ jl_akd t < 900 ∧ jl_nj h = true then jl_next pc ls (.ref h.1.length :: st) (jl_new h (jl_akd t) n.toNatClampNeg) else none
  | _ => none
def jl_anew (T : JTab) (own idx : Nat) (ls st : List Value) (h : LH) (pc : Nat) : Option JStep := match st with
  | .int n :: st => if ¬ n < 0 ∧ n.toNatClampNeg ≤ 10000 ∧ T.2.2.1 own idx = some 2 ∧ jl_nj h = true then jl_next pc ls (.ref h.1.length :: st) (jl_new h 25 n.toNatClampNeg) else none
  | _ => none
def jl_mnew (T : JTab) (own idx dim : Nat) (ls st : List Value) (h : LH) (pc : Nat) : Option JStep := match st with
  | .int k :: .int n :: st => if ¬ n < 0 ∧ ¬ k < 0 ∧ n.toNatClampNeg ≤ 10000 ∧ k.toNatClampNeg ≤ 10000 ∧ dim = 2 ∧ T.2.2.1 own idx = some 24 ∧ jl_nj h = true then jl_next pc ls (.ref h.1.length :: st) (jl_new2 h n.toNatClampNeg k.toNatClampNeg) else none
  | _ => none
def jl_mk (T : JTab) (own idx : Nat) (ls st : List Value) (h : LH) (pc : Nat) : Option JStep := match T.2.2.1 own idx with
  | some ci => if ci < 12 ∧ jl_nj h = true then jl_next pc ls (.ref h.1.length :: st) (jl_new h ci (T.2.2.2.2.2.1 ci)) else if 100 ≤ ci ∧ st = [] then some (.inr (.inr (.inr (ci - 100)))) else none
  | none => none
/-- the top n of the stack, the deepest first; and the rest -/
def jl_pop (n : Nat) (st : List Value) : List Value × List Value := ((st.take n).reverse, st.drop n)
def jl_inv (T : JTab) (own idx : Nat) (ls st : List Value) (h : LH) (pc : Nat) (how : Nat) : Option JStep := match T.2.1 own idx with
  | some 9000 => if how = 1 then (match st with | .ref _ :: st => if st.length ≤ 8 then jl_next pc ls st h else none | _ => none) else none
  | some 9001 => if how = 2 then (match st with
    | .int n :: .int dp :: .ref b :: .int sp :: .ref a :: st => if jl_kd h a = 20 ∧ 64 ≤ a ∧ jl_kd h b = 20 ∧ 64 ≤ b ∧ ¬ a = b ∧ ¬ n < 0 ∧ ¬ sp < 0 ∧ ¬ dp < 0 ∧ sp.toNatClampNeg + n.toNatClampNeg ≤ jl_ln h a ∧ dp.toNatClampNeg + n.toNatClampNeg ≤ jl_ln h b ∧ st.length ≤ 4 then jl_next pc ls st (jl_copy h a b sp.toNatClampNeg dp.toNatClampNeg n.toNatClampNeg) else none
    | _ => none) else none
  | some 9002 => if how = 2 then (match st with | .int y :: .int x :: st => if st.length ≤ 8 then jl_next pc ls (.int (if y < x then y else x) :: st) h else none | _ => none) else none
  | some 9003 => if how = 2 then (match st with | .int y :: .int x :: st => if st.length ≤ 8 then jl_next pc ls (.int (if x < y then y else x) :: st) h else none | _ => none) else none
  | some 9004 => if how = 2 then (match st with | .int x :: st => if st.length ≤ 8 then jl_next pc ls (.int (if 0 ≤ x then x else 0 - x) :: st) h else none | _ => none) else none
  | some m =>
    let na := (T.2.2.2.2.2.2 m).1
    let rk := (T.2.2.2.2.2.2 m).2
    if na ≤ st.length ∧ (jl_pop na st).2.length ≤ 8 ∧ st.all (fun v => decide (v.category = 1)) = true then
      (if how = 2 then (if rk = 999 then some (.inr (.inr (.inl (how, m, jl_pop na st)))) else none)
       else match (jl_pop na st).1 with
        | .ref a :: _ => if jl_kd h a = rk ∧ rk < 999 then some (.inr (.inr (.inl (how, m, jl_pop na st)))) else none
        | _ => none)
    else none
  | none => none
def jl_ldc (T : JTab) (own idx : Nat) (ls st : List Value) (h : LH) (pc : Nat) : Option JStep := match T.2.2.2.1 own idx with
  | some (.inl x) => if own = 13 then none else jl_next pc ls (.int x :: st) h
  | some (.inr k) => if k < 21 ∧ ¬ own = 13 then jl_next pc ls (.ref k :: st) h else none
  | none => none
def jl_ldcw (T : JTab) (own idx : Nat) (ls st : List Value) (h : LH) (pc : Nat) : Option JStep := match T.2.2.2.1 own idx with
  | some (.inl x) => if own = 13 then none else jl_next pc ls (.int x :: st) h
  | _ => none
/-- a static: a number, or (100) a reference of which nothing is known -/
def jl_gets (T : JTab) (own idx : Nat) (ls st : List Value) (h : LH) (pc : Nat) : Option JStep := match T.2.2.2.1 own idx with
  | some (.inl x) => if own = 13 then jl_next pc ls (.int x :: st) h else none
  | some (.inr k) => if k = 100 ∧ own = 13 then jl_next pc ls (.retAddr 1 :: st) h else none
  | none => none
/-- a return: of what the method gives (0 void, 1 int, 2 boolean, 3 byte, 4 char) -/
def jl_ret (rt : Nat) (st : List Value) : Option JStep := match st with
  | [.int x] => if rt = 1 ∨ (rt = 2 ∧ (x = 0 ∨ x = 1)) ∨ (rt = 3 ∧ x.toInt8.toInt32 = x) ∨ (rt = 4 ∧ (x.toUInt32 % 65536).toInt32 = x) then some (.inr (.inl (some (.int x)))) else none
  | _ => none
/-- one instruction. T the tables; own the class that holds the method; ini: it is a constructor; rt: what it gives -/
def jl_step (T : JTab) (own : Nat) (ini : Bool) (rt : Nat) (i : Instr) (len pc : Nat) (ls st : List Value) (h : LH) : Option JStep := match i with
  | .aload i => jl_loadA ls st h (pc + len) i
  | .aload_n i => jl_loadA ls st h (pc + len) i
  | .iload i => jl_loadI ls st h (pc + len) i
  | .iload_n i => jl_loadI ls st h (pc + len) i
  | .astore i => jl_storeA ls st h (pc + len) i
  | .astore_n i => jl_storeA ls st h (pc + len) i
  | .istore i => jl_storeI ls st h (pc + len) i
  | .istore_n i => jl_storeI ls st h (pc + len) i
  | .iconst n => jl_next (pc + len) ls (.int (Int32.ofInt n) :: st) h
  | .bipush n => jl_next (pc + len) ls (.int (Int8.ofInt n).toInt32 :: st) h
  | .sipush n => jl_next (pc + len) ls (.int (Int16.ofInt n).toInt32 :: st) h
  | .iadd => jl_bin (fun x y => x + y) ls st h (pc + len)
  | .isub => jl_bin (fun x y => x - y) ls st h (pc + len)
  | .imul => jl_bin (fun x y => x * y) ls st h (pc + len)
  | .idiv => jl_div (fun x y => x / y) ls st h (pc + len)
  | .irem => jl_div (fun x y => x - x / y * y) ls st h (pc + len)
  | .iand => jl_bin (fun x y => x &&& y) ls st h (pc + len)
  | .ior => jl_bin (fun x y => x ||| y) ls st h (pc + len)
  | .ixor => jl_bin (fun x y => x ^^^ y) ls st h (pc + len)
  | .ishl => jl_bin (fun x y => x <<< (y &&& 31)) ls st h (pc + len)
  | .ishr => jl_bin (fun x y => x >>> (y &&& 31)) ls st h (pc + len)
  | .iushr => jl_bin (fun x y => (x.toUInt32 >>> (y.toUInt32 &&& Int32.toUInt32 31)).toInt32) ls st h (pc + len)
  | .ineg => jl_un (fun x => -x) ls st h (pc + len)
  | .i2b => jl_un (fun x => x.toInt8.toInt32) ls st h (pc + len)
  | .i2c => jl_un (fun x => (x.toUInt32 % 65536).toInt32) ls st h (pc + len)
  | .i2l => match st with
    | .int x :: st => jl_next (pc + len) ls (.long x.toInt64 :: st) h
    | _ => none
  | .lcmp => match st with
    | .long y :: .long x :: st => jl_next (pc + len) ls (.int (lg_cmp x y) :: st) h
    | _ => none
  | .lconst n => jl_next (pc + len) ls (.long (Int64.ofNat (n : Nat)) :: st) h
  | .iinc i n => match ls[i]? with
    | some (.int x) => if i < ls.length then jl_next (pc + len) (ls.set i (.int (x + Int32.ofInt n))) st h else none
    | _ => none
  | .dup => match st with
    | v :: st => if v.category = 1 then jl_next (pc + len) ls (v :: v :: st) h else none
    | _ => none
  | .dup2 => match st with
    | v :: w :: st => if v.category = 1 ∧ w.category = 1 then jl_next (pc + len) ls (v :: w :: v :: w :: st) h else none
    | _ => none
  | .pop => match st with
    | v :: st => if v.category = 1 then jl_next (pc + len) ls st h else none
    | _ => none
  | .goto off => jl_go pc off ls st h
  | .ifCond c off => match st with
    | .int x :: st => jl_br (jl_cmp c x 0) pc off len ls st h
    | _ => none
  | .if_icmp c off => match st with
    | .int y :: .int x :: st => jl_br (jl_cmp c x y) pc off len ls st h
    | _ => none
  | .tableswitch d lo hi offs => match st with
    | .int x :: st => if x.toInt < lo ∨ hi < x.toInt then jl_go pc d ls st h else (offs[(x.toInt - lo).toNat]?).elim none (fun off => jl_go pc off ls st h)
    | _ => none
  | .lookupswitch d ps => match st with
    | .int x :: st => if (ps.toList.zip (ps.toList.drop 1)).all (fun (a, next) => a.1 < next.1) = true then jl_go pc (Op.lookupswitch.offset ps.toList d x.toInt) ls st h else none
    | _ => none
  | .getfield idx => jl_get T own idx ls st h (pc + len)
  | .putfield idx => jl_put T own ini idx ls st h (pc + len)
  | .iaload => jl_ald (fun k => k == 20 || k == 30) ls st h (pc + len)
  | .baload => jl_ald (fun k => k == 21 || k == 22 || k == 32) ls st h (pc + len)
  | .aaload => jl_aald ls st h (pc + len)
  | .laload => jl_lald ls st h (pc + len)
  | .iastore => jl_iast ls st h (pc + len)
  | .bastore => jl_bast ls st h (pc + len)
  | .lastore => jl_last ls st h (pc + len)
  | .aastore => jl_aast ls st h (pc + len)
  | .arraylength => jl_alen ls st h (pc + len)
  | .newarray t => jl_newa t ls st h (pc + len)
  | .anewarray idx => jl_anew T own idx ls st h (pc + len)
  | .multianewarray idx d => jl_mnew T own idx d ls st h (pc + len)
  | .new idx => jl_mk T own idx ls st h (pc + len)
  | .invokespecial idx => jl_inv T own idx ls st h (pc + len) 1
  | .invokestatic idx => jl_inv T own idx ls st h (pc + len) 2
  | .invokevirtual idx => jl_inv T own idx ls st h (pc + len) 3
  | .ldc idx => jl_ldc T own idx ls st h (pc + len)
  | .ldc_w idx => jl_ldcw T own idx ls st h (pc + len)
  | .getstatic idx => jl_gets T own idx ls st h (pc + len)
  | .ireturn => jl_ret rt st
  | .return_ => if rt = 0 ∧ st = [] then some (.inr (.inl none)) else none
  | _ => none
/-- a method: class, constructor or not, what it gives, its instructions by pc, its handlers (kind of exception, place), how many locals -/
abbrev JG : Type := Nat → List Value → LH → JOut → Prop
/-- a handler begins by laying the exception into a local: where it goes on, and the locals there -/
def jl_catch (M : JMeth) (hp : Nat) (ls : List Value) : Option (Nat × List Value) := match M.2.2.2.1.lookup hp with
  | some (.astore i, len) => if i < ls.length then some (hp + len, ls.set i (.retAddr 0)) else none
  | some (.astore_n i, len) => if (i : Nat) < ls.length then some (hp + len, ls.set i (.retAddr 0)) else none
  | _ => none
/-- the run of a method's body within n steps -/
def jl_run (T : JTab) (G : JG) (M : JMeth) : Nat → Nat → List Value → List Value → LH → JOut → Prop
  | 0, _, _, _, _, _ => False
  | n + 1, pc, ls, st, h, o => match M.2.2.2.1.lookup pc with
    | none => False
    | some (i, len) => match jl_step T M.1 M.2.1 M.2.2.1 i len pc ls st h with
      | none => False
      | some (.inl (pc', ls', st', h')) => jl_run T G M n pc' ls' st' h' o
      | some (.inr (.inl v)) => o = (.inl v, h)
      | some (.inr (.inr (.inl (how, m, as, rest)))) => ∃ o1 : JOut, G m as h o1 ∧ (match o1.1 with
        | .inl v => jl_run T G M n (pc + len) ls (v.toList ++ rest) o1.2 o
        | .inr k => how ≠ 1 ∧ (match M.2.2.2.2.1.lookup k with
          | some hp => (match jl_catch M hp ls with
            | some (pc', ls') => jl_run T G M n pc' ls' [] o1.2 o
            | none => False)
          | none => M.2.2.2.2.1 = [] ∧ o = (.inr k, o1.2)))
      | some (.inr (.inr (.inr k))) => M.2.2.2.2.1 = [] ∧ o = (.inr k, jl_junk h 6)
def jl_Run (T : JTab) (G : JG) (M : JMeth) (pc : Nat) (ls st : List Value) (h : LH) (o : JOut) : Prop := ∃ n, jl_run T G M n pc ls st h o
/-- the locals at the entry: .retAddr 0 stands for what isn't set -/
def jl_entry (as : List Value) (n : Nat) : List Value := as ++ List.replicate (n - as.length) (.retAddr 0)
/-- what a method does, by the depth of calls -/
def jl_Sem (T : JTab) (Ms : Nat → Option JMeth) : Nat → JG
  | 0, _, _, _, _ => False
  | d + 1, m, as, h, o => ∃ M, Ms m = some M ∧ as.length ≤ M.2.2.2.2.2 ∧ as.all (fun v => decide (v.category = 1)) = true ∧ jl_Run T (jl_Sem T Ms d) M 0 (jl_entry as M.2.2.2.2.2) [] h o

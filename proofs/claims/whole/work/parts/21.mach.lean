/-! ===== A pure machine: the bytecode run over a store of numbers. The objects and rows are laid out once (lay), a reference is a place there ===== -/
abbrev qm_St : Type := (Nat → Int32) × (Nat → Nat → Int32)
def qm_rI (σ : qm_St) (k : Nat) : Int32 := σ.1 k
def qm_rF (σ : qm_St) (j i : Nat) : Int32 := σ.2 j i
def qm_wI (σ : qm_St) (k : Nat) (v : Int32) : qm_St := (fun q => if q = k then v else σ.1 q, σ.2)
def qm_wF (σ : qm_St) (j i : Nat) (v : Int32) : qm_St := (σ.1, fun q => if q = j then upd (σ.2 j) i v else σ.2 q)
def qm_wR (σ : qm_St) (j : Nat) (g : Nat → Int32) : qm_St := (σ.1, fun q => if q = j then g else σ.2 q)
/-- a thing: its kind's place in vwCl, its fields (a number by its slot, or a reference that stays), or a row of n numbers, by its number, or a row of n rows, from a place on -/
abbrev qm_LE : Type := (Nat × List (Nat ⊕ Nat)) ⊕ ((Nat × Nat) ⊕ (Nat × Nat))
/-- a method: name, code, maxLocals, what it answers, its kind's number, how many it is given -/
abbrev qm_MI : Type := MethodName × ByteArray × Nat × Option FieldType × Nat × Nat
/-- what a place of a pool is: a field (kind's place, number, 0 int 1 boolean 2 neither), a method (static or not), an int, a long, a thing of the library's own -/
abbrev qm_PE : Type := (Nat × Nat × Nat) ⊕ ((Bool × qm_MI) ⊕ (Int32 ⊕ (Int64 ⊕ Nat)))
abbrev qm_LS : Type := List (Option Value)
abbrev qm_Re : Type := Nat × qm_LS × List Value × qm_St
def qm_len : Instr → Nat
  | .bipush _ => 2
  | .iload _ => 2
  | .lload _ => 2
  | .aload _ => 2
  | .istore _ => 2
  | .lstore _ => 2
  | .astore _ => 2
  | .ldc _ => 2
  | .sipush _ => 3
  | .iinc _ _ => 3
  | .ldc_w _ => 3
  | .ldc2_w _ => 3
  | .ifCond _ _ => 3
  | .if_icmp _ _ => 3
  | .goto _ => 3
  | .getfield _ => 3
  | .putfield _ => 3
  | .invokestatic _ => 3
  | .invokevirtual _ => 3
  | .tableswitch _ _ _ _ => 0
  | .lookupswitch _ _ => 0
  | _ => 1
def qm_chk (i : Instr) (len : Nat) : Bool := qm_len i == 0 || qm_len i == len
def qm_free (ls : qm_LS) (i : Nat) : Bool := match i with
  | 0 => true
  | j + 1 => match ls[j]? with
    | some (some (.long _)) => false
    | some (some (.double _)) => false
    | _ => true
def qm_iL (i q : Nat) (ls : qm_LS) (st : List Value) (σ : qm_St) : Option qm_Re := match ls[i]? with
  | some (some (.int x)) => some (q, ls, .int x :: st, σ)
  | _ => none
def qm_lL (i q : Nat) (ls : qm_LS) (st : List Value) (σ : qm_St) : Option qm_Re := match ls[i]? with
  | some (some (.long x)) => some (q, ls, .long x :: st, σ)
  | _ => none
def qm_aL (i q : Nat) (ls : qm_LS) (st : List Value) (σ : qm_St) : Option qm_Re := match ls[i]? with
  | some (some (.ref x)) => some (q, ls, .ref x :: st, σ)
  | _ => none
def qm_iS (i q : Nat) (ls : qm_LS) (st : List Value) (σ : qm_St) : Option qm_Re := match st with
  | .int x :: r => if i < ls.length ∧ qm_free ls i = true then some (q, ls.set i (some (.int x)), r, σ) else none
  | _ => none
def qm_aS (i q : Nat) (ls : qm_LS) (st : List Value) (σ : qm_St) : Option qm_Re := match st with
  | .ref x :: r => if i < ls.length ∧ qm_free ls i = true then some (q, ls.set i (some (.ref x)), r, σ) else none
  | _ => none
def qm_lS (i q : Nat) (ls : qm_LS) (st : List Value) (σ : qm_St) : Option qm_Re := match st with
  | .long x :: r => if i + 1 < ls.length ∧ qm_free ls i = true then some (q, (ls.set i (some (.long x))).set (i + 1) none, r, σ) else none
  | _ => none
def qm_inc (i : Nat) (n : Int) (q : Nat) (ls : qm_LS) (st : List Value) (σ : qm_St) : Option qm_Re := match ls[i]? with
  | some (some (.int x)) => if qm_free ls i = true then some (q, ls.set i (some (.int (x + Int32.ofInt n))), st, σ) else none
  | _ => none
def qm_b (f : Int32 → Int32 → Int32) (q : Nat) (ls : qm_LS) (st : List Value) (σ : qm_St) : Option qm_Re := match st with
  | .int y :: .int x :: r => some (q, ls, .int (f x y) :: r, σ)
  | _ => none
/-- one that divides -/
def qm_bd (f : Int32 → Int32 → Int32) (q : Nat) (ls : qm_LS) (st : List Value) (σ : qm_St) : Option qm_Re := match st with
  | .int y :: .int x :: r => if y = 0 then none else some (q, ls, .int (f x y) :: r, σ)
  | _ => none
def qm_u (f : Int32 → Int32) (q : Nat) (ls : qm_LS) (st : List Value) (σ : qm_St) : Option qm_Re := match st with
  | .int x :: r => some (q, ls, .int (f x) :: r, σ)
  | _ => none
def qm_lb (f : Int64 → Int64 → Int64) (q : Nat) (ls : qm_LS) (st : List Value) (σ : qm_St) : Option qm_Re := match st with
  | .long y :: .long x :: r => some (q, ls, .long (f x y) :: r, σ)
  | _ => none
def qm_lbd (f : Int64 → Int64 → Int64) (q : Nat) (ls : qm_LS) (st : List Value) (σ : qm_St) : Option qm_Re := match st with
  | .long y :: .long x :: r => if y = 0 then none else some (q, ls, .long (f x y) :: r, σ)
  | _ => none
def qm_jmp (pc : Nat) (off : Int) (ls : qm_LS) (st : List Value) (σ : qm_St) : Option qm_Re :=
  if 0 ≤ (pc : Int) + off then some (((pc : Int) + off).toNat, ls, st, σ) else none
def qm_c1 (c : ClassFile.Cond) (x : Int32) : Bool := match c with
  | .eq => decide (x = 0)
  | .ne => decide (¬ x = 0)
  | .lt => decide (x < 0)
  | .ge => decide (0 ≤ x)
  | .gt => decide (0 < x)
  | .le => decide (x ≤ 0)
def qm_c2 (c : ClassFile.Cond) (x y : Int32) : Bool := match c with
  | .eq => decide (x = y)
  | .ne => decide (¬ x = y)
  | .lt => decide (x < y)
  | .ge => decide (y ≤ x)
  | .gt => decide (y < x)
  | .le => decide (x ≤ y)
def qm_if (c : ClassFile.Cond) (off : Int) (pc : Nat) (ls : qm_LS) (st : List Value) (σ : qm_St) : Option qm_Re := match st with
  | .int x :: r => if 0 ≤ (pc : Int) + off then some (if qm_c1 c x = true then ((pc : Int) + off).toNat else pc + 3, ls, r, σ) else none
  | _ => none
def qm_if2 (c : ClassFile.Cond) (off : Int) (pc : Nat) (ls : qm_LS) (st : List Value) (σ : qm_St) : Option qm_Re := match st with
  | .int y :: .int x :: r => if 0 ≤ (pc : Int) + off then some (if qm_c2 c x y = true then ((pc : Int) + off).toNat else pc + 3, ls, r, σ) else none
  | _ => none
def qm_tsw (dflt lo hi : Int) (offs : Array Int) (pc : Nat) (ls : qm_LS) (st : List Value) (σ : qm_St) : Option qm_Re := match st with
  | .int x :: r => if x.toInt < lo ∨ hi < x.toInt then qm_jmp pc dflt ls r σ else match offs[(x.toInt - lo).toNat]? with
    | some off => qm_jmp pc off ls r σ
    | none => none
  | _ => none
def qm_lsw (dflt : Int) (ps : Array (Int × Int)) (pc : Nat) (ls : qm_LS) (st : List Value) (σ : qm_St) : Option qm_Re := match st with
  | .int x :: r => if (ps.toList.zip (ps.toList.drop 1)).all (fun (a, next) => a.1 < next.1) = true then qm_jmp pc (Op.lookupswitch.offset ps.toList dflt x.toInt) ls r σ else none
  | _ => none
def qm_get (lay : List qm_LE) (pe : Option qm_PE) (q : Nat) (ls : qm_LS) (st : List Value) (σ : qm_St) : Option qm_Re := match pe, st with
  | some (.inl (ci, k, _)), .ref a :: r => match lay[a]? with
    | some (.inl (cj, fs)) => if cj = ci then match fs[k]? with
        | some (.inl s) => some (q, ls, .int (qm_rI σ s) :: r, σ)
        | some (.inr b) => some (q, ls, .ref b :: r, σ)
        | none => none
      else none
    | _ => none
  | _, _ => none
def qm_put (lay : List qm_LE) (pe : Option qm_PE) (q : Nat) (ls : qm_LS) (st : List Value) (σ : qm_St) : Option qm_Re := match pe, st with
  | some (.inl (ci, k, fl)), .int v :: .ref a :: r => match lay[a]? with
    | some (.inl (cj, fs)) => if cj = ci ∧ (fl = 0 ∨ (fl = 1 ∧ (v = 0 ∨ v = 1))) then match fs[k]? with
        | some (.inl s) => some (q, ls, r, qm_wI σ s v)
        | _ => none
      else none
    | _ => none
  | _, _ => none
def qm_ial (lay : List qm_LE) (q : Nat) (ls : qm_LS) (st : List Value) (σ : qm_St) : Option qm_Re := match st with
  | .int i :: .ref a :: r => match lay[a]? with
    | some (.inr (.inl (n, j))) => if i < 0 ∨ n ≤ i.toNatClampNeg then none else some (q, ls, .int (qm_rF σ j i.toNatClampNeg) :: r, σ)
    | _ => none
  | _ => none
def qm_aal (lay : List qm_LE) (q : Nat) (ls : qm_LS) (st : List Value) (σ : qm_St) : Option qm_Re := match st with
  | .int i :: .ref a :: r => match lay[a]? with
    | some (.inr (.inr (n, b))) => if i < 0 ∨ n ≤ i.toNatClampNeg then none else some (q, ls, .ref (b + i.toNatClampNeg) :: r, σ)
    | _ => none
  | _ => none
def qm_ias (lay : List qm_LE) (q : Nat) (ls : qm_LS) (st : List Value) (σ : qm_St) : Option qm_Re := match st with
  | .int x :: .int i :: .ref a :: r => match lay[a]? with
    | some (.inr (.inl (n, j))) => if i < 0 ∨ n ≤ i.toNatClampNeg then none else some (q, ls, r, qm_wF σ j i.toNatClampNeg x)
    | _ => none
  | _ => none
def qm_aln (lay : List qm_LE) (q : Nat) (ls : qm_LS) (st : List Value) (σ : qm_St) : Option qm_Re := match st with
  | .ref a :: r => match lay[a]? with
    | some (.inr (.inl (n, _))) => some (q, ls, .int (Int32.ofNat n) :: r, σ)
    | _ => none
  | _ => none
def qm_cat (l : List Value) : Nat := (l.map fun v => v.category).sum
/-- what the library does by itself: 0 Math.min, 1 Math.max, 2 System.arraycopy of rows of numbers -/
def qm_lib (lay : List qm_LE) (pe : Option qm_PE) (q : Nat) (ls : qm_LS) (st : List Value) (σ : qm_St) : Option qm_Re := match pe with
  | some (.inr (.inr (.inr (.inr 0)))) => match st with
    | .int y :: .int x :: r => if qm_cat r ≤ 8 then some (q, ls, .int (if y < x then y else x) :: r, σ) else none
    | _ => none
  | some (.inr (.inr (.inr (.inr 1)))) => match st with
    | .int y :: .int x :: r => if qm_cat r ≤ 8 then some (q, ls, .int (if x < y then y else x) :: r, σ) else none
    | _ => none
  | some (.inr (.inr (.inr (.inr 2)))) => match st with
    | [.int n, .int dp, .ref b, .int sp, .ref a] => match lay[a]?, lay[b]? with
      | some (.inr (.inl (n0, i))), some (.inr (.inl (n1, j))) =>
        if sp < 0 ∨ dp < 0 ∨ n < 0 ∨ n0 < sp.toNatClampNeg + n.toNatClampNeg ∨ n1 < dp.toNatClampNeg + n.toNatClampNeg then none
        else some (q, ls, [], qm_wR σ j (va_cpy (σ.2 i) (σ.2 j) sp.toNatClampNeg dp.toNatClampNeg n.toNatClampNeg))
      | _, _ => none
    | _ => none
  | _ => none
/-- the texts that stand in the pools: the first one the reader's first, then the words in their order -/
def qm_str : List (List Int32) := [[119, 111, 114, 116, 104, 32, 50, 48, 32, 45, 32, 99, 111, 108, 111, 117, 114, 32, 42, 32, 52, 32, 59, 32, 119, 97, 105, 116, 115, 32, 111, 114, 100, 101, 114, 32, 59, 32, 109, 111, 118, 101, 115, 32, 49, 32, 59], [99, 111, 108, 111, 117, 114], [108, 111, 116], [98, 101, 115, 105, 100, 101], [111, 114, 100, 101, 114], [109, 111, 114, 101], [108, 111, 116, 115], [119, 111, 114, 116, 104], [119, 97, 105, 116, 115], [109, 111, 118, 101, 115], [111, 114], [97, 110, 100], [110, 111, 116]]
def qm_ldc (pe : Option qm_PE) (q : Nat) (ls : qm_LS) (st : List Value) (σ : qm_St) : Option qm_Re := match pe with
  | some (.inr (.inr (.inl v))) => some (q, ls, .int v :: st, σ)
  | some (.inr (.inr (.inr (.inr (i + 10))))) => some (q, ls, .ref (1000 + i) :: st, σ)
  | _ => none
def qm_ldcI (pe : Option qm_PE) (q : Nat) (ls : qm_LS) (st : List Value) (σ : qm_St) : Option qm_Re := match pe with
  | some (.inr (.inr (.inl v))) => some (q, ls, .int v :: st, σ)
  | _ => none
def qm_sref (k : Nat) : Option (List Int32) := if 1000 ≤ k then qm_str[k - 1000]? else none
/-- of a text: 3 how long it is, 4 its sign at a place -/
def qm_sop (pe : Option qm_PE) (q : Nat) (ls : qm_LS) (st : List Value) (σ : qm_St) : Option qm_Re := match pe with
  | some (.inr (.inr (.inr (.inr 3)))) => match st with
    | .ref k :: r => match qm_sref k with
      | some t => if qm_cat r ≤ 8 then some (q, ls, .int (Int32.ofNat t.length) :: r, σ) else none
      | none => none
    | _ => none
  | some (.inr (.inr (.inr (.inr 4)))) => match st with
    | .int j :: .ref k :: r => match qm_sref k with
      | some t => if ¬ (j < 0 ∨ t.length ≤ j.toNatClampNeg) ∧ qm_cat r ≤ 8 then some (q, ls, .int (t.getD j.toNatClampNeg 0) :: r, σ) else none
      | none => none
    | _ => none
  | _ => none
def qm_ldc2 (pe : Option qm_PE) (q : Nat) (ls : qm_LS) (st : List Value) (σ : qm_St) : Option qm_Re := match pe with
  | some (.inr (.inr (.inr (.inl v)))) => some (q, ls, .long v :: st, σ)
  | _ => none
/-- an instruction that neither calls nor ends -/
def qm_sem (lay : List qm_LE) (po : Nat → Option qm_PE) (ins : Instr) (pc : Nat) (ls : qm_LS) (st : List Value) (σ : qm_St) : Option qm_Re := match ins with
  | .iconst n => some (pc + 1, ls, .int (Int32.ofInt n) :: st, σ)
  | .bipush n => some (pc + 2, ls, .int (Int8.ofInt n).toInt32 :: st, σ)
  | .sipush n => some (pc + 3, ls, .int (Int16.ofInt n).toInt32 :: st, σ)
  | .lconst n => some (pc + 1, ls, .long (Int64.ofNat (n : Nat)) :: st, σ)
  | .ldc i => qm_ldc (po i) (pc + 2) ls st σ
  | .ldc_w i => qm_ldcI (po i) (pc + 3) ls st σ
  | .ldc2_w i => qm_ldc2 (po i) (pc + 3) ls st σ
  | .iload i => qm_iL i (pc + 2) ls st σ
  | .iload_n i => qm_iL i (pc + 1) ls st σ
  | .lload i => qm_lL i (pc + 2) ls st σ
  | .lload_n i => qm_lL i (pc + 1) ls st σ
  | .aload i => qm_aL i (pc + 2) ls st σ
  | .aload_n i => qm_aL i (pc + 1) ls st σ
  | .istore i => qm_iS i (pc + 2) ls st σ
  | .istore_n i => qm_iS i (pc + 1) ls st σ
  | .lstore i => qm_lS i (pc + 2) ls st σ
  | .lstore_n i => qm_lS i (pc + 1) ls st σ
  | .astore i => qm_aS i (pc + 2) ls st σ
  | .astore_n i => qm_aS i (pc + 1) ls st σ
  | .iinc i n => qm_inc i n (pc + 3) ls st σ
  | .iadd => qm_b (fun x y => x + y) (pc + 1) ls st σ
  | .isub => qm_b (fun x y => x - y) (pc + 1) ls st σ
  | .imul => qm_b (fun x y => x * y) (pc + 1) ls st σ
  | .iand => qm_b (fun x y => x &&& y) (pc + 1) ls st σ
  | .ior => qm_b (fun x y => x ||| y) (pc + 1) ls st σ
  | .ixor => qm_b (fun x y => x ^^^ y) (pc + 1) ls st σ
  | .ishl => qm_b (fun x y => x <<< (y &&& 31)) (pc + 1) ls st σ
  | .ishr => qm_b (fun x y => x >>> (y &&& 31)) (pc + 1) ls st σ
  | .iushr => qm_b (fun x y => (x.toUInt32 >>> (y.toUInt32 &&& Int32.toUInt32 31)).toInt32) (pc + 1) ls st σ
  | .idiv => qm_bd (fun x y => x / y) (pc + 1) ls st σ
  | .irem => qm_bd (fun x y => x - x / y * y) (pc + 1) ls st σ
  | .ineg => qm_u (fun x => -x) (pc + 1) ls st σ
  | .i2b => qm_u (fun x => x.toInt8.toInt32) (pc + 1) ls st σ
  | .i2s => qm_u (fun x => x.toInt16.toInt32) (pc + 1) ls st σ
  | .ladd => qm_lb (fun x y => x + y) (pc + 1) ls st σ
  | .lmul => qm_lb (fun x y => x * y) (pc + 1) ls st σ
  | .ldiv => qm_lbd (fun x y => x / y) (pc + 1) ls st σ
  | .lrem => qm_lbd (fun x y => x - x / y * y) (pc + 1) ls st σ
  | .lcmp => match st with
    | .long y :: .long x :: r => some (pc + 1, ls, .int (lg_cmp x y) :: r, σ)
    | _ => none
  | .i2l => match st with
    | .int x :: r => some (pc + 1, ls, .long x.toInt64 :: r, σ)
    | _ => none
  | .l2i => match st with
    | .long x :: r => some (pc + 1, ls, .int x.toInt32 :: r, σ)
    | _ => none
  | .dup => match st with
    | v :: r => if v.category = 1 then some (pc + 1, ls, v :: v :: r, σ) else none
    | _ => none
  | .dup2 => match st with
    | v :: w :: r => if v.category = 1 ∧ w.category = 1 then some (pc + 1, ls, v :: w :: v :: w :: r, σ) else none
    | _ => none
  | .pop => match st with
    | v :: r => if v.category = 1 then some (pc + 1, ls, r, σ) else none
    | _ => none
  | .goto off => qm_jmp pc off ls st σ
  | .ifCond c off => qm_if c off pc ls st σ
  | .if_icmp c off => qm_if2 c off pc ls st σ
  | .tableswitch dflt lo hi offs => qm_tsw dflt lo hi offs pc ls st σ
  | .lookupswitch dflt ps => qm_lsw dflt ps pc ls st σ
  | .getfield i => qm_get lay (po i) (pc + 3) ls st σ
  | .putfield i => qm_put lay (po i) (pc + 3) ls st σ
  | .iaload => qm_ial lay (pc + 1) ls st σ
  | .aaload => qm_aal lay (pc + 1) ls st σ
  | .iastore => qm_ias lay (pc + 1) ls st σ
  | .arraylength => qm_aln lay (pc + 1) ls st σ
  | .invokestatic i => qm_lib lay (po i) (pc + 3) ls st σ
  | .invokevirtual i => qm_sop (po i) (pc + 3) ls st σ
  | _ => none
/-- one that ends: the answer -/
def qm_end (ret : Option FieldType) (ins : Instr) (st : List Value) : Option (Option Value) := match ins with
  | .ireturn => match ret, st with
    | some .int, [.int v] => some (some (.int v))
    | some .boolean, [.int v] => if v = 0 ∨ v = 1 then some (some (.int v)) else none
    | _, _ => none
  | .lreturn => match ret, st with
    | some .long, [.long v] => some (some (.long v))
    | _, _ => none
  | .areturn => match ret, st with
    | some (.object _), [.ref a] => some (some (.ref a))
    | _, _ => none
  | .return_ => match ret, st with
    | none, [] => some none
    | _, _ => none
  | _ => none
def qm_fl (as : List Value) : qm_LS := as.flatMap fun v => if v.category = 2 then [some v, none] else [some v]
def qm_ent (as : List Value) (n : Nat) : qm_LS := qm_fl as ++ List.replicate (n - (qm_fl as).length) none
/-- one that calls: whom, with what, what stays on the stack -/
def qm_call (lay : List qm_LE) (po : Nat → Option qm_PE) (ins : Instr) (st : List Value) : Option (qm_MI × List Value × List Value) := match ins with
  | .invokestatic i => match po i with
    | some (.inr (.inl (true, mj))) => if (st.take mj.2.2.2.2.2).length = mj.2.2.2.2.2 ∧ (qm_fl (st.take mj.2.2.2.2.2).reverse).length ≤ mj.2.2.1 ∧ qm_cat (st.drop mj.2.2.2.2.2) ≤ 8 then some (mj, (st.take mj.2.2.2.2.2).reverse, st.drop mj.2.2.2.2.2) else none
    | _ => none
  | .invokevirtual i => match po i with
    | some (.inr (.inl (false, mj))) => match st.drop mj.2.2.2.2.2 with
      | .ref a :: r => match lay[a]? with
        | some (.inl (ci, _)) => if ci = mj.2.2.2.2.1 ∧ (st.take mj.2.2.2.2.2).length = mj.2.2.2.2.2 ∧ (qm_fl (.ref a :: (st.take mj.2.2.2.2.2).reverse)).length ≤ mj.2.2.1 ∧ qm_cat r ≤ 8 then some (mj, .ref a :: (st.take mj.2.2.2.2.2).reverse, r) else none
        | _ => none
      | _ => none
    | _ => none
  | _ => none
/-- the machine: n steps at most, calls d deep at most -/
def qm_X (pool : Nat → Nat → Option qm_PE) (lay : List qm_LE) : Nat → Nat → qm_MI → Nat → qm_LS → List Value → qm_St → Option (Option Value × qm_St)
  | 0, _, _, _, _, _, _ => none
  | n + 1, d, mi, pc, ls, st, σ =>
    match decode mi.2.1 pc with
    | .error _ => none
    | .ok (ins, len) =>
      if qm_chk ins len = true then
        match qm_end mi.2.2.2.1 ins st with
        | some v => some (v, σ)
        | none => match qm_call lay (pool mi.2.2.2.2.1) ins st with
          | some (mj, as, rest) => match d with
            | 0 => none
            | d' + 1 => match qm_X pool lay n d' mj 0 (qm_ent as mj.2.2.1) [] σ with
              | none => none
              | some (v, σ') => qm_X pool lay n (d' + 1) mi (pc + 3) ls (v.toList ++ rest) σ'
          | none => match qm_sem lay (pool mi.2.2.2.2.1) ins pc ls st σ with
            | some (pc', ls', st', σ') => qm_X pool lay n d mi pc' ls' st' σ'
            | none => none
      else none

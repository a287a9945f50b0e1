/-! ===== the abstract machine: the program's instructions over a list of cells whose references are places in that list ===== -/
/-- cells; how many were made, slots; the script -/
abbrev am_H : Type := List va_E × (Nat × Nat) × (Nat × (Nat → Int32))
/-- what a method answers, or the class of what it throws -/
abbrev am_R : Type := Option Value ⊕ String
def am_u : Value := .retAddr 1
def am_w (h : am_H) (k : Nat) (e : va_E) : am_H := (h.1.set k e, h.2)
def am_n (h : am_H) (e : va_E) (sl : Nat) : am_H := (h.1 ++ [e], (h.2.1.1 + 1, h.2.1.2 + sl), h.2.2)
def am_bump (h : am_H) : am_H := (h.1, (h.2.1.1 + 1, h.2.1.2 + 6), h.2.2)
def am_cs (l : List Value) : Nat := (l.map fun v => v.category).sum
def am_kill (ls : List Value) : Nat → List Value
  | 0 => ls
  | i + 1 => if (ls.getD i .null).category = 2 then ls.set i am_u else ls
def am_s1 (ls : List Value) (i : Nat) (v : Value) : List Value := (am_kill ls i).set i v
def am_s2 (ls : List Value) (i : Nat) (v : Value) : List Value := ((am_kill ls i).set i v).set (i + 1) am_u
def am_el : List Value → List Value
  | [] => []
  | v :: r => if v.category = 2 then v :: am_u :: am_el r else v :: am_el r
noncomputable def am_ent (y : Nat) (as : List Value) : List Value := am_el as ++ List.replicate (am_mx y - (am_el as).length) am_u
def am_ii (f : Int32 → Int32 → Int32) : List Value → Option (List Value)
  | .int y :: .int x :: r => some (.int (f x y) :: r)
  | _ => none
def am_mth (f : Int32 → Int32 → Int32) : List Value → Option (List Value)
  | .int y :: .int x :: r => if am_cs r ≤ 8 then some (.int (f x y) :: r) else none
  | _ => none
def am_mab : List Value → Option (List Value)
  | .int x :: r => if am_cs r ≤ 8 then some (.int (if 0 ≤ x then x else 0 - x) :: r) else none
  | _ => none
def am_iiz (f : Int32 → Int32 → Int32) : List Value → Option (List Value)
  | .int y :: .int x :: r => if y = 0 then none else some (.int (f x y) :: r)
  | _ => none
def am_ll (f : Int64 → Int64 → Int64) : List Value → Option (List Value)
  | .long y :: .long x :: r => some (.long (f x y) :: r)
  | _ => none
def am_llz (f : Int64 → Int64 → Int64) : List Value → Option (List Value)
  | .long y :: .long x :: r => if y = 0 then none else some (.long (f x y) :: r)
  | _ => none
def am_li (f : Int64 → Int32 → Int64) : List Value → Option (List Value)
  | .int y :: .long x :: r => some (.long (f x y) :: r)
  | _ => none
def am_un (f : Int32 → Value) : List Value → Option (List Value)
  | .int x :: r => some (f x :: r)
  | _ => none
def am_unl (f : Int64 → Value) : List Value → Option (List Value)
  | .long x :: r => some (f x :: r)
  | _ => none
def am_lcm : List Value → Option (List Value)
  | .long y :: .long x :: r => some (.int (lg_cmp x y) :: r)
  | _ => none
def am_ldi (ls : List Value) (i : Nat) (st : List Value) : Option (List Value) := match ls[i]? with
  | some (.int x) => some (.int x :: st)
  | _ => none
def am_ldl (ls : List Value) (i : Nat) (st : List Value) : Option (List Value) := match ls[i]? with
  | some (.long x) => some (.long x :: st)
  | _ => none
def am_lda (ls : List Value) (i : Nat) (st : List Value) : Option (List Value) := match ls[i]? with
  | some (.ref x) => some (.ref x :: st)
  | some .null => some (.null :: st)
  | some (.retAddr 0) => some (.retAddr 0 :: st)
  | _ => none
noncomputable def am_sti (m : Nat) (ls : List Value) (i : Nat) : List Value → Option (List Value × List Value)
  | .int x :: r => if i < am_mx m then some (am_s1 ls i (.int x), r) else none
  | _ => none
noncomputable def am_stl (m : Nat) (ls : List Value) (i : Nat) : List Value → Option (List Value × List Value)
  | .long x :: r => if i + 1 < am_mx m then some (am_s2 ls i (.long x), r) else none
  | _ => none
noncomputable def am_sta (m : Nat) (ls : List Value) (i : Nat) : List Value → Option (List Value × List Value)
  | .ref x :: r => if i < am_mx m then some (am_s1 ls i (.ref x), r) else none
  | .null :: r => if i < am_mx m then some (am_s1 ls i .null, r) else none
  | _ => none
def am_cc : ClassFile.Cond → Int32 → Int32 → Bool
  | .eq, x, y => decide (x = y)
  | .ne, x, y => !decide (x = y)
  | .lt, x, y => decide (x < y)
  | .ge, x, y => decide (y ≤ x)
  | .gt, x, y => decide (y < x)
  | .le, x, y => decide (x ≤ y)
def am_ft (a b : Nat) : FieldType := ((am_tyF[a]?).getD (fun _ => .int)) b
def am_get (h : am_H) (a b : Nat) : List Value → Option (List Value)
  | .ref k :: r => match h.1[k]? with
    | some (.inr (ci, fs)) => if ci = a then (fs[b]?).map (· :: r) else none
    | _ => none
  | _ => none
def am_put (h : am_H) (a b : Nat) : List Value → Option (List Value × am_H)
  | v :: .ref k :: r => match h.1[k]? with
    | some (.inr (ci, fs)) => if ci = a ∧ b < fs.length ∧ narrow (am_ft a b) v = v ∧ fits (am_ft a b) v = true then some (r, am_w h k (.inr (ci, fs.set b v))) else none
    | _ => none
  | _ => none
def am_ix (i : Int32) (n : Nat) : Bool := decide (0 ≤ i.toInt ∧ i.toInt < n)
/-- an int-like array's load: the place of its kind among the array classes is t -/
def am_ald (h : am_H) (t : Nat) : List Value → Option (List Value)
  | .int i :: .ref k :: r => match h.1[k]? with
    | some (.inl (t', n, .inl f)) => if t' = t ∧ am_ix i n = true then some (.int (f i.toNatClampNeg) :: r) else none
    | _ => none
  | _ => none
/-- .. of the script -/
def am_sld (h : am_H) : List Value → Option (List Value)
  | .int i :: .retAddr 0 :: r => if am_ix i h.2.2.1 = true then some (.int (h.2.2.2 i.toNatClampNeg) :: r) else none
  | _ => none
def am_ast (h : am_H) (t : Nat) (ty : FieldType) : List Value → Option (List Value × am_H)
  | .int x :: .int i :: .ref k :: r => match h.1[k]? with
    | some (.inl (t', n, .inl f)) => if t' = t ∧ am_ix i n = true then some (r, am_w h k (.inl (t', n, .inl (upd f i.toNatClampNeg (vp_nar ty x))))) else none
    | _ => none
  | _ => none
def am_asi (h : am_H) : List Value → Option (List Value × am_H)
  | .int x :: .int i :: .ref k :: r => match h.1[k]? with
    | some (.inl (t', n, .inl f)) => if t' = 0 ∧ am_ix i n = true then some (r, am_w h k (.inl (t', n, .inl (upd f i.toNatClampNeg x)))) else none
    | _ => none
  | _ => none
def am_aldl (h : am_H) : List Value → Option (List Value)
  | .int i :: .ref k :: r => match h.1[k]? with
    | some (.inl (t', n, .inr (.inl f))) => if t' = 3 ∧ am_ix i n = true then some (.long (f i.toNatClampNeg) :: r) else none
    | _ => none
  | _ => none
def am_astl (h : am_H) : List Value → Option (List Value × am_H)
  | .long x :: .int i :: .ref k :: r => match h.1[k]? with
    | some (.inl (t', n, .inr (.inl f))) => if t' = 3 ∧ am_ix i n = true then some (r, am_w h k (.inl (t', n, .inr (.inl (vp_updL f i.toNatClampNeg x))))) else none
    | _ => none
  | _ => none
def am_aldr (h : am_H) : List Value → Option (List Value)
  | .int i :: .ref k :: r => match h.1[k]? with
    | some (.inl (t', n, .inr (.inr (.inr (.inr f))))) => if t' = 4 ∧ am_ix i n = true then some (va_rf (f i.toNatClampNeg) :: r) else none
    | _ => none
  | _ => none
/-- the class of the components of the reference arrays: 3, Meadow -/
def am_astr (h : am_H) : List Value → Option (List Value × am_H)
  | .ref v :: .int i :: .ref k :: r => match h.1[k]?, h.1[v]? with
    | some (.inl (t', n, .inr (.inr (.inr (.inr f))))), some (.inr (ci, _)) => if t' = 4 ∧ ci = 3 ∧ am_ix i n = true then some (r, am_w h k (.inl (t', n, .inr (.inr (.inr (.inr (va_up f i.toNatClampNeg (some v)))))))) else none
    | _, _ => none
  | _ => none
def am_new (h : am_H) (a b : Nat) (st : List Value) : List Value × am_H := (.ref h.1.length :: st, am_n h (.inr (a, (am_df[a]?).getD [])) b)
def am_zero (t n : Nat) : vp_A := if t = 3 then (n, .inr (.inl fun _ => 0)) else if t = 4 then (n, .inr (.inr (.inr (.inr fun _ => none)))) else (n, .inl fun _ => 0)
def am_nwa (h : am_H) (t : Nat) : List Value → Option (List Value × am_H)
  | .int n :: r => if 0 ≤ n.toInt ∧ n.toInt ≤ 60000 then some (.ref h.1.length :: r, am_n h (.inl (t, am_zero t n.toNatClampNeg)) n.toNatClampNeg) else none
  | _ => none
/-- arraycopy of ints -/
def am_cpy (h : am_H) : List Value → Option (List Value × am_H)
  | .int n :: .int dp :: .ref k1 :: .int sp :: .ref k0 :: r => match h.1[k0]?, h.1[k1]? with
    | some (.inl (t0, n0, .inl f)), some (.inl (t1, n1, .inl g)) =>
      if t0 = 0 ∧ t1 = 0 ∧ ¬ sp < 0 ∧ ¬ dp < 0 ∧ ¬ n < 0 ∧ sp.toNatClampNeg + n.toNatClampNeg ≤ n0 ∧ dp.toNatClampNeg + n.toNatClampNeg ≤ n1 ∧ am_cs r ≤ 8
      then some (r, am_w h k1 (.inl (t1, n1, .inl (va_cpy f g sp.toNatClampNeg dp.toNatClampNeg n.toNatClampNeg)))) else none
    | _, _ => none
  | _ => none
noncomputable def am_S (nx : Nat) (ls : List Value) (h : am_H) (o : Option (List Value)) : Option (Nat × List Value × List Value × am_H) := o.map fun st => (nx, ls, st, h)
noncomputable def am_SL (nx : Nat) (h : am_H) (o : Option (List Value × List Value)) : Option (Nat × List Value × List Value × am_H) := o.map fun q => (nx, q.1, q.2, h)
noncomputable def am_SH (nx : Nat) (ls : List Value) (o : Option (List Value × am_H)) : Option (Nat × List Value × List Value × am_H) := o.map fun q => (nx, ls, q.1, q.2)
def am_jmp (pc : Nat) (off : Int) (ls st : List Value) (h : am_H) : Option (Nat × List Value × List Value × am_H) := if 0 ≤ (pc : Int) + off then some (((pc : Int) + off).toNat, ls, st, h) else none
def am_br (b : Bool) (pc nx : Nat) (off : Int) (ls st : List Value) (h : am_H) : Option (Nat × List Value × List Value × am_H) := if 0 ≤ (pc : Int) + off then some (if b = true then ((pc : Int) + off).toNat else nx, ls, st, h) else none
/-- one instruction within a method -/
noncomputable def am_pst (m : Nat) (e : am_I) (pc : Nat) (ls st : List Value) (h : am_H) : Option (Nat × List Value × List Value × am_H) :=
  match e.1 with
  | .iconst n => some (pc + e.2.1, ls, .int (Int32.ofInt n) :: st, h)
  | .bipush n => some (pc + e.2.1, ls, .int (Int8.ofInt n).toInt32 :: st, h)
  | .sipush n => some (pc + e.2.1, ls, .int (Int16.ofInt n).toInt32 :: st, h)
  | .lconst n => some (pc + e.2.1, ls, .long (Int64.ofNat (n : Nat)) :: st, h)
  | .aconst_null => some (pc + e.2.1, ls, .null :: st, h)
  | .ldc _ => match e.2.2.2.2.2 with
    | .int x => some (pc + e.2.1, ls, .int x :: st, h)
    | _ => none
  | .ldc2_w _ => match e.2.2.2.2.2 with
    | .long x => some (pc + e.2.1, ls, .long x :: st, h)
    | _ => none
  | .iload i => am_S (pc + e.2.1) ls h (am_ldi ls i st)
  | .iload_n i => am_S (pc + e.2.1) ls h (am_ldi ls i st)
  | .lload i => am_S (pc + e.2.1) ls h (am_ldl ls i st)
  | .lload_n i => am_S (pc + e.2.1) ls h (am_ldl ls i st)
  | .aload i => am_S (pc + e.2.1) ls h (am_lda ls i st)
  | .aload_n i => am_S (pc + e.2.1) ls h (am_lda ls i st)
  | .istore i => am_SL (pc + e.2.1) h (am_sti m ls i st)
  | .istore_n i => am_SL (pc + e.2.1) h (am_sti m ls i st)
  | .lstore i => am_SL (pc + e.2.1) h (am_stl m ls i st)
  | .lstore_n i => am_SL (pc + e.2.1) h (am_stl m ls i st)
  | .astore i => am_SL (pc + e.2.1) h (am_sta m ls i st)
  | .astore_n i => am_SL (pc + e.2.1) h (am_sta m ls i st)
  | .iinc i n => match ls[i]? with
    | some (.int x) => if i < am_mx m then some (pc + e.2.1, am_s1 ls i (.int (x + Int32.ofInt n)), st, h) else none
    | _ => none
  | .iadd => am_S (pc + e.2.1) ls h (am_ii (· + ·) st)
  | .isub => am_S (pc + e.2.1) ls h (am_ii (· - ·) st)
  | .imul => am_S (pc + e.2.1) ls h (am_ii (· * ·) st)
  | .iand => am_S (pc + e.2.1) ls h (am_ii (· &&& ·) st)
  | .idiv => am_S (pc + e.2.1) ls h (am_iiz (· / ·) st)
  | .irem => am_S (pc + e.2.1) ls h (am_iiz (fun x y => x - x / y * y) st)
  | .ineg => am_S (pc + e.2.1) ls h (am_un (fun x => .int (-x)) st)
  | .ishr => am_S (pc + e.2.1) ls h (am_ii (fun x y => x >>> (y &&& 31)) st)
  | .ladd => am_S (pc + e.2.1) ls h (am_ll (· + ·) st)
  | .lsub => am_S (pc + e.2.1) ls h (am_ll (· - ·) st)
  | .lmul => am_S (pc + e.2.1) ls h (am_ll (· * ·) st)
  | .land => am_S (pc + e.2.1) ls h (am_ll (· &&& ·) st)
  | .lor => am_S (pc + e.2.1) ls h (am_ll (· ||| ·) st)
  | .lxor => am_S (pc + e.2.1) ls h (am_ll (· ^^^ ·) st)
  | .ldiv => am_S (pc + e.2.1) ls h (am_llz (· / ·) st)
  | .lrem => am_S (pc + e.2.1) ls h (am_llz (fun x y => x - x / y * y) st)
  | .lshl => am_S (pc + e.2.1) ls h (am_li (fun x y => x <<< (y.toInt64 &&& 63)) st)
  | .lushr => am_S (pc + e.2.1) ls h (am_li (fun x y => (x.toUInt64 >>> (y.toInt64.toUInt64 &&& Int64.toUInt64 63)).toInt64) st)
  | .lcmp => am_S (pc + e.2.1) ls h (am_lcm st)
  | .i2l => am_S (pc + e.2.1) ls h (am_un (fun x => .long x.toInt64) st)
  | .l2i => am_S (pc + e.2.1) ls h (am_unl (fun x => .int x.toInt32) st)
  | .i2c => am_S (pc + e.2.1) ls h (am_un (fun x => .int (x.toUInt32 % 65536).toInt32) st)
  | .dup => match st with
    | v :: r => if v.category = 1 then some (pc + e.2.1, ls, v :: v :: r, h) else none
    | _ => none
  | .dup2 => match st with
    | v :: w :: r => if v.category = 1 ∧ w.category = 1 then some (pc + e.2.1, ls, v :: w :: v :: w :: r, h) else none
    | _ => none
  | .pop => match st with
    | v :: r => if v.category = 1 then some (pc + e.2.1, ls, r, h) else none
    | _ => none
  | .goto off => am_jmp pc off ls st h
  | .ifCond c off => match st with
    | .int x :: r => am_br (am_cc c x 0) pc (pc + e.2.1) off ls r h
    | _ => none
  | .if_icmp c off => match st with
    | .int y :: .int x :: r => am_br (am_cc c x y) pc (pc + e.2.1) off ls r h
    | _ => none
  | .ifnull off => match st with
    | .null :: r => am_jmp pc off ls r h
    | .ref _ :: r => some (pc + e.2.1, ls, r, h)
    | _ => none
  | .tableswitch d lo hi offs => match st with
    | .int x :: r => if x.toInt < lo ∨ hi < x.toInt then am_jmp pc d ls r h else match offs[(x.toInt - lo).toNat]? with
      | some off => am_jmp pc off ls r h
      | none => none
    | _ => none
  | .lookupswitch d ps => match st with
    | .int x :: r => if (ps.toList.zip (ps.toList.drop 1)).all (fun (a, next) => a.1 < next.1) = true then am_jmp pc (Op.lookupswitch.offset ps.toList d x.toInt) ls r h else none
    | _ => none
  | .getfield _ => am_S (pc + e.2.1) ls h (am_get h e.2.2.1 e.2.2.2.1 st)
  | .putfield _ => am_SH (pc + e.2.1) ls (am_put h e.2.2.1 e.2.2.2.1 st)
  | .iaload => if m = 1 then am_S (pc + e.2.1) ls h (am_sld h st) else am_S (pc + e.2.1) ls h (am_ald h 0 st)
  | .baload => am_S (pc + e.2.1) ls h (am_ald h 2 st)
  | .caload => am_S (pc + e.2.1) ls h (am_ald h 1 st)
  | .iastore => am_SH (pc + e.2.1) ls (am_asi h st)
  | .bastore => am_SH (pc + e.2.1) ls (am_ast h 2 .boolean st)
  | .castore => am_SH (pc + e.2.1) ls (am_ast h 1 .char st)
  | .laload => am_S (pc + e.2.1) ls h (am_aldl h st)
  | .lastore => am_SH (pc + e.2.1) ls (am_astl h st)
  | .aaload => am_S (pc + e.2.1) ls h (am_aldr h st)
  | .aastore => am_SH (pc + e.2.1) ls (am_astr h st)
  | .arraylength => match st with
    | .retAddr 0 :: r => if m = 1 then some (pc + e.2.1, ls, .int (Int32.ofNat h.2.2.1) :: r, h) else none
    | _ => none
  | .new _ => some (pc + e.2.1, ls, (am_new h e.2.2.1 e.2.2.2.1 st).1, (am_new h e.2.2.1 e.2.2.2.1 st).2)
  | .newarray _ => am_SH (pc + e.2.1) ls (am_nwa h e.2.2.1 st)
  | .anewarray _ => am_SH (pc + e.2.1) ls (am_nwa h e.2.2.1 st)
  | .invokespecial _ => if e.2.2.2.2.2 = .int 6 then match st with
      | .ref _ :: r => if am_cs r ≤ 8 then some (pc + e.2.1, ls, r, h) else none
      | _ => none
    else none
  | .invokestatic _ => if e.2.2.2.2.2 = .int 7 then am_SH (pc + e.2.1) ls (am_cpy h st) else
    if e.2.2.2.2.2 = .int 10 then am_S (pc + e.2.1) ls h (am_mth (fun x y => if x < y then y else x) st) else
    if e.2.2.2.2.2 = .int 11 then am_S (pc + e.2.1) ls h (am_mth (fun x y => if y < x then y else x) st) else
    if e.2.2.2.2.2 = .int 12 then am_S (pc + e.2.1) ls h (am_mab st) else none
  | _ => none
/-- the end of a method -/
noncomputable def am_fin (m : Nat) (e : am_I) (st : List Value) (h : am_H) : Option (am_R × am_H) :=
  match e.1 with
  | .ireturn => match st with
    | [.int x] => match am_rt m with
      | some ty => if narrow ty (.int x) = .int x then some (.inl (some (.int x)), h) else none
      | none => none
    | _ => none
  | .lreturn => match st with
    | [.long x] => if am_rt m = some .long then some (.inl (some (.long x)), h) else none
    | _ => none
  | .areturn => match st with
    | [.ref x] => if am_rt m = some (.object "FencedRows$Meadow") then some (.inl (some (.ref x)), h) else none
    | [.null] => if am_rt m = some (.object "FencedRows$Meadow") then some (.inl (some .null), h) else none
    | _ => none
  | .return_ => match st with
    | [] => if am_rt m = none then some (.inl none, h) else none
    | _ => none
  | .athrow => if st = [] then some (.inr ((am_xc[e.2.2.1]?).getD ""), am_bump h) else none
  | _ => none
/-- how a call is made: 0 virtual, 2 static, 3 static of a nest mate, 4 a constructor, 5 of a nest mate, 8 under a handler, 9 of a method with handlers -/
noncomputable def am_isc (e : am_I) : Bool := match e.1 with
  | .invokevirtual _ => true
  | .invokestatic _ => decide (e.2.2.2.2.2 = .int 2) || decide (e.2.2.2.2.2 = .int 3) || decide (e.2.2.2.2.2 = .int 9)
  | .invokespecial _ => decide (e.2.2.2.2.2 ≠ .int 6)
  | _ => false
def am_rcv (h : am_H) (c : String) : List Value → Bool
  | .ref k :: _ => match h.1[k]? with
    | some (.inr (ci, _)) => decide ((am_q ci).1 = c) && decide (ci < vwCl.length)
    | _ => false
  | _ => false
def am_rh : List Value → Bool
  | .ref _ :: _ => true
  | _ => false
noncomputable def am_cal (e : am_I) (st : List Value) (h : am_H) : Option (Nat × List Value × List Value) :=
  if am_isc e = true then
    (if e.2.2.2.1 ≤ st.length ∧ am_cs (st.drop e.2.2.2.1) ≤ 8 ∧ am_cs (st.take e.2.2.2.1).reverse ≤ am_mx e.2.2.1 ∧ (e.2.2.2.2.2 = .int 0 ∨ e.2.2.2.2.2 = .int 8 → am_rcv h (am_cn e.2.2.1) (st.take e.2.2.2.1).reverse = true) ∧ (e.2.2.2.2.2 = .int 4 ∨ e.2.2.2.2.2 = .int 5 → am_rh (st.take e.2.2.2.1).reverse = true) then some (e.2.2.1, (st.take e.2.2.2.1).reverse, st.drop e.2.2.2.1) else none)
  else none
/-- the handler of a throw of class E: behind its store, and the place stored -/
def am_han (m : Nat) (E : String) : Option (Nat × Nat) := (am_hd.find? fun q => q.1 == m && q.2.1 == E).map fun q => q.2.2
/-- the program, n steps, calls at most d deep -/
noncomputable def am_ex : Nat → Nat → Nat → Nat → List Value → List Value → am_H → Option (am_R × am_H)
  | 0, _, _, _, _, _, _ => none
  | n + 1, d, m, pc, ls, st, h => match am_tab m pc with
    | none => none
    | some e => match am_fin m e st h with
      | some o => some o
      | none => match am_cal e st h with
        | some q => match d with
          | 0 => none
          | d' + 1 => match am_ex n d' q.1 0 (am_ent q.1 q.2.1) [] h with
            | some (.inl rv, h') => am_ex n (d' + 1) m (pc + 3) ls (rv.toList ++ q.2.2) h'
            | some (.inr E, h') => if e.2.2.2.2.2 = .int 8 then (match am_han m E with
              | some t => am_ex n (d' + 1) m t.1 (am_s1 ls t.2 am_u) [] h'
              | none => none) else none
            | none => none
        | none => match am_pst m e pc ls st h with
          | some t => am_ex n d m t.1 t.2.1 t.2.2.1 t.2.2.2
          | none => none
theorem am_ex_mono : ∀ (n k d d' m pc : Nat) (ls st : List Value) (h : am_H) (o : am_R × am_H), d ≤ d' → am_ex n d m pc ls st h = some o → am_ex (n + k) d' m pc ls st h = some o := by
  intro n
  induction n with
  | zero => intro k d d' m pc ls st h o _ hn; simp [am_ex] at hn
  | succ n ih =>
    intro k d d' m pc ls st h o hd hn
    rw [show n + 1 + k = (n + k) + 1 from by omega]
    rw [am_ex] at hn ⊢
    split at hn
    next => cases hn
    next e he =>
      try rw [he]
      try dsimp only at hn ⊢
      split at hn
      next o2 ho2 => (try rw [ho2]); exact hn
      next ho2 =>
        try rw [ho2]
        try dsimp only
        split at hn
        next q hq =>
          try rw [hq]
          try dsimp only
          cases d with
          | zero => cases hn
          | succ d0 =>
            obtain ⟨d1, rfl⟩ : ∃ d1, d' = d1 + 1 := ⟨d' - 1, by omega⟩
            try dsimp only at hn ⊢
            split at hn
            next rv h' hc =>
              have hc2 := ih k d0 d1 _ _ _ _ _ _ (by omega) hc
              simp only [hc2]
              exact ih k _ _ _ _ _ _ _ _ hd hn
            next E h' hc =>
              have hc2 := ih k d0 d1 _ _ _ _ _ _ (by omega) hc
              simp only [hc2]
              try dsimp only
              split at hn
              next h8 =>
                try rw [if_pos h8]
                split at hn
                next t ht => (try rw [ht]); exact ih k _ _ _ _ _ _ _ _ hd hn
                next => cases hn
              next => cases hn
            next => cases hn
        next hq =>
          try rw [hq]
          try dsimp only
          split at hn
          next t ht => (try rw [ht]); exact ih k _ _ _ _ _ _ _ _ hd hn
          next => cases hn
/-- from here the program comes to an end with Q -/
def am_X (d m pc : Nat) (ls st : List Value) (h : am_H) (Q : am_R → am_H → Prop) : Prop := ∃ n o, am_ex n d m pc ls st h = some o ∧ Q o.1 o.2
theorem am_X_mono {d d' m pc : Nat} {ls st : List Value} {h : am_H} {Q Q' : am_R → am_H → Prop} (k : am_X d m pc ls st h Q) (hd : d ≤ d') (hQ : ∀ r h', Q r h' → Q' r h') : am_X d' m pc ls st h Q' := by
  obtain ⟨n, o, h1, h2⟩ := k
  exact ⟨n, o, am_ex_mono n 0 d d' m pc ls st h o hd h1, hQ _ _ h2⟩
theorem am_X_step {d m pc pc' : Nat} {ls st ls' st' : List Value} {h h' : am_H} {Q : am_R → am_H → Prop} {e : am_I} (hf : am_tab m pc = some e) (h1 : am_fin m e st h = none) (h2 : am_cal e st h = none) (h3 : am_pst m e pc ls st h = some (pc', ls', st', h')) (k : am_X d m pc' ls' st' h' Q) : am_X d m pc ls st h Q := by
  obtain ⟨n, o, g1, g2⟩ := k
  exact ⟨n + 1, o, by rw [am_ex, hf]; dsimp only; rw [h1]; dsimp only; rw [h2]; dsimp only; rw [h3]; exact g1, g2⟩
theorem am_X_fin {d m pc : Nat} {ls st : List Value} {h : am_H} {Q : am_R → am_H → Prop} {e : am_I} {o : am_R × am_H} (hf : am_tab m pc = some e) (h1 : am_fin m e st h = some o) (k : Q o.1 o.2) : am_X d m pc ls st h Q :=
  ⟨1, o, by rw [am_ex, hf]; dsimp only; rw [h1], k⟩
theorem am_X_call {d dc m pc y : Nat} {ls st as rest ly : List Value} {h : am_H} {Q Qy : am_R → am_H → Prop} {e : am_I} (hf : am_tab m pc = some e) (h1 : am_fin m e st h = none) (h2 : am_cal e st h = some (y, as, rest)) (he : am_ent y as = ly) (hd : dc + 1 ≤ d)
    (hy : am_X dc y 0 ly [] h Qy) (k : ∀ r h', Qy r h' → ∃ rv : Option Value, r = .inl rv ∧ am_X d m (pc + 3) ls (rv.toList ++ rest) h' Q) : am_X d m pc ls st h Q := by
  obtain ⟨n1, o1, g1, g2⟩ := hy
  obtain ⟨rv, e1, n2, o2, g3, g4⟩ := k _ _ g2
  obtain ⟨r1, h'⟩ := o1
  dsimp only at e1 g3
  subst e1
  subst he
  obtain ⟨d', rfl⟩ : ∃ d', d = d' + 1 := ⟨d - 1, by omega⟩
  refine ⟨n1 + n2 + 1, o2, ?_, g4⟩
  rw [am_ex, hf]
  dsimp only
  rw [h1]
  dsimp only
  rw [h2]
  dsimp only
  rw [am_ex_mono n1 n2 dc d' _ _ _ _ _ _ (by omega) g1]
  dsimp only
  rw [show n1 + n2 = n2 + n1 from by omega]
  exact am_ex_mono n2 n1 _ _ _ _ _ _ _ _ (Nat.le_refl _) g3
/-- a call under a handler, whose callee may throw -/
theorem am_X_try {d dc m pc y : Nat} {ls st as rest ly : List Value} {h : am_H} {Q Qy : am_R → am_H → Prop} {e : am_I} (hf : am_tab m pc = some e) (h1 : am_fin m e st h = none) (h2 : am_cal e st h = some (y, as, rest)) (h8 : e.2.2.2.2.2 = .int 8) (he : am_ent y as = ly) (hd : dc + 1 ≤ d)
    (hy : am_X dc y 0 ly [] h Qy) (k : ∀ rv h', Qy (.inl rv) h' → am_X d m (pc + 3) ls (rv.toList ++ rest) h' Q)
    (kx : ∀ E h', Qy (.inr E) h' → ∃ t : Nat × Nat, am_han m E = some t ∧ am_X d m t.1 (am_s1 ls t.2 am_u) [] h' Q) : am_X d m pc ls st h Q := by
  obtain ⟨n1, o1, g1, g2⟩ := hy
  obtain ⟨r1, h'⟩ := o1
  subst he
  obtain ⟨d', rfl⟩ : ∃ d', d = d' + 1 := ⟨d - 1, by omega⟩
  cases r1 with
  | inl rv =>
    obtain ⟨n2, o2, g3, g4⟩ := k _ _ g2
    refine ⟨n1 + n2 + 1, o2, ?_, g4⟩
    rw [am_ex, hf]
    dsimp only
    rw [h1]
    dsimp only
    rw [h2]
    dsimp only
    rw [am_ex_mono n1 n2 dc d' _ _ _ _ _ _ (by omega) g1]
    dsimp only
    rw [show n1 + n2 = n2 + n1 from by omega]
    exact am_ex_mono n2 n1 _ _ _ _ _ _ _ _ (Nat.le_refl _) g3
  | inr E =>
    obtain ⟨t, ht, n2, o2, g3, g4⟩ := kx _ _ g2
    refine ⟨n1 + n2 + 1, o2, ?_, g4⟩
    rw [am_ex, hf]
    dsimp only
    rw [h1]
    dsimp only
    rw [h2]
    dsimp only
    rw [am_ex_mono n1 n2 dc d' _ _ _ _ _ _ (by omega) g1]
    dsimp only
    rw [if_pos h8, ht]
    dsimp only
    rw [show n1 + n2 = n2 + n1 from by omega]
    exact am_ex_mono n2 n1 _ _ _ _ _ _ _ _ (Nat.le_refl _) g3

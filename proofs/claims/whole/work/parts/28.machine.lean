/-! A small machine over the decoded instructions: its store is a picture of the heap (cells by address, how many cells, how many slots were made); pm_next is one step, pm_run a method's run, pm_call a call within a depth. -/
abbrev pm_C : Type := (Nat × List Value) ⊕ ((Nat × Nat × (Nat → Int32)) ⊕ ((Nat × (Nat → Int64)) ⊕ (Nat × (Nat → Option Nat))))
abbrev pm_o (ci : Nat) (fs : List Value) : pm_C := .inl (ci, fs)
abbrev pm_a (k n : Nat) (f : Nat → Int32) : pm_C := .inr (.inl (k, n, f))
abbrev pm_l (n : Nat) (f : Nat → Int64) : pm_C := .inr (.inr (.inl (n, f)))
abbrev pm_r (n : Nat) (f : Nat → Option Nat) : pm_C := .inr (.inr (.inr (n, f)))
abbrev pm_S : Type := (Nat → Option pm_C) × Nat × Nat
abbrev pm_R : Type := Option Value ⊕ Nat
abbrev pm_V : Type := List (Option Value)
/-- what the launch fixes: the first address that may be written, the mirror of Object[], the shared empty array -/
abbrev pm_G : Type := Nat × Nat × Nat
def pm_put (h : pm_S) (a : Nat) (c : pm_C) : pm_S := (va_up h.1 a (some c), h.2.1, h.2.2)
def pm_add (h : pm_S) (c : pm_C) (n : Nat) : pm_S := (va_up h.1 h.2.1 (some c), h.2.1 + 1, h.2.2 + n)
def pm_gap (h : pm_S) (n : Nat) : pm_S := (h.1, h.2.1 + 1, h.2.2 + n)
def pm_ix (x : Nat) : List Nat → Option Nat
  | [] => none
  | y :: r => if x = y then some 0 else (pm_ix x r).map (· + 1)
def pm_fit (ty : FieldType) (v : Value) : Bool := match ty with
  | .int => match v with
    | .int _ => true
    | _ => false
  | .boolean => match v with
    | .int x => x == 0 || x == 1
    | _ => false
  | .object _ => match v with
    | .ref _ => true
    | .null => true
    | _ => false
  | .array _ => match v with
    | .ref _ => true
    | .null => true
    | _ => false
  | _ => false
def pm_ldi (ls : pm_V) (k : Nat) (st : List Value) : Option (pm_V × List Value) := match ls[k]? with
  | some (some (.int x)) => some (ls, .int x :: st)
  | _ => none
def pm_lda (ls : pm_V) (k : Nat) (st : List Value) : Option (pm_V × List Value) := match ls[k]? with
  | some (some (.ref x)) => some (ls, .ref x :: st)
  | some (some .null) => some (ls, .null :: st)
  | _ => none
def pm_sti (ls : pm_V) (k : Nat) (st : List Value) : Option (pm_V × List Value) := match st with
  | .int x :: r => if k < ls.length then some (ls.set k (some (.int x)), r) else none
  | _ => none
def pm_sta (ls : pm_V) (k : Nat) (st : List Value) : Option (pm_V × List Value) := match st with
  | .ref x :: r => if k < ls.length then some (ls.set k (some (.ref x)), r) else none
  | .null :: r => if k < ls.length then some (ls.set k (some .null), r) else none
  | _ => none
def pm_2 (ls : pm_V) (st : List Value) (f : Int32 → Int32 → Int32) : Option (pm_V × List Value) := match st with
  | .int y :: .int x :: r => some (ls, .int (f x y) :: r)
  | _ => none
def pm_one (v : Value) : Bool := match v with
  | .long _ => false
  | .double _ => false
  | _ => true
/-- instructions that touch locals and stack alone -/
def pm_pure (i : Instr) (ls : pm_V) (st : List Value) : Option (pm_V × List Value) := match i with
  | .aconst_null => some (ls, .null :: st)
  | .iconst n => some (ls, .int (Int32.ofInt n) :: st)
  | .bipush n => some (ls, .int (Int8.ofInt n).toInt32 :: st)
  | .sipush n => some (ls, .int (Int16.ofInt n).toInt32 :: st)
  | .iload_n k => pm_ldi ls k st
  | .iload k => pm_ldi ls k st
  | .aload_n k => pm_lda ls k st
  | .aload k => pm_lda ls k st
  | .istore_n k => pm_sti ls k st
  | .istore k => pm_sti ls k st
  | .astore_n k => pm_sta ls k st
  | .astore k => pm_sta ls k st
  | .iinc k n => match ls[k]? with
    | some (some (.int x)) => some (ls.set k (some (.int (x + Int32.ofInt n))), st)
    | _ => none
  | .iadd => pm_2 ls st (· + ·)
  | .isub => pm_2 ls st (· - ·)
  | .imul => pm_2 ls st (· * ·)
  | .iand => pm_2 ls st (· &&& ·)
  | .ior => pm_2 ls st (· ||| ·)
  | .ixor => pm_2 ls st (· ^^^ ·)
  | .ishl => pm_2 ls st (fun x y => x <<< (y &&& 31))
  | .ishr => pm_2 ls st (fun x y => x >>> (y &&& 31))
  | .iushr => pm_2 ls st (fun x y => (x.toUInt32 >>> (y.toUInt32 &&& Int32.toUInt32 31)).toInt32)
  | .idiv => match st with
    | .int y :: .int x :: r => if y = 0 then none else some (ls, .int (x / y) :: r)
    | _ => none
  | .irem => match st with
    | .int y :: .int x :: r => if y = 0 then none else some (ls, .int (x - x / y * y) :: r)
    | _ => none
  | .ineg => match st with
    | .int x :: r => some (ls, .int (-x) :: r)
    | _ => none
  | .i2l => match st with
    | .int x :: r => some (ls, .long x.toInt64 :: r)
    | _ => none
  | .lcmp => match st with
    | .long y :: .long x :: r => some (ls, .int (lg_cmp x y) :: r)
    | _ => none
  | .dup => match st with
    | v :: r => if pm_one v then some (ls, v :: v :: r) else none
    | _ => none
  | .pop => match st with
    | v :: r => if pm_one v then some (ls, r) else none
    | _ => none
  | .dup_x1 => match st with
    | v :: w :: r => if pm_one v && pm_one w then some (ls, v :: w :: v :: r) else none
    | _ => none
  | .dup_x2 => match st with
    | v :: w :: u :: r => if pm_one v && (pm_one w && pm_one u) then some (ls, v :: w :: u :: v :: r) else none
    | _ => none
  | .dup2 => match st with
    | v :: w :: r => if pm_one v && pm_one w then some (ls, v :: w :: v :: w :: r) else none
    | _ => none
  | _ => none
def pm_c (c : ClassFile.Cond) (x y : Int32) : Bool := match c with
  | .eq => decide (x = y)
  | .ne => decide (¬ x = y)
  | .lt => decide (x < y)
  | .ge => decide (y ≤ x)
  | .gt => decide (y < x)
  | .le => decide (x ≤ y)
def pm_ca (c : ACond) (x y : Nat) : Bool := match c with
  | .eq => decide (x = y)
  | .ne => decide (¬ x = y)
/-- jumps: whether, how far, and the stack -/
def pm_jmp (i : Instr) (st : List Value) : Option (Bool × Int × List Value) := match i with
  | .goto o => some (true, o, st)
  | .ifCond c o => match st with
    | .int x :: r => some (pm_c c x 0, o, r)
    | _ => none
  | .if_icmp c o => match st with
    | .int y :: .int x :: r => some (pm_c c x y, o, r)
    | _ => none
  | .ifnull o => match st with
    | .null :: r => some (true, o, r)
    | .ref _ :: r => some (false, o, r)
    | _ => none
  | .ifnonnull o => match st with
    | .null :: r => some (false, o, r)
    | .ref _ :: r => some (true, o, r)
    | _ => none
  | .if_acmp c o => match st with
    | .ref y :: .ref x :: r => some (pm_ca c x y, o, r)
    | _ => none
  | .tableswitch d lo hi offs => match st with
    | .int x :: r => if x.toInt < lo ∨ hi < x.toInt then some (true, d, r) else (match offs[(x.toInt - lo).toNat]? with
      | some o => some (true, o, r)
      | none => none)
    | _ => none
  | .lookupswitch d ps => match st with
    | .int x :: r => if (ps.toList.zip (ps.toList.drop 1)).all (fun (a, next) => a.1 < next.1) = true then some (true, Op.lookupswitch.offset ps.toList d x.toInt, r) else none
    | _ => none
  | _ => none
/-- reads, writes and makings; y: the method -/
def pm_heap (G : pm_G) (y : Nat) (i : Instr) (st : List Value) (h : pm_S) : Option (List Value × pm_S) := match i with
  | .arraylength => match st with
    | .ref a :: r => match h.1 a with
      | some (.inr (.inl (0, n, _))) => some (.int (Int32.ofNat n) :: r, h)
      | some (.inr (.inr (.inr (n, _)))) => some (.int (Int32.ofNat n) :: r, h)
      | _ => none
    | _ => none
  | .getfield idx => match st with
    | .ref a :: r => match h.1 a with
      | some (.inl (ci, fs)) => match pm_fl (pm_own y) idx with
        | some fid => match pm_ix fid (pm_cfs ci) with
          | some k => match fs[k]? with
            | some v => some (v :: r, h)
            | none => none
          | none => none
        | none => none
      | _ => none
    | _ => none
  | .putfield idx => match st with
    | v :: .ref a :: r => match h.1 a with
      | some (.inl (ci, fs)) => match pm_fl (pm_own y) idx with
        | some fid => match pm_ix fid (pm_cfs ci) with
          | some k => if G.1 ≤ a ∧ pm_fit (pm_fty fid) v = true ∧ pm_may y fid = true ∧ k < fs.length then some (r, pm_put h a (pm_o ci (fs.set k v))) else none
          | none => none
        | none => none
      | _ => none
    | _ => none
  | .iaload => match st with
    | .int j :: .ref a :: r => match h.1 a with
      | some (.inr (.inl (0, n, f))) => if j < 0 ∨ n ≤ j.toNatClampNeg then none else some (.int (f j.toNatClampNeg) :: r, h)
      | _ => none
    | _ => none
  | .baload => match st with
    | .int j :: .ref a :: r => match h.1 a with
      | some (.inr (.inl (1, n, f))) => if (j < 0 ∨ n ≤ j.toNatClampNeg) ∨ a < G.1 then none else some (.int (f j.toNatClampNeg) :: r, h)
      | _ => none
    | _ => none
  | .laload => match st with
    | .int j :: .ref a :: r => match h.1 a with
      | some (.inr (.inr (.inl (n, f)))) => if (j < 0 ∨ n ≤ j.toNatClampNeg) ∨ a < G.1 then none else some (.long (f j.toNatClampNeg) :: r, h)
      | _ => none
    | _ => none
  | .aaload => match st with
    | .int j :: .ref a :: r => match h.1 a with
      | some (.inr (.inr (.inr (n, f)))) => if (j < 0 ∨ n ≤ j.toNatClampNeg) ∨ a < G.1 then none else some (va_rf (f j.toNatClampNeg) :: r, h)
      | _ => none
    | _ => none
  | .iastore => match st with
    | .int x :: .int j :: .ref a :: r => match h.1 a with
      | some (.inr (.inl (0, n, f))) => if (j < 0 ∨ n ≤ j.toNatClampNeg) ∨ a < G.1 then none else some (r, pm_put h a (pm_a 0 n (upd f j.toNatClampNeg x)))
      | _ => none
    | _ => none
  | .bastore => match st with
    | .int x :: .int j :: .ref a :: r => match h.1 a with
      | some (.inr (.inl (1, n, f))) => if (j < 0 ∨ n ≤ j.toNatClampNeg) ∨ a < G.1 ∨ ¬ (x = 0 ∨ x = 1) then none else some (r, pm_put h a (pm_a 1 n (upd f j.toNatClampNeg x)))
      | _ => none
    | _ => none
  | .lastore => match st with
    | .long x :: .int j :: .ref a :: r => match h.1 a with
      | some (.inr (.inr (.inl (n, f)))) => if (j < 0 ∨ n ≤ j.toNatClampNeg) ∨ a < G.1 then none else some (r, pm_put h a (pm_l n (vp_updL f j.toNatClampNeg x)))
      | _ => none
    | _ => none
  | .aastore => match st with
    | .null :: .int j :: .ref a :: r => match h.1 a with
      | some (.inr (.inr (.inr (n, f)))) => if (j < 0 ∨ n ≤ j.toNatClampNeg) ∨ a < G.1 then none else some (r, pm_put h a (pm_r n (va_up f j.toNatClampNeg none)))
      | _ => none
    | .ref v :: .int j :: .ref a :: r => match h.1 v with
      | some (.inl (ci, _)) => match h.1 a with
        | some (.inr (.inr (.inr (n, f)))) => if (j < 0 ∨ n ≤ j.toNatClampNeg) ∨ a < G.1 ∨ pm_ob ci = false then none else some (r, pm_put h a (pm_r n (va_up f j.toNatClampNeg (some v))))
        | _ => none
      | _ => none
    | _ => none
  | .newarray t => match st with
    | .int n :: r => if n < 0 ∨ 65536 < n.toNatClampNeg then none else (match t with
      | .int => some (.ref h.2.1 :: r, pm_add h (pm_a 0 n.toNatClampNeg (fun _ => 0)) n.toNatClampNeg)
      | .boolean => some (.ref h.2.1 :: r, pm_add h (pm_a 1 n.toNatClampNeg (fun _ => 0)) n.toNatClampNeg)
      | .long => some (.ref h.2.1 :: r, pm_add h (pm_l n.toNatClampNeg (fun _ => 0)) n.toNatClampNeg)
      | _ => none)
    | _ => none
  | .anewarray idx => match st with
    | .int n :: r => if n < 0 ∨ 65536 < n.toNatClampNeg ∨ pm_al (pm_own y) idx = false then none else some (.ref h.2.1 :: r, pm_add h (pm_r n.toNatClampNeg (fun _ => none)) n.toNatClampNeg)
    | _ => none
  | .new idx => match pm_cl (pm_own y) idx with
    | some ci => some (.ref h.2.1 :: st, pm_add h (pm_o ci (pm_zero ci)) (pm_zero ci).length)
    | none => none
  | .getstatic idx => if pm_sl (pm_own y) idx = true then some (.ref G.2.2 :: st, h) else none
  | .ldc idx => match pm_il (pm_own y) idx with
    | some v => some (.int v :: st, h)
    | none => if pm_dl (pm_own y) idx = true then some (.ref G.2.1 :: st, h) else none
  | .ldc_w idx => match pm_il (pm_own y) idx with
    | some v => some (.int v :: st, h)
    | none => none
  | .checkcast idx => match st with
    | .null :: _ => some (st, h)
    | .ref a :: _ => match h.1 a with
      | some (.inl (ci, _)) => if pm_kc (pm_own y) idx ci = true then some (st, h) else none
      | some (.inr (.inl (0, _))) => if pm_ka (pm_own y) idx "[I" = true ∧ G.1 ≤ a then some (st, h) else none
      | some (.inr (.inr (.inr _))) => if pm_ka (pm_own y) idx "[Ljava/lang/Object;" = true ∧ G.1 ≤ a then some (st, h) else none
      | _ => none
    | _ => none
  | _ => none
def pm_wid (st : List Value) : Nat := (st.map fun v => v.category).sum
/-- members that are no code here: 0 max, 1 min, 2 Object(), 3 arraycopy, 4 clone of an int array, 5 getClass of an array of objects -/
def pm_nat0 (st : List Value) (h : pm_S) : Option (List Value × pm_S) := match st with
  | .int y :: .int x :: r => if pm_wid r ≤ 8 then some (.int (if x < y then y else x) :: r, h) else none
  | _ => none
def pm_nat1 (st : List Value) (h : pm_S) : Option (List Value × pm_S) := match st with
  | .int y :: .int x :: r => if pm_wid r ≤ 8 then some (.int (if y < x then y else x) :: r, h) else none
  | _ => none
def pm_nat2 (st : List Value) (h : pm_S) : Option (List Value × pm_S) := match st with
  | .ref _ :: r => if pm_wid r ≤ 8 then some (r, h) else none
  | _ => none
def pm_nat3 (G : pm_G) (st : List Value) (h : pm_S) : Option (List Value × pm_S) := match st with
  | .int n :: .int dp :: .ref a :: .int sp :: .ref b :: r => if pm_wid r ≤ 8 ∧ ¬ n < 0 ∧ ¬ dp < 0 ∧ ¬ sp < 0 ∧ G.1 ≤ a ∧ G.1 ≤ b then (match h.1 b with
    | some (.inr (.inl (0, nb, f))) => match h.1 a with
      | some (.inr (.inl (0, na, g))) => if sp.toNatClampNeg + n.toNatClampNeg ≤ nb ∧ dp.toNatClampNeg + n.toNatClampNeg ≤ na then some (r, pm_put h a (pm_a 0 na (va_cpy f g sp.toNatClampNeg dp.toNatClampNeg n.toNatClampNeg))) else none
      | _ => none
    | some (.inr (.inr (.inr (nb, f)))) => match h.1 a with
      | some (.inr (.inr (.inr (na, g)))) => if sp.toNatClampNeg + n.toNatClampNeg ≤ nb ∧ dp.toNatClampNeg + n.toNatClampNeg ≤ na ∧ (List.range n.toNatClampNeg).all (fun i => match f (sp.toNatClampNeg + i) with
          | none => true
          | some v => match h.1 v with
            | some (.inl (ci, _)) => pm_ob ci
            | _ => false) = true then some (r, pm_put h a (pm_r na (va_cpy f g sp.toNatClampNeg dp.toNatClampNeg n.toNatClampNeg))) else none
      | _ => none
    | _ => none) else none
  | _ => none
def pm_nat4 (G : pm_G) (st : List Value) (h : pm_S) : Option (List Value × pm_S) := match st with
  | .ref a :: r => if pm_wid r ≤ 8 ∧ G.1 ≤ a then (match h.1 a with
    | some (.inr (.inl (0, n, f))) => some (.ref h.2.1 :: r, pm_add h (pm_a 0 n f) n)
    | _ => none) else none
  | _ => none
def pm_nat5 (G : pm_G) (st : List Value) (h : pm_S) : Option (List Value × pm_S) := match st with
  | .ref a :: r => if pm_wid r ≤ 8 ∧ G.1 ≤ a then (match h.1 a with
    | some (.inr (.inr (.inr _))) => some (.ref G.2.1 :: r, h)
    | _ => none) else none
  | _ => none
def pm_nat (G : pm_G) (k : Nat) (st : List Value) (h : pm_S) : Option (List Value × pm_S) := match k with
  | 0 => pm_nat0 st h
  | 1 => pm_nat1 st h
  | 2 => pm_nat2 st h
  | 3 => pm_nat3 G st h
  | 4 => pm_nat4 G st h
  | 5 => pm_nat5 G st h
  | _ => none
/-- a call: the method, its arguments, what stays on the stack -/
def pm_inv (y : Nat) (i : Instr) (st : List Value) (h : pm_S) : Option (Nat × List Value × List Value) := match i with
  | .invokestatic idx => match pm_ms (pm_own y) idx with
    | some z => if pm_na z ≤ st.length ∧ pm_wid (st.drop (pm_na z)) ≤ 8 ∧ (st.take (pm_na z)).all pm_one = true then some (z, (st.take (pm_na z)).reverse, st.drop (pm_na z)) else none
    | none => none
  | .invokespecial idx => match pm_mi (pm_own y) idx with
    | some z => match st.drop (pm_na z) with
      | .ref b :: r => if pm_wid r ≤ 8 ∧ (st.take (pm_na z)).all pm_one = true then some (z, .ref b :: (st.take (pm_na z)).reverse, r) else none
      | _ => none
    | none => none
  | .invokevirtual idx => match pm_mv (pm_own y) idx with
    | some x => match st.drop (pm_na x) with
      | .ref b :: r => match h.1 b with
        | some (.inl (ci, _)) => match pm_sel ci x with
          | some z => if pm_wid r ≤ 8 ∧ (st.take (pm_na x)).all pm_one = true then some (z, .ref b :: (st.take (pm_na x)).reverse, r) else none
          | none => none
        | _ => none
      | _ => none
    | none => none
  | _ => none
def pm_nid (y : Nat) (i : Instr) : Option Nat := match i with
  | .invokestatic idx => match pm_ns (pm_own y) idx with
    | some 0 => some 0
    | some 1 => some 1
    | some 3 => some 3
    | _ => none
  | .invokespecial idx => match pm_ns (pm_own y) idx with
    | some 2 => some 2
    | _ => none
  | .invokevirtual idx => match pm_ns (pm_own y) idx with
    | some 4 => some 4
    | some 5 => some 5
    | _ => none
  | _ => none
/-- the end of a method -/
def pm_end (y : Nat) (i : Instr) (st : List Value) (h : pm_S) : Option (pm_R × pm_S) := match i with
  | .return_ => match st with
    | [] => if pm_ret y = none then some (.inl none, h) else none
    | _ => none
  | .ireturn => match st with
    | [.int x] => match pm_ret y with
      | some .int => some (.inl (some (.int x)), h)
      | some .boolean => if x = 0 ∨ x = 1 then some (.inl (some (.int x)), h) else none
      | _ => none
    | _ => none
  | .areturn => match st with
    | [.ref x] => match pm_ret y with
      | some (.object _) => some (.inl (some (.ref x)), h)
      | some (.array _) => some (.inl (some (.ref x)), h)
      | _ => none
    | [.null] => match pm_ret y with
      | some (.object _) => some (.inl (some .null), h)
      | some (.array _) => some (.inl (some .null), h)
      | _ => none
    | _ => none
  | .new idx => match st with
    | [] => match pm_xl (pm_own y) idx with
      | some k => some (.inr k, pm_gap h 6)
      | none => none
    | _ => none
  | _ => none
/-- what one step is: a place to go on from; a call, and where it goes on behind it; the end -/
abbrev pm_N : Type := (Nat × pm_V × List Value × pm_S) ⊕ ((Nat × List Value × Nat × pm_V × List Value) ⊕ (pm_R × pm_S))
def pm_next (G : pm_G) (y pc : Nat) (ls : pm_V) (st : List Value) (h : pm_S) : Option pm_N := match pm_cat y pc with
  | none => none
  | some (i, len) => match pm_pure i ls st with
    | some (ls', st') => some (.inl (pc + len, ls', st', h))
    | none => match pm_jmp i st with
      | some (b, o, r) => if 0 ≤ (pc : Int) + o then some (.inl (if b then ((pc : Int) + o).toNat else pc + len, ls, r, h)) else none
      | none => match pm_heap G y i st h with
        | some (st', h') => some (.inl (pc + len, ls, st', h'))
        | none => match pm_nid y i with
          | some k => match pm_nat G k st h with
            | some (st', h') => some (.inl (pc + len, ls, st', h'))
            | none => none
          | none => match pm_inv y i st h with
            | some (z, as, r) => some (.inr (.inl (z, as, pc + len, ls, r)))
            | none => match pm_end y i st h with
              | some q => some (.inr (.inr q))
              | none => none
abbrev pm_Q : Type := pm_R → pm_S → Prop
abbrev pm_K : Type := Nat → List Value → pm_S → pm_Q → Prop
def pm_run (G : pm_G) (call : pm_K) (y : Nat) : Nat → Nat → pm_V → List Value → pm_S → pm_Q → Prop
  | 0, _, _, _, _, _ => False
  | n + 1, pc, ls, st, h, Q => match pm_next G y pc ls st h with
    | none => False
    | some (.inl (pc', ls', st', h')) => pm_run G call y n pc' ls' st' h' Q
    | some (.inr (.inl (z, as, pc', ls', r))) => call z as h (fun w h' => match w with
      | .inl v => pm_run G call y n pc' ls' (v.toList ++ r) h' Q
      | .inr k => match pm_hnd y pc k with
        | some p => pm_run G call y n p ls' [.ref (h'.2.1 - 1)] h' Q
        | none => False)
    | some (.inr (.inr (w, h'))) => Q w h'
def pm_ent (y : Nat) (as : List Value) : pm_V := as.map some ++ List.replicate (pm_mx y - as.length) none
def pm_call (G : pm_G) : Nat → pm_K
  | 0 => fun _ _ _ _ => False
  | d + 1 => fun y as h Q => as.length ≤ pm_mx y ∧ ∃ n, pm_run G (pm_call G d) y n 0 (pm_ent y as) [] h Q
/-- what runs with one end in view runs with a wider one -/
theorem pm_run_mono {G : pm_G} {call : pm_K} {y : Nat} (hc : ∀ z as h (Q Q' : pm_Q), (∀ w h', Q w h' → Q' w h') → call z as h Q → call z as h Q') :
    ∀ n pc ls st h (Q Q' : pm_Q), (∀ w h', Q w h' → Q' w h') → pm_run G call y n pc ls st h Q → pm_run G call y n pc ls st h Q' := by
  intro n
  induction n with
  | zero => intro pc ls st h Q Q' _ hr; exact hr.elim
  | succ n ih =>
    intro pc ls st h Q Q' hQ hr
    unfold pm_run at hr ⊢
    cases hx : pm_next G y pc ls st h with
    | none => rw [hx] at hr; exact hr.elim
    | some q =>
      rw [hx] at hr
      rcases q with ⟨pc', ls', st', h'⟩ | ⟨z, as, pc', ls', r⟩ | ⟨w, h'⟩
      · exact ih _ _ _ _ _ _ hQ hr
      · refine hc _ _ _ _ _ ?_ hr
        intro w h' hw
        cases w with
        | inl v => exact ih _ _ _ _ _ _ hQ hw
        | inr k =>
          dsimp only at hw ⊢
          cases hp : pm_hnd y pc k with
          | none => rw [hp] at hw; exact hw.elim
          | some p => rw [hp] at hw; exact ih _ _ _ _ _ _ hQ hw
      · exact hQ _ _ hr
theorem pm_call_mono {G : pm_G} : ∀ d z as h (Q Q' : pm_Q), (∀ w h', Q w h' → Q' w h') → pm_call G d z as h Q → pm_call G d z as h Q' := by
  intro d
  induction d with
  | zero => intro z as h Q Q' _ hr; exact hr.elim
  | succ d ih =>
    intro z as h Q Q' hQ hr
    obtain ⟨h1, n, hn⟩ := hr
    exact ⟨h1, n, pm_run_mono ih _ _ _ _ _ _ _ hQ hn⟩
/-- the one end of a run -/
abbrev pm_pt (w0 : pm_R) (h0 : pm_S) : pm_Q := fun w h => w = w0 ∧ h = h0
theorem pm_run_pt {G : pm_G} {call : pm_K} {y : Nat} (hm : ∀ z as h (Q Q' : pm_Q), (∀ w h', Q w h' → Q' w h') → call z as h Q → call z as h Q') (hc : ∀ z as h (Q : pm_Q), call z as h Q → ∃ w0 h0, Q w0 h0 ∧ call z as h (pm_pt w0 h0)) :
    ∀ n pc ls st h (Q : pm_Q), pm_run G call y n pc ls st h Q → ∃ w0 h0, Q w0 h0 ∧ pm_run G call y n pc ls st h (pm_pt w0 h0) := by
  intro n
  induction n with
  | zero => intro pc ls st h Q hr; exact hr.elim
  | succ n ih =>
    intro pc ls st h Q hr
    unfold pm_run at hr ⊢
    cases hx : pm_next G y pc ls st h with
    | none => rw [hx] at hr; exact hr.elim
    | some q =>
      rw [hx] at hr
      rcases q with ⟨pc', ls', st', h'⟩ | ⟨z, as, pc', ls', r⟩ | ⟨w, h'⟩
      · exact ih _ _ _ _ _ hr
      · obtain ⟨w1, h1, hw, hcl⟩ := hc _ _ _ _ hr
        cases w1 with
        | inl v =>
          obtain ⟨w0, h0, hq, hr0⟩ := ih _ _ _ _ _ hw
          refine ⟨w0, h0, hq, hm _ _ _ _ _ ?_ hcl⟩
          rintro w h' ⟨rfl, rfl⟩
          exact hr0
        | inr k =>
          dsimp only at hw
          cases hp : pm_hnd y pc k with
          | none => rw [hp] at hw; exact hw.elim
          | some p =>
            rw [hp] at hw
            obtain ⟨w0, h0, hq, hr0⟩ := ih _ _ _ _ _ hw
            refine ⟨w0, h0, hq, hm _ _ _ _ _ ?_ hcl⟩
            rintro w h' ⟨rfl, rfl⟩
            dsimp only
            rw [hp]
            exact hr0
      · exact ⟨w, h', hr, rfl, rfl⟩
theorem pm_call_pt {G : pm_G} : ∀ d z as h (Q : pm_Q), pm_call G d z as h Q → ∃ w0 h0, Q w0 h0 ∧ pm_call G d z as h (pm_pt w0 h0) := by
  intro d
  induction d with
  | zero => intro z as h Q hr; exact hr.elim
  | succ d ih =>
    intro z as h Q hr
    obtain ⟨h1, n, hn⟩ := hr
    obtain ⟨w0, h0, hq, hr0⟩ := pm_run_pt (pm_call_mono d) ih _ _ _ _ _ _ hn
    exact ⟨w0, h0, hq, h1, n, hr0⟩

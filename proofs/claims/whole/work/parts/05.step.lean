/-! THE SMALL MACHINE: what the code of the tables does, as a function on pictures of the heap (own work; it rests on the kit's rows, one by one) -/
abbrev xm_E : Type := (Nat × vp_A) ⊕ (Nat × List Value)
/-- the heap's size, how many slots were made, the cells by their addresses -/
abbrev xm_M : Type := Nat × Nat × (Nat → Option xm_E)
/-- the law's script: its address, its length, its ints -/
abbrev xm_Sc : Type := Nat × Nat × (Nat → Int32)
abbrev xm_Ls : Type := List (Option Value)
/-- where the machine stands: pc, locals, stack, memory -/
abbrev xm_S : Type := Nat × xm_Ls × List Value × xm_M
def xm_e (dA : Nat → ClassId) (e : xm_E) : va_E := match e with
  | .inl a => .inl (dA a.1, a.2)
  | .inr o => .inr o
def xm_set (M : xm_M) (a : Nat) (e : xm_E) : xm_M := (M.1, M.2.1, va_up M.2.2 a (some e))
def xm_new (M : xm_M) (k : Nat) (e : xm_E) : xm_M := (M.1 + 1, M.2.1 + k, va_up M.2.2 M.1 (some e))
def xm_ld (ls : xm_Ls) (i : Nat) : Option Value := match ls[i]? with
  | some (some v) => some v
  | _ => none
def xm_wt (st : List Value) : Nat := (st.map fun v => v.category).sum
/-- may this method write that field: it isn't final, or it's the constructor's own -/
def pg_pok (y ci k : Nat) (h : Option String) : Bool := match classes[ci]? with
  | some q => if (q.2.1 k).2.2.2 = true then decide ((pg_y y).name = "<init>" ∧ (q.2.1 k).1 = (pg_y y).cls ∧ h = none) else true
  | none => false
/-- may an object of class ci stand in an array of kind t -/
def pg_ok (t ci : Nat) : Bool := match pg_at[t]?, classes[ci]? with
  | some (.object C), some q => decide (C = q.1)
  | _, _ => false
def xm_len (i : Instr) (k : Nat) : Nat := match i with
  | .iconst _ => 1 | .bipush _ => 2 | .sipush _ => 3 | .aconst_null => 1 | .ldc _ => 2
  | .iload _ => 2 | .iload_n _ => 1 | .aload _ => 2 | .aload_n _ => 1 | .istore _ => 2 | .istore_n _ => 1 | .astore _ => 2 | .astore_n _ => 1 | .iinc _ _ => 3
  | .i2b => 1 | .baload => 1 | .bastore => 1 | .iadd => 1 | .isub => 1 | .imul => 1 | .idiv => 1 | .irem => 1 | .iand => 1 | .ior => 1 | .ixor => 1 | .ineg => 1
  | .dup => 1 | .pop => 1 | .dup_x1 => 1 | .dup2 => 1 | .goto _ => 3 | .ifCond _ _ => 3 | .if_icmp _ _ => 3 | .ifnull _ => 3 | .ifnonnull _ => 3
  | .getfield _ => 3 | .putfield _ => 3 | .iaload => 1 | .iastore => 1 | .aaload => 1 | .aastore => 1 | .arraylength => 1 | .new _ => 3 | .newarray _ => 2 | .anewarray _ => 3
  | .invokespecial _ => 3 | .invokestatic _ => 3 | .invokevirtual _ => 3 | .ireturn => 1 | .areturn => 1 | .return_ => 1
  | _ => k
/-- constants, locals, stack, arithmetic -/
def xm_s1 (y pc : Nat) (i : Instr) (ls : xm_Ls) (st : List Value) : Option (Nat × xm_Ls × List Value) := match i with
  | .iconst n => some (pc + 1, ls, .int (Int32.ofInt n) :: st)
  | .bipush n => some (pc + 2, ls, .int (Int8.ofInt n).toInt32 :: st)
  | .sipush n => some (pc + 3, ls, .int (Int16.ofInt n).toInt32 :: st)
  | .aconst_null => some (pc + 1, ls, .null :: st)
  | .ldc x => match pg_k y x with
    | some v => some (pc + 2, ls, .int v :: st)
    | none => none
  | .iload x => match xm_ld ls x with
    | some (.int v) => some (pc + 2, ls, .int v :: st)
    | _ => none
  | .iload_n x => match xm_ld ls x with
    | some (.int v) => some (pc + 1, ls, .int v :: st)
    | _ => none
  | .aload x => match xm_ld ls x with
    | some (.ref v) => some (pc + 2, ls, .ref v :: st)
    | some .null => some (pc + 2, ls, .null :: st)
    | _ => none
  | .aload_n x => match xm_ld ls x with
    | some (.ref v) => some (pc + 1, ls, .ref v :: st)
    | some .null => some (pc + 1, ls, .null :: st)
    | _ => none
  | .istore x => match st with
    | .int v :: r => if x < ls.length then some (pc + 2, ls.set x (some (.int v)), r) else none
    | _ => none
  | .istore_n x => match st with
    | .int v :: r => if (x : Nat) < ls.length then some (pc + 1, ls.set x (some (.int v)), r) else none
    | _ => none
  | .astore x => match st with
    | .ref v :: r => if x < ls.length then some (pc + 2, ls.set x (some (.ref v)), r) else none
    | .null :: r => if x < ls.length then some (pc + 2, ls.set x (some .null), r) else none
    | _ => none
  | .astore_n x => match st with
    | .ref v :: r => if (x : Nat) < ls.length then some (pc + 1, ls.set x (some (.ref v)), r) else none
    | .null :: r => if (x : Nat) < ls.length then some (pc + 1, ls.set x (some .null), r) else none
    | _ => none
  | .iinc x n => match xm_ld ls x with
    | some (.int v) => some (pc + 3, ls.set x (some (.int (v + Int32.ofInt n))), st)
    | _ => none
  | .iadd => match st with
    | .int v :: .int u :: r => some (pc + 1, ls, .int (u + v) :: r)
    | _ => none
  | .isub => match st with
    | .int v :: .int u :: r => some (pc + 1, ls, .int (u - v) :: r)
    | _ => none
  | .imul => match st with
    | .int v :: .int u :: r => some (pc + 1, ls, .int (u * v) :: r)
    | _ => none
  | .idiv => match st with
    | .int v :: .int u :: r => if v = 0 then none else some (pc + 1, ls, .int (u / v) :: r)
    | _ => none
  | .irem => match st with
    | .int v :: .int u :: r => if v = 0 then none else some (pc + 1, ls, .int (u - u / v * v) :: r)
    | _ => none
  | .iand => match st with
    | .int v :: .int u :: r => some (pc + 1, ls, .int (u &&& v) :: r)
    | _ => none
  | .ior => match st with
    | .int v :: .int u :: r => some (pc + 1, ls, .int (u ||| v) :: r)
    | _ => none
  | .ixor => match st with
    | .int v :: .int u :: r => some (pc + 1, ls, .int (u ^^^ v) :: r)
    | _ => none
  | .ineg => match st with
    | .int u :: r => some (pc + 1, ls, .int (-u) :: r)
    | _ => none
  | .i2b => match st with
    | .int u :: r => some (pc + 1, ls, .int u.toInt8.toInt32 :: r)
    | _ => none
  | .dup => match st with
    | v :: r => if v.category = 1 then some (pc + 1, ls, v :: v :: r) else none
    | _ => none
  | .pop => match st with
    | v :: r => if v.category = 1 then some (pc + 1, ls, r) else none
    | _ => none
  | .dup_x1 => match st with
    | v :: u :: r => if v.category = 1 ∧ u.category = 1 then some (pc + 1, ls, v :: u :: v :: r) else none
    | _ => none
  | .dup2 => match st with
    | v :: u :: r => if v.category = 1 ∧ u.category = 1 then some (pc + 1, ls, v :: u :: v :: u :: r) else none
    | _ => none
  | _ => none
def xm_jmp (pc : Nat) (off : Int) : Option Nat := if 0 ≤ (pc : Int) + off then some ((pc : Int) + off).toNat else none
def xm_icb (c : ClassFile.Cond) (x y : Int32) : Bool := match c with
  | .eq => decide (x = y)
  | .ne => decide (¬ x = y)
  | .lt => decide (x < y)
  | .ge => decide (y ≤ x)
  | .gt => decide (y < x)
  | .le => decide (x ≤ y)
/-- jumps: the new pc and the stack -/
def xm_s2 (pc : Nat) (i : Instr) (st : List Value) : Option (Nat × List Value) := match i with
  | .goto off => (xm_jmp pc off).map (fun t => (t, st))
  | .ifCond c off => match st with
    | .int x :: r => (xm_jmp pc off).map (fun t => (if xm_icb c x 0 = true then t else pc + 3, r))
    | _ => none
  | .if_icmp c off => match st with
    | .int v :: .int u :: r => (xm_jmp pc off).map (fun t => (if xm_icb c u v = true then t else pc + 3, r))
    | _ => none
  | .ifnull off => match st with
    | .ref _ :: r => some (pc + 3, r)
    | .null :: r => (xm_jmp pc off).map (fun t => (t, r))
    | _ => none
  | .ifnonnull off => match st with
    | .ref _ :: r => (xm_jmp pc off).map (fun t => (t, r))
    | .null :: r => some (pc + 3, r)
    | _ => none
  | .tableswitch dflt lo hi offs => match st with
    | .int x :: r => if x.toInt < lo ∨ hi < x.toInt then (xm_jmp pc dflt).map (fun t => (t, r)) else match offs[(x.toInt - lo).toNat]? with
      | some off => (xm_jmp pc off).map (fun t => (t, r))
      | none => none
    | _ => none
  | .lookupswitch dflt ps => match st with
    | .int x :: r => if (ps.toList.zip (ps.toList.drop 1)).all (fun (a, next) => a.1 < next.1) = true then (xm_jmp pc (Op.lookupswitch.offset ps.toList dflt x.toInt)).map (fun t => (t, r)) else none
    | _ => none
  | _ => none
/-- the heap -/
def xm_s3 (sc : xm_Sc) (d y pc : Nat) (i : Instr) (st : List Value) (M : xm_M) : Option (Nat × List Value × xm_M) := match i with
  | .getfield x => match st with
    | .ref a :: r => match pg_f y x with
      | some (ci, k, _) => match M.2.2 a with
        | some (.inr (cj, fs)) => if cj = ci then match fs[k]? with
          | some v => some (pc + 3, v :: r, M)
          | none => none else none
        | _ => none
      | none => none
    | _ => none
  | .putfield x => match st with
    | v :: .ref a :: r => match pg_f y x with
      | some (ci, k, h) => match M.2.2 a with
        | some (.inr (cj, fs)) => if cj = ci ∧ pg_pok y ci k h = true ∧ narrow (pg_ft ci k) v = v ∧ fits (pg_ft ci k) v = true ∧ k < fs.length then some (pc + 3, r, xm_set M a (.inr (ci, fs.set k v))) else none
        | _ => none
      | none => none
    | _ => none
  | .iaload => match st with
    | .int j :: .ref a :: r => match M.2.2 a with
      | some (.inl (t, n, .inl f)) => if t = 0 then (if j < 0 ∨ n ≤ j.toNatClampNeg then none else some (pc + 1, .int (f j.toNatClampNeg) :: r, M)) else none
      | none => if a = sc.1 then (if j < 0 ∨ sc.2.1 ≤ j.toNatClampNeg then none else some (pc + 1, .int (sc.2.2 j.toNatClampNeg) :: r, M)) else none
      | _ => none
    | _ => none
  | .iastore => match st with
    | .int x :: .int j :: .ref a :: r => match M.2.2 a with
      | some (.inl (t, n, .inl f)) => if t = 0 then (if j < 0 ∨ n ≤ j.toNatClampNeg then none else some (pc + 1, r, xm_set M a (.inl (0, n, .inl (upd f j.toNatClampNeg x))))) else none
      | _ => none
    | _ => none
  | .baload => match st with
    | .int j :: .ref a :: r => match M.2.2 a with
      | some (.inl (t, n, .inl f)) => if t = 1 ∨ t = 2 then (if j < 0 ∨ n ≤ j.toNatClampNeg then none else some (pc + 1, .int (f j.toNatClampNeg) :: r, M)) else none
      | _ => none
    | _ => none
  | .bastore => match st with
    | .int x :: .int j :: .ref a :: r => match M.2.2 a with
      | some (.inl (t, n, .inl f)) => if j < 0 ∨ n ≤ j.toNatClampNeg then none else if t = 1 then some (pc + 1, r, xm_set M a (.inl (1, n, .inl (upd f j.toNatClampNeg (vp_nar .byte x))))) else if t = 2 then some (pc + 1, r, xm_set M a (.inl (2, n, .inl (upd f j.toNatClampNeg (vp_nar .boolean x))))) else none
      | _ => none
    | _ => none
  | .aaload => match st with
    | .int j :: .ref a :: r => match M.2.2 a with
      | some (.inl (t, n, .inr (.inr (.inr (.inr f))))) => if 3 ≤ t ∧ t < pg_at.length then (if j < 0 ∨ n ≤ j.toNatClampNeg then none else some (pc + 1, va_rf (f j.toNatClampNeg) :: r, M)) else none
      | _ => none
    | _ => none
  | .aastore => match st with
    | .ref v :: .int j :: .ref a :: r => match M.2.2 a with
      | some (.inl (t, n, .inr (.inr (.inr (.inr f))))) => match M.2.2 v with
        | some (.inr (ci, _)) => if pg_ok t ci = true then (if j < 0 ∨ n ≤ j.toNatClampNeg then none else some (pc + 1, r, xm_set M a (.inl (t, n, .inr (.inr (.inr (.inr (va_up f j.toNatClampNeg (some v))))))))) else none
        | _ => none
      | _ => none
    | _ => none
  | .arraylength => match st with
    | .ref a :: r => match M.2.2 a with
      | some (.inl (t, n, _)) => if t < pg_at.length then some (pc + 1, .int (Int32.ofNat n) :: r, M) else none
      | none => if a = sc.1 then some (pc + 1, .int (Int32.ofNat sc.2.1) :: r, M) else none
      | _ => none
    | _ => none
  | .new x => match pg_c y x with
    | some ci => match classes[ci]? with
      | some q => some (pc + 3, .ref M.1 :: st, xm_new M q.2.2 (.inr (ci, (List.range q.2.2).map (fun k => defaultValue (pg_ft ci k)))))
      | none => none
    | none => none
  | .newarray t => match st with
    | .int j :: r => if ¬ j < 0 ∧ j.toNatClampNeg ≤ 100000 then match t with
      | .int => some (pc + 2, .ref M.1 :: r, xm_new M j.toNatClampNeg (.inl (0, j.toNatClampNeg, .inl (fun _ => 0))))
      | .byte => some (pc + 2, .ref M.1 :: r, xm_new M j.toNatClampNeg (.inl (1, j.toNatClampNeg, .inl (fun _ => 0))))
      | .boolean => some (pc + 2, .ref M.1 :: r, xm_new M j.toNatClampNeg (.inl (2, j.toNatClampNeg, .inl (fun _ => 0))))
      | _ => none else none
    | _ => none
  | .anewarray x => match st with
    | .int j :: r => match pg_a y x with
      | some t => if ¬ j < 0 ∧ j.toNatClampNeg ≤ 100000 then some (pc + 3, .ref M.1 :: r, xm_new M j.toNatClampNeg (.inl (t, j.toNatClampNeg, .inr (.inr (.inr (.inr (fun _ => none))))))) else none
      | none => none
    | _ => none
  | .invokespecial x => match st with
    | .ref _ :: r => if pg_o y x = true ∧ 0 < d ∧ xm_wt r ≤ 8 then some (pc + 3, r, M) else none
    | _ => none
  | .invokestatic x => match st with
    | .int n :: .int dp :: .ref a1 :: .int sp :: .ref a0 :: r => if pg_ac y x = true ∧ 0 < d ∧ xm_wt r ≤ 8 ∧ ¬ sp < 0 ∧ ¬ dp < 0 ∧ ¬ n < 0 then match M.2.2 a0, M.2.2 a1 with
      | some (.inl (t0, n0, .inl f)), some (.inl (t1, n1, .inl g)) => if t0 = 0 ∧ t1 = 0 ∧ sp.toNatClampNeg + n.toNatClampNeg ≤ n0 ∧ dp.toNatClampNeg + n.toNatClampNeg ≤ n1 then some (pc + 3, r, xm_set M a1 (.inl (0, n1, .inl (va_cpy f g sp.toNatClampNeg dp.toNatClampNeg n.toNatClampNeg)))) else none
      | _, _ => none else none
    | _ => none
  | _ => none

def xm_step (sc : xm_Sc) (d y pc : Nat) (i : Instr) (ls : xm_Ls) (st : List Value) (M : xm_M) : Option xm_S := match xm_s1 y pc i ls st with
  | some q => some (q.1, q.2.1, q.2.2, M)
  | none => match xm_s2 pc i st with
    | some q => some (q.1, ls, q.2, M)
    | none => match xm_s3 sc d y pc i st M with
      | some q => some (q.1, ls, q.2.1, q.2.2)
      | none => none
/-- a return: what is answered -/
def xm_ret (y : Nat) (i : Instr) (st : List Value) : Option (Option Value) := match i with
  | .ireturn => match st, pg_r y with
    | [.int v], some ty => if narrow ty (.int v) = .int v then some (some (.int v)) else none
    | _, _ => none
  | .areturn => match st, pg_r y with
    | [.ref a], some (.object _) => some (some (.ref a))
    | [.null], some (.object _) => some (some .null)
    | _, _ => none
  | .return_ => match st, pg_r y with
    | [], none => some none
    | _, _ => none
  | _ => none
/-- a call: the callee, what it is given (the receiver first), what stays on the stack -/
def xm_inv (y : Nat) (i : Instr) (st : List Value) (M : xm_M) : Option (Nat × List Value × List Value) := match i with
  | .invokevirtual x => match pg_i y x with
    | some (z, n, _, ci, kd) => match st.drop n with
      | .ref a :: r => match M.2.2 a with
        | some (.inr (cj, _)) => if kd = 0 ∧ cj = ci ∧ (st.take n).length = n then some (z, .ref a :: (st.take n).reverse, r) else none
        | _ => none
      | _ => none
    | none => none
  | .invokespecial x => match pg_i y x with
    | some (z, n, _, _, kd) => match st.drop n with
      | .ref a :: r => if kd = 1 ∧ (st.take n).length = n then some (z, .ref a :: (st.take n).reverse, r) else none
      | _ => none
    | none => none
  | .invokestatic x => match pg_i y x with
    | some (z, n, _, _, kd) => if kd = 2 ∧ (st.take n).length = n then some (z, (st.take n).reverse, st.drop n) else none
    | none => none
  | _ => none
/-- the locals at a method's entry -/
def xm_entry (z : Nat) (as : List Value) : xm_Ls := as.map some ++ List.replicate (pg_l z - as.length) none
/-- n steps at most, calls at most d deep -/
def xm_ex (sc : xm_Sc) : Nat → Nat → Nat → Nat → xm_Ls → List Value → xm_M → Option (Option Value × xm_M)
  | 0, _, _, _, _, _, _ => none
  | n + 1, d, y, pc, ls, st, M => match pg_code y pc with
    | none => none
    | some (i, k) => if k = xm_len i k then match xm_ret y i st with
      | some r => some (r, M)
      | none => match xm_inv y i st M with
        | some (z, as, rest) => match d with
          | 0 => none
          | d' + 1 => if xm_wt rest ≤ 8 ∧ as.length ≤ pg_l z ∧ (as.all fun v => v.category == 1) = true then match xm_ex sc n d' z 0 (xm_entry z as) [] M with
            | some (r, M') => xm_ex sc n (d' + 1) y (pc + 3) ls (r.toList ++ rest) M'
            | none => none else none
        | none => match xm_step sc d y pc i ls st M with
          | some q => xm_ex sc n d y q.1 q.2.1 q.2.2.1 q.2.2.2
          | none => none else none

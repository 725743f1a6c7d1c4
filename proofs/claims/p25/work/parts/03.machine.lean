/-! ===== THE ABSTRACT MACHINE: a memory of total functions, a step, a run; what follows is only of numbers ===== -/
/-- memory: the kind and length of each address, its ints, its references, its longs; the heap's size; cells and slots used -/
abbrev zM : Type := (Nat → Nat × Nat) × (Nat → Nat → Int32) × (Nat → Nat → Option Nat) × (Nat → Nat → Int64) × Nat × Nat × Nat
def zK (μ : zM) : Nat → Nat × Nat := μ.1
def zI (μ : zM) : Nat → Nat → Int32 := μ.2.1
def zR (μ : zM) : Nat → Nat → Option Nat := μ.2.2.1
def zJ (μ : zM) : Nat → Nat → Int64 := μ.2.2.2.1
def zS (μ : zM) : Nat := μ.2.2.2.2.1
def zC (μ : zM) : Nat := μ.2.2.2.2.2.1
def zL (μ : zM) : Nat := μ.2.2.2.2.2.2
def zup {α : Type} (f : Nat → Nat → α) (a k : Nat) (v : α) : Nat → Nat → α := fun b j => if b = a ∧ j = k then v else f b j
def zsI (μ : zM) (a k : Nat) (x : Int32) : zM := (μ.1, zup μ.2.1 a k x, μ.2.2)
def zsR (μ : zM) (a k : Nat) (x : Option Nat) : zM := (μ.1, μ.2.1, zup μ.2.2.1 a k x, μ.2.2.2)
def zsJ (μ : zM) (a k : Nat) (x : Int64) : zM := (μ.1, μ.2.1, μ.2.2.1, zup μ.2.2.2.1 a k x, μ.2.2.2.2)
/-- a whole row of references put anew (what arraycopy does) -/
def zsW (μ : zM) (a : Nat) (g : Nat → Option Nat) : zM := (μ.1, μ.2.1, (fun b j => if b = a then g j else μ.2.2.1 b j), μ.2.2.2)
/-- a new cell of kind t, length n, w slots -/
def znew (μ : zM) (t n w : Nat) : zM := ((fun a => if a = zS μ then (t, n) else zK μ a), (fun a k => if a = zS μ then 0 else zI μ a k), (fun a k => if a = zS μ then none else zR μ a k), (fun a k => if a = zS μ then 0 else zJ μ a k), zS μ + 1, zC μ + 1, zL μ + w)
theorem zK_sI (μ : zM) (a k : Nat) (x : Int32) : zK (zsI μ a k x) = zK μ := rfl
theorem zK_sR (μ : zM) (a k : Nat) (x : Option Nat) : zK (zsR μ a k x) = zK μ := rfl
theorem zK_sJ (μ : zM) (a k : Nat) (x : Int64) : zK (zsJ μ a k x) = zK μ := rfl
theorem zK_sW (μ : zM) (a : Nat) (g : Nat → Option Nat) : zK (zsW μ a g) = zK μ := rfl
theorem zI_sI (μ : zM) (a k : Nat) (x : Int32) : zI (zsI μ a k x) = zup (zI μ) a k x := rfl
theorem zI_sR (μ : zM) (a k : Nat) (x : Option Nat) : zI (zsR μ a k x) = zI μ := rfl
theorem zI_sJ (μ : zM) (a k : Nat) (x : Int64) : zI (zsJ μ a k x) = zI μ := rfl
theorem zI_sW (μ : zM) (a : Nat) (g : Nat → Option Nat) : zI (zsW μ a g) = zI μ := rfl
theorem zR_sI (μ : zM) (a k : Nat) (x : Int32) : zR (zsI μ a k x) = zR μ := rfl
theorem zR_sR (μ : zM) (a k : Nat) (x : Option Nat) : zR (zsR μ a k x) = zup (zR μ) a k x := rfl
theorem zR_sJ (μ : zM) (a k : Nat) (x : Int64) : zR (zsJ μ a k x) = zR μ := rfl
theorem zJ_sI (μ : zM) (a k : Nat) (x : Int32) : zJ (zsI μ a k x) = zJ μ := rfl
theorem zJ_sR (μ : zM) (a k : Nat) (x : Option Nat) : zJ (zsR μ a k x) = zJ μ := rfl
theorem zJ_sJ (μ : zM) (a k : Nat) (x : Int64) : zJ (zsJ μ a k x) = zup (zJ μ) a k x := rfl
theorem zJ_sW (μ : zM) (a : Nat) (g : Nat → Option Nat) : zJ (zsW μ a g) = zJ μ := rfl
theorem zS_sI (μ : zM) (a k : Nat) (x : Int32) : zS (zsI μ a k x) = zS μ := rfl
theorem zS_sR (μ : zM) (a k : Nat) (x : Option Nat) : zS (zsR μ a k x) = zS μ := rfl
theorem zS_sJ (μ : zM) (a k : Nat) (x : Int64) : zS (zsJ μ a k x) = zS μ := rfl
theorem zS_sW (μ : zM) (a : Nat) (g : Nat → Option Nat) : zS (zsW μ a g) = zS μ := rfl
theorem zC_sI (μ : zM) (a k : Nat) (x : Int32) : zC (zsI μ a k x) = zC μ := rfl
theorem zC_sR (μ : zM) (a k : Nat) (x : Option Nat) : zC (zsR μ a k x) = zC μ := rfl
theorem zC_sJ (μ : zM) (a k : Nat) (x : Int64) : zC (zsJ μ a k x) = zC μ := rfl
theorem zC_sW (μ : zM) (a : Nat) (g : Nat → Option Nat) : zC (zsW μ a g) = zC μ := rfl
theorem zL_sI (μ : zM) (a k : Nat) (x : Int32) : zL (zsI μ a k x) = zL μ := rfl
theorem zL_sR (μ : zM) (a k : Nat) (x : Option Nat) : zL (zsR μ a k x) = zL μ := rfl
theorem zL_sJ (μ : zM) (a k : Nat) (x : Int64) : zL (zsJ μ a k x) = zL μ := rfl
theorem zL_sW (μ : zM) (a : Nat) (g : Nat → Option Nat) : zL (zsW μ a g) = zL μ := rfl
theorem zK_new (μ : zM) (t n w a : Nat) : zK (znew μ t n w) a = if a = zS μ then (t, n) else zK μ a := rfl
theorem zI_new (μ : zM) (t n w a k : Nat) : zI (znew μ t n w) a k = if a = zS μ then 0 else zI μ a k := rfl
theorem zR_new (μ : zM) (t n w a k : Nat) : zR (znew μ t n w) a k = if a = zS μ then none else zR μ a k := rfl
theorem zJ_new (μ : zM) (t n w a k : Nat) : zJ (znew μ t n w) a k = if a = zS μ then 0 else zJ μ a k := rfl
theorem zS_new (μ : zM) (t n w : Nat) : zS (znew μ t n w) = zS μ + 1 := rfl
theorem zC_new (μ : zM) (t n w : Nat) : zC (znew μ t n w) = zC μ + 1 := rfl
theorem zL_new (μ : zM) (t n w : Nat) : zL (znew μ t n w) = zL μ + w := rfl
/-- an instruction: its place, what it is, the next place, three numbers, and places in the tables or targets -/
abbrev zOp : Type := Nat × Instr × Nat × Nat × Nat × Nat × List Nat
/-- a place, locals, a stack, a memory -/
abbrev zCf : Type := Nat × List (Option Value) × List Value × zM
def zld (ls : List (Option Value)) (i : Nat) : Option Value := match ls[i]? with
  | some (some v) => some v
  | _ => none
def zcst (z x : Nat) : Int32 := if z = 1 then -nI x else nI x
/-- a value as a reference -/
def zopt (v : Value) : Option (Option Nat) := match v with
  | .null => some none
  | .ref a => some (some a)
  | _ => none
/-- one step that is no call, no return and no throw -/
noncomputable def zstep (de mi : Nat) (o : zOp) (ls : List (Option Value)) (st : List Value) (μ : zM) : Option zCf :=
  let n := o.2.2.1
  let x := o.2.2.2.1
  let y := o.2.2.2.2.1
  let z := o.2.2.2.2.2.1
  match o.2.1 with
  | .aconst_null => some (n, ls, .null :: st, μ)
  | .iconst _ => some (n, ls, .int (zcst z x) :: st, μ)
  | .bipush _ => some (n, ls, .int (zcst z x) :: st, μ)
  | .sipush _ => some (n, ls, .int (zcst z x) :: st, μ)
  | .ldc _ => if z = 5 then some (n, ls, .ref mi :: st, μ) else some (n, ls, .int (nI x) :: st, μ)
  | .iload_n _ => (match zld ls x with | some (.int v) => some (n, ls, .int v :: st, μ) | _ => none)
  | .iload _ => (match zld ls x with | some (.int v) => some (n, ls, .int v :: st, μ) | _ => none)
  | .aload_n _ => (match zld ls x with | some (.ref v) => some (n, ls, .ref v :: st, μ) | some .null => some (n, ls, .null :: st, μ) | _ => none)
  | .aload _ => (match zld ls x with | some (.ref v) => some (n, ls, .ref v :: st, μ) | some .null => some (n, ls, .null :: st, μ) | _ => none)
  | .istore_n _ => (match st with | .int v :: r => if x < ls.length then some (n, ls.set x (some (.int v)), r, μ) else none | _ => none)
  | .istore _ => (match st with | .int v :: r => if x < ls.length then some (n, ls.set x (some (.int v)), r, μ) else none | _ => none)
  | .astore_n _ => (match st with | .ref v :: r => if x < ls.length then some (n, ls.set x (some (.ref v)), r, μ) else none | .null :: r => if x < ls.length then some (n, ls.set x (some .null), r, μ) else none | _ => none)
  | .astore _ => (match st with | .ref v :: r => if x < ls.length then some (n, ls.set x (some (.ref v)), r, μ) else none | .null :: r => if x < ls.length then some (n, ls.set x (some .null), r, μ) else none | _ => none)
  | .iinc _ _ => (match zld ls x with | some (.int v) => if x < ls.length then some (n, ls.set x (some (.int (v + zcst z y))), st, μ) else none | _ => none)
  | .iadd => (match st with | .int w :: .int v :: r => some (n, ls, .int (v + w) :: r, μ) | _ => none)
  | .isub => (match st with | .int w :: .int v :: r => some (n, ls, .int (v - w) :: r, μ) | _ => none)
  | .imul => (match st with | .int w :: .int v :: r => some (n, ls, .int (v * w) :: r, μ) | _ => none)
  | .idiv => (match st with | .int w :: .int v :: r => if w = 0 then none else some (n, ls, .int (v / w) :: r, μ) | _ => none)
  | .irem => (match st with | .int w :: .int v :: r => if w = 0 then none else some (n, ls, .int (v - v / w * w) :: r, μ) | _ => none)
  | .ineg => (match st with | .int v :: r => some (n, ls, .int (-v) :: r, μ) | _ => none)
  | .iand => (match st with | .int w :: .int v :: r => some (n, ls, .int (v &&& w) :: r, μ) | _ => none)
  | .ior => (match st with | .int w :: .int v :: r => some (n, ls, .int (v ||| w) :: r, μ) | _ => none)
  | .ishl => (match st with | .int w :: .int v :: r => some (n, ls, .int (v <<< (w &&& 31)) :: r, μ) | _ => none)
  | .ishr => (match st with | .int w :: .int v :: r => some (n, ls, .int (v >>> (w &&& 31)) :: r, μ) | _ => none)
  | .iushr => (match st with | .int w :: .int v :: r => some (n, ls, .int (v.toUInt32 >>> (w.toUInt32 &&& Int32.toUInt32 31)).toInt32 :: r, μ) | _ => none)
  | .i2l => (match st with | .int v :: r => some (n, ls, .long v.toInt64 :: r, μ) | _ => none)
  | .lcmp => (match st with | .long w :: .long v :: r => some (n, ls, .int (lg_cmp v w) :: r, μ) | _ => none)
  | .dup => (match st with | v :: r => if v.category = 1 then some (n, ls, v :: v :: r, μ) else none | _ => none)
  | .dup_x1 => (match st with | v :: w :: r => if v.category = 1 ∧ w.category = 1 then some (n, ls, v :: w :: v :: r, μ) else none | _ => none)
  | .dup2 => (match st with | v :: w :: r => if v.category = 1 ∧ w.category = 1 then some (n, ls, v :: w :: v :: w :: r, μ) else none | _ => none)
  | .pop => (match st with | v :: r => if v.category = 1 then some (n, ls, r, μ) else none | _ => none)
  | .goto _ => some (x, ls, st, μ)
  | .ifCond c _ => (match st with
    | .int v :: r => (match c with
      | .eq => if v = 0 then some (x, ls, r, μ) else some (n, ls, r, μ)
      | .ne => if v ≠ 0 then some (x, ls, r, μ) else some (n, ls, r, μ)
      | .lt => if v < 0 then some (x, ls, r, μ) else some (n, ls, r, μ)
      | .ge => if 0 ≤ v then some (x, ls, r, μ) else some (n, ls, r, μ)
      | .gt => if 0 < v then some (x, ls, r, μ) else some (n, ls, r, μ)
      | .le => if v ≤ 0 then some (x, ls, r, μ) else some (n, ls, r, μ))
    | _ => none)
  | .if_icmp c _ => (match st with
    | .int w :: .int v :: r => (match c with
      | .eq => if v = w then some (x, ls, r, μ) else some (n, ls, r, μ)
      | .ne => if v ≠ w then some (x, ls, r, μ) else some (n, ls, r, μ)
      | .lt => if v < w then some (x, ls, r, μ) else some (n, ls, r, μ)
      | .ge => if w ≤ v then some (x, ls, r, μ) else some (n, ls, r, μ)
      | .gt => if w < v then some (x, ls, r, μ) else some (n, ls, r, μ)
      | .le => if v ≤ w then some (x, ls, r, μ) else some (n, ls, r, μ))
    | _ => none)
  | .if_acmp c _ => (match st with
    | w :: v :: r => (match zopt v, zopt w with
      | some rv, some rw => (match c with
        | .eq => if rv = rw then some (x, ls, r, μ) else some (n, ls, r, μ)
        | .ne => if rv ≠ rw then some (x, ls, r, μ) else some (n, ls, r, μ))
      | _, _ => none)
    | _ => none)
  | .ifnull _ => (match st with | .null :: r => some (x, ls, r, μ) | .ref _ :: r => some (n, ls, r, μ) | _ => none)
  | .ifnonnull _ => (match st with | .null :: r => some (n, ls, r, μ) | .ref _ :: r => some (x, ls, r, μ) | _ => none)
  | .getfield _ => (match st with | .ref a :: r => if zK μ a = (x + 1, 0) then some (n, ls, (if z = 1 then va_rf (zR μ a y) else .int (zI μ a y)) :: r, μ) else none | _ => none)
  | .putfield _ => (match st with
    | .int v :: .ref a :: r => if zK μ a = (x + 1, 0) ∧ (z = 0 ∨ (z = 2 ∧ (v = 0 ∨ v = 1))) then some (n, ls, r, zsI μ a y v) else none
    | .ref v :: .ref a :: r => if zK μ a = (x + 1, 0) ∧ z = 1 then some (n, ls, r, zsR μ a y (some v)) else none
    | .null :: .ref a :: r => if zK μ a = (x + 1, 0) ∧ z = 1 then some (n, ls, r, zsR μ a y none) else none
    | _ => none)
  | .new _ => some (n, ls, .ref (zS μ) :: st, znew μ (x + 1) 0 y)
  | .newarray _ => (match st with | .int k :: r => if ¬ k < 0 ∧ k.toNatClampNeg ≤ 1000 then some (n, ls, .ref (zS μ) :: r, znew μ x k.toNatClampNeg k.toNatClampNeg) else none | _ => none)
  | .anewarray _ => (match st with | .int k :: r => if ¬ k < 0 ∧ k.toNatClampNeg ≤ 1000 then some (n, ls, .ref (zS μ) :: r, znew μ x k.toNatClampNeg k.toNatClampNeg) else none | _ => none)
  | .arraylength => (match st with | .ref a :: r => if 9 ≤ (zK μ a).1 ∧ (zK μ a).1 ≤ 15 then some (n, ls, .int (nI (zK μ a).2) :: r, μ) else none | _ => none)
  | .iaload => (match st with | .int i :: .ref a :: r => if ((zK μ a).1 = 9 ∨ (zK μ a).1 = 14) ∧ ¬ i < 0 ∧ i.toNatClampNeg < (zK μ a).2 then some (n, ls, .int (zI μ a i.toNatClampNeg) :: r, μ) else none | _ => none)
  | .iastore => (match st with | .int v :: .int i :: .ref a :: r => if (zK μ a).1 = 9 ∧ ¬ i < 0 ∧ i.toNatClampNeg < (zK μ a).2 then some (n, ls, r, zsI μ a i.toNatClampNeg v) else none | _ => none)
  | .aaload => (match st with | .int i :: .ref a :: r => if ((zK μ a).1 = 11 ∨ (zK μ a).1 = 12) ∧ ¬ i < 0 ∧ i.toNatClampNeg < (zK μ a).2 then some (n, ls, va_rf (zR μ a i.toNatClampNeg) :: r, μ) else none | _ => none)
  | .aastore => (match st with
    | .ref v :: .int i :: .ref a :: r => if (((zK μ a).1 = 11 ∧ (zK μ v).1 = 2) ∨ ((zK μ a).1 = 12 ∧ 1 ≤ (zK μ v).1 ∧ (zK μ v).1 ≤ 8)) ∧ ¬ i < 0 ∧ i.toNatClampNeg < (zK μ a).2 then some (n, ls, r, zsR μ a i.toNatClampNeg (some v)) else none
    | .null :: .int i :: .ref a :: r => if ((zK μ a).1 = 11 ∨ (zK μ a).1 = 12) ∧ ¬ i < 0 ∧ i.toNatClampNeg < (zK μ a).2 then some (n, ls, r, zsR μ a i.toNatClampNeg none) else none
    | _ => none)
  | .checkcast _ => (match st with | .null :: r => some (n, ls, .null :: r, μ) | .ref a :: r => if zK μ a = (x + 1, 0) then some (n, ls, .ref a :: r, μ) else none | _ => none)
  | .getstatic _ => some (n, ls, .ref de :: st, μ)
  | .tableswitch _ _ _ _ => (match st with | .int v :: r => if ¬ v < 0 ∧ v.toNatClampNeg < o.2.2.2.2.2.2.length then some (o.2.2.2.2.2.2.getD v.toNatClampNeg 0, ls, r, μ) else some (x, ls, r, μ) | _ => none)
  | .invokevirtual _ => if z = 215 then (match st with | .ref a :: r => if (zK μ a).1 = 12 ∧ r.length ≤ 4 then some (n, ls, .ref mi :: r, μ) else none | _ => none) else none
  | .invokespecial _ => if z = 210 then (match st with | .ref _ :: r => if r.length ≤ 4 then some (n, ls, r, μ) else none | _ => none) else none
  | .invokestatic _ =>
    if z = 211 then (match st with | .int w :: .int v :: r => if r.length ≤ 4 then some (n, ls, .int (if v < w then w else v) :: r, μ) else none | _ => none)
    else if z = 212 then (match st with | .int w :: .int v :: r => if r.length ≤ 4 then some (n, ls, .int (if w < v then w else v) :: r, μ) else none | _ => none)
    else if z = 213 then (match st with | .int v :: r => if r.length ≤ 4 then some (n, ls, .int (if 0 ≤ v then v else 0 - v) :: r, μ) else none | _ => none)
    else if z = 214 then (match st with
      | .int k :: .int dp :: .ref b :: .int sp :: .ref a :: r =>
        @ite _ (r.length ≤ 4 ∧ (zK μ a).1 = 12 ∧ (zK μ b).1 = 12 ∧ ¬ sp < 0 ∧ ¬ dp < 0 ∧ ¬ k < 0 ∧ sp.toNatClampNeg + k.toNatClampNeg ≤ (zK μ a).2 ∧ dp.toNatClampNeg + k.toNatClampNeg ≤ (zK μ b).2 ∧ ∃ t, t < 8 ∧ ∀ i v, i < k.toNatClampNeg → zR μ a (sp.toNatClampNeg + i) = some v → zK μ v = (t + 1, 0)) (Classical.propDecidable _)
        (some (n, ls, r, zsW μ b (va_cpy (zR μ a) (zR μ b) sp.toNatClampNeg dp.toNatClampNeg k.toNatClampNeg))) none
      | _ => none)
    else none
  | _ => none
/-- what an instruction is to the run: 0 a step, 1 an end, 2 a call, 3 a throw -/
def zsort (o : zOp) : Nat := match o.2.1 with
  | .ireturn => 1
  | .areturn => 1
  | .return_ => 1
  | .new _ => if o.2.2.2.2.2.1 = 9 then 3 else 0
  | .invokevirtual _ => if o.2.2.2.2.2.1 = 100 then 2 else 0
  | .invokespecial _ => if o.2.2.2.2.2.1 = 101 then 2 else 0
  | .invokestatic _ => if o.2.2.2.2.2.1 = 102 ∨ o.2.2.2.2.2.1 = 103 ∨ o.2.2.2.2.2.1 = 104 then 2 else 0
  | _ => 0
abbrev zRes : Type := Option Value ⊕ Nat
def zfin (o : zOp) (st : List Value) : Option zRes := match o.2.1 with
  | .ireturn => (match st with | [.int v] => if o.2.2.2.2.2.1 = 2 then (if v = 0 ∨ v = 1 then some (.inl (some (.int v))) else none) else some (.inl (some (.int v))) | _ => none)
  | .areturn => (match st with | [.ref a] => some (.inl (some (.ref a))) | [.null] => some (.inl (some .null)) | _ => none)
  | .return_ => (match st with | [] => some (.inl none) | _ => none)
  | _ => none
/-- a call's values and what stays on the stack -/
def zargs (o : zOp) (st : List Value) (μ : zM) : Option (List Value × List Value) :=
  let k := o.2.2.2.2.1
  let z := o.2.2.2.2.2.1
  if st.length < k ∨ 4 + k < st.length ∨ (st.take k).all (fun v => v.category == 1) = false then none
  else if z = 100 then (match (st.take k).reverse with | .ref b :: as => if zK μ b = (o.2.2.2.2.2.2.getD 0 0 + 1, 0) then some (.ref b :: as, st.drop k) else none | _ => none)
  else if z = 101 then (match (st.take k).reverse with | .ref b :: as => some (.ref b :: as, st.drop k) | _ => none)
  else some ((st.take k).reverse, st.drop k)
def zent (nL : Nat) (as : List Value) : List (Option Value) := as.map some ++ List.replicate (nL - as.length) none
/-- who takes E, thrown at pc -/
def zfind (tb : List (Nat × Nat × Nat × Nat)) (pc E : Nat) : Option Nat := match tb with
  | [] => none
  | q :: r => if q.1 ≤ pc ∧ pc < q.2.1 ∧ q.2.2.2 = E then some q.2.2.1 else zfind r pc E
def zgo (code : Nat → Nat → Option zOp) (y h : Nat) : Option (Nat × Nat) := match code y h with
  | some (_, .astore_n _, n, x, _) => some (n, x)
  | some (_, .astore _, n, x, _) => some (n, x)
  | _ => none
/-- the run: method y from pc on -/
noncomputable def zrun (code : Nat → Nat → Option zOp) (nL : Nat → Nat) (tb : Nat → List (Nat × Nat × Nat × Nat)) (de mi : Nat) : Nat → Nat → Nat → List (Option Value) → List Value → zM → Option (zRes × zM)
  | 0, _, _, _, _, _ => none
  | f + 1, y, pc, ls, st, μ => match code y pc with
    | none => none
    | some o =>
      if zsort o = 1 then (match zfin o st with | some r => some (r, μ) | none => none)
      else if zsort o = 3 then some (.inr o.2.2.2.1, znew μ 0 0 6)
      else if zsort o = 2 then (match zargs o st μ with
        | none => none
        | some (as, rest) => (match zrun code nL tb de mi f o.2.2.2.1 0 (zent (nL o.2.2.2.1) as) [] μ with
          | none => none
          | some (.inl v, μ1) => zrun code nL tb de mi f y o.2.2.1 ls (v.toList ++ rest) μ1
          | some (.inr E, μ1) => (match zfind (tb y) pc E with
            | none => some (.inr E, μ1)
            | some h => (match zgo code y h with
              | none => none
              | some (n, x) => if x < ls.length then zrun code nL tb de mi f y n (ls.set x none) [] μ1 else none))))
      else (match zstep de mi o ls st μ with
        | none => none
        | some c => zrun code nL tb de mi f y c.1 c.2.1 c.2.2.1 c.2.2.2)
/-- from here the run ends with Q -/
def zW (code : Nat → Nat → Option zOp) (nL : Nat → Nat) (tb : Nat → List (Nat × Nat × Nat × Nat)) (de mi : Nat) (y pc : Nat) (ls : List (Option Value)) (st : List Value) (μ : zM) (Q : zRes → zM → Prop) : Prop :=
  ∃ f r μ', zrun code nL tb de mi f y pc ls st μ = some (r, μ') ∧ Q r μ'

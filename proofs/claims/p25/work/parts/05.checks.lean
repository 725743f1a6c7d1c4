/-! ===== WHAT THE DATA CLAIM OF THE BYTES AND THE TABLES, decided by the kernel ===== -/
/-- the good words of the law's tables: every method here is proved over these -/
def zBig : List Cond := lw_tbl.filter goodWord
def zhas (i : Nat) (w : Cond) : Bool := decide (lw_tbl[i]? = some w) && goodWord w
theorem zhas_in {i : Nat} {w : Cond} (h : zhas i w = true) : w ∈ zBig := by
  simp only [zhas, Bool.and_eq_true, decide_eq_true_eq] at h
  exact List.mem_filter.mpr ⟨List.mem_of_getElem? h.1, h.2⟩
def zmem (i : Nat) (w : Cond) : Bool := decide (lw_tbl[i]? = some w)
theorem zmem_in {i : Nat} {w : Cond} (h : zmem i w = true) : w ∈ lw_tbl := List.mem_of_getElem? (of_decide_eq_true h)
def zTC (x : Nat) : u_T := match x with
  | 0 => TJx4a65c | 1 => TX0 | 2 => TX1 | 3 => TX2 | 4 => TX3 | 5 => TX4 | 6 => TX5 | _ => TX6
def zRC (x : Nat) : String := match x with
  | 0 => RJx4a65c | 1 => RX0 | 2 => RX1 | 3 => RX2 | 4 => RX3 | 5 => RX4 | 6 => RX5 | _ => RX6
def zNf (x : Nat) : Nat := match x with
  | 0 => 3 | 1 => 10 | 2 => 2 | 3 => 3 | 4 => 2 | 5 => 5 | 6 => 6 | _ => 6
def zty (x k : Nat) : FieldType := match x with
  | 0 => tyJx4a65c k | 1 => tyX0 k | 2 => tyX1 k | 3 => tyX2 k | 4 => tyX3 k | 5 => tyX4 k | 6 => tyX5 k | _ => tyX6 k
def zref (t : FieldType) : Bool := match t with
  | .object _ => true
  | .array _ => true
  | _ => false
def zEx (e : Nat) : String := match e with
  | 0 => "java/lang/IndexOutOfBoundsException" | 1 => "java/lang/IllegalArgumentException" | _ => "java/lang/IllegalStateException"
def zgi (l : List Nat) (i : Nat) : Nat := l.getD i 0
/-- the same bytes -/
def zbeq : List UInt8 → List UInt8 → Bool
  | [], [] => true
  | a :: s, b :: t => Nat.beq a.toNat b.toNat && zbeq s t
  | _, _ => false
theorem zbeq_ok : ∀ (a b : List UInt8), zbeq a b = true → a = b
  | [], [], _ => rfl
  | [], b :: t, h => by cases h
  | a :: s, [], h => by cases h
  | a :: s, b :: t, h => by
    simp only [zbeq, Bool.and_eq_true] at h
    rw [UInt8.toNat_inj.mp (Nat.eq_of_beq_eq_true h.1), zbeq_ok s t h.2]
/-- the word that gives the code of method x stands at place i -/
def zhasc (i x : Nat) : Bool := match lw_tbl[i]? with
  | some (.code n b m r) => decide (n = zNm x) && (zbeq b.data.toList (zB x).data.toList && (decide (m = zX x) && (decide (r = zRt x) && goodWord (.code (zNm x) (zB x) (zX x) (zRt x)))))
  | _ => false
theorem zhasc_in {i x : Nat} (h : zhasc i x = true) : Cond.code (zNm x) (zB x) (zX x) (zRt x) ∈ zBig := by
  unfold zhasc at h
  split at h
  · next n b m r he =>
    simp only [Bool.and_eq_true, decide_eq_true_eq] at h
    obtain ⟨h1, h2, h3, h4, h5⟩ := h
    have hb : b = zB x := by
      have e1 : b.data = (zB x).data := Array.toList_inj.mp (zbeq_ok _ _ h2)
      exact congrArg ByteArray.mk e1
    rw [h1, hb, h3, h4] at he
    exact List.mem_filter.mpr ⟨List.mem_of_getElem? he, h5⟩
  · cases h
/-- the check of one instruction of the method y -/
def zok (y : Nat) (o : zOp) : Bool :=
  let pc := o.1
  let n := o.2.2.1
  let x := o.2.2.2.1
  let v := o.2.2.2.2.1
  let z := o.2.2.2.2.2.1
  let ws := o.2.2.2.2.2.2
  decide (decode (zB y) pc = .ok (o.2.1, n - pc)) && (decide (pc < n) &&
  match o.2.1 with
  | .iconst i => decide (Int32.ofInt i = zcst z x) && decide (n = pc + 1)
  | .bipush i => decide ((Int8.ofInt i).toInt32 = zcst z x) && decide (n = pc + 2)
  | .sipush i => decide ((Int16.ofInt i).toInt32 = zcst z x) && decide (n = pc + 3)
  | .ldc i => decide (n = pc + 2) && (if z = 5 then zhas (zgi ws 0) (.classLink (zOwn y) i "[Ljava/lang/Object;") else zhas (zgi ws 0) (.constant (zOwn y) i (nI x)))
  | .iload_n k => decide ((k : Nat) = x) && decide (n = pc + 1)
  | .iload k => decide (k = x) && decide (n = pc + 2)
  | .aload_n k => decide ((k : Nat) = x) && decide (n = pc + 1)
  | .aload k => decide (k = x) && decide (n = pc + 2)
  | .istore_n k => decide ((k : Nat) = x) && decide (n = pc + 1)
  | .istore k => decide (k = x) && decide (n = pc + 2)
  | .astore_n k => decide ((k : Nat) = x) && decide (n = pc + 1)
  | .astore k => decide (k = x) && decide (n = pc + 2)
  | .iinc k i => decide (k = x) && decide (Int32.ofInt i = zcst z v) && decide (n = pc + 3)
  | .goto off => decide ((pc : Int) + off = (x : Int)) && decide (n = pc + 3)
  | .ifCond _ off => decide ((pc : Int) + off = (x : Int)) && decide (n = pc + 3)
  | .if_icmp _ off => decide ((pc : Int) + off = (x : Int)) && decide (n = pc + 3)
  | .if_acmp _ off => decide ((pc : Int) + off = (x : Int)) && decide (n = pc + 3)
  | .ifnull off => decide ((pc : Int) + off = (x : Int)) && decide (n = pc + 3)
  | .ifnonnull off => decide ((pc : Int) + off = (x : Int)) && decide (n = pc + 3)
  | .getfield i => decide (n = pc + 3) && (decide (x < 8) && (decide (v < zNf x) && (decide (z = if zref (zty x v) then 1 else 0) &&
      (zhas (zgi ws 0) (.fieldLink (zOwn y) i (zTC x v).1 (zTC x v).2.1 (zTC x v).2.2.1) ||
       (zhas (zgi ws 0) (.fieldLink (zOwn y) i RJx4a65c (zTC x v).2.1 (zTC x v).2.2.1) && zhas (zgi ws 1) (.sameField RJx4a65c (zTC x v).1 (zTC x v).2.1 (zTC x v).2.2.1))))))
  | .putfield i => decide (n = pc + 3) && (decide (x < 8) && (decide (v < zNf x) && ((if zref (zty x v) then decide (z = 1) else if zty x v = .boolean then decide (z = 2) else decide (z = 0) && decide (zty x v = .int)) &&
      ((if (zTC x v).2.2.2 then zIn y && decide ((zTC x v).1 = zOwn y) else true) &&
      (zhas (zgi ws 0) (.fieldLink (zOwn y) i (zTC x v).1 (zTC x v).2.1 (zTC x v).2.2.1) ||
       (zhas (zgi ws 0) (.fieldLink (zOwn y) i RJx4a65c (zTC x v).2.1 (zTC x v).2.2.1) && zhas (zgi ws 1) (.sameField RJx4a65c (zTC x v).1 (zTC x v).2.1 (zTC x v).2.2.1)))))))
  | .getstatic i => decide (n = pc + 3) && zhas (zgi ws 0) (.fieldLink (zOwn y) i RJx4a65c "DEFAULTCAPACITY_EMPTY_ELEMENTDATA" "[Ljava/lang/Object;")
  | .new i => decide (n = pc + 3) && (if z = 9 then
        decide (decode (zB y) (pc + 3) = .ok (.dup, 1)) && (decide (decode (zB y) (pc + 4) = .ok (.ldc v, 2)) && (decide (decode (zB y) (pc + 6) = .ok (.invokespecial (zgi ws 0), 3)) && (decide (decode (zB y) (pc + 9) = .ok (.athrow, 1)) &&
        (zhas (zgi ws 1) (.classLink (zOwn y) i (zEx x)) && (zhas (zgi ws 2) (.initialized (zEx x)) &&
        (decide (zTb y = []) && decide (6 ≤ zFr y) && decide (90 ≤ zLo y)))))))
      else decide (x < 8) && (decide (v = zNf x) && (zhas (zgi ws 0) (.classLink (zOwn y) i (zRC x)) && (zhas (zgi ws 1) (.instantiable (zRC x) (zNf x)) && zhas (zgi ws 2) (.initialized (zRC x))))))
  | .newarray t => decide (n = pc + 2) && (decide (x = 9) && decide (t = .int) && zhas (zgi ws 0) (.arrayClass .int))
  | .anewarray i => decide (n = pc + 3) && ((decide (x = 11) && zhas (zgi ws 0) (.classLink (zOwn y) i RX0) && zmem (zgi ws 1) (.arrayOver (.object RX0))) || (decide (x = 12) && zhas (zgi ws 0) (.classLink (zOwn y) i "java/lang/Object") && zmem (zgi ws 1) (.arrayOver (.object "java/lang/Object"))))
  | .checkcast i => decide (n = pc + 3) && (decide (x < 8) && zhas (zgi ws 0) (.classLink (zOwn y) i (zRC x)))
  | .tableswitch d lo hi offs => decide ((pc : Int) + d = (x : Int)) && (decide (lo = 0) && (decide (hi + 1 = (ws.length : Int)) && (decide (offs.size = ws.length) && (List.range ws.length).all (fun i => decide ((pc : Int) + offs.getD i 0 = ((ws.getD i 0 : Nat) : Int))))))
  | .invokevirtual i => decide (n = pc + 3) && (if z = 100 then
        decide (zgi ws 0 < 8) && (decide (zRC (zgi ws 0) = (zNm x).cls) && (zhas (zgi ws 1) (.methodLink (zOwn y) i (zNm x)) && (zhas (zgi ws 2) (.instanceMethod (zNm x)) && (zhas (zgi ws 3) (.selects (zRC (zgi ws 0)) (zNm x) (zNm x)) && (zhasc (zgi ws 4) x && (zhas (zgi ws 5) (.initialized (zNm x).cls) &&
        (decide (zTb x = []) && (decide ((zNm x).cls ≠ "java/lang/invoke/MethodHandle" ∧ (zNm x).cls ≠ "java/lang/invoke/VarHandle") && (decide ((parseMethodDescriptor (zNm x).desc).map (fun d => d.parameters.length) = some (v - 1)) && (decide (1 ≤ v) && (decide (v ≤ zX x) && (decide (zFr x + 1 ≤ zFr y) && decide (8 + (zX x + 11) + zLo x ≤ zLo y)))))))))))))
      else if z = 215 then zhas (zgi ws 0) (.methodLink (zOwn y) i ⟨"java/lang/Object", "getClass", "()Ljava/lang/Class;"⟩) && (zhas (zgi ws 1) (.selects "[Ljava/lang/Object;" ⟨"java/lang/Object", "getClass", "()Ljava/lang/Class;"⟩ ⟨"java/lang/Object", "getClass", "()Ljava/lang/Class;"⟩) && (zhas (zgi ws 2) (.instanceMethod ⟨"java/lang/Object", "getClass", "()Ljava/lang/Class;"⟩) && (zhas (zgi ws 3) (.native ⟨"java/lang/Object", "getClass", "()Ljava/lang/Class;"⟩) && (decide (1 ≤ zFr y) && decide (60 ≤ zLo y)))))
      else false)
  | .invokespecial i => decide (n = pc + 3) && (if z = 101 then
        zhas (zgi ws 1) (.methodLink (zOwn y) i (zNm x)) && (zhas (zgi ws 2) (.instanceMethod (zNm x)) && (zhasc (zgi ws 4) x && (zhas (zgi ws 5) (.initialized (zNm x).cls) &&
        (decide (zTb x = []) && (decide ((zNm x).name = "<init>") && (decide (zRt x = none) && (decide ((zNm x).cls ≠ "java/lang/invoke/MethodHandle" ∧ (zNm x).cls ≠ "java/lang/invoke/VarHandle") && (decide ((parseMethodDescriptor (zNm x).desc).map (fun d => d.parameters.length) = some (v - 1)) && (decide (1 ≤ v) && (decide (v ≤ zX x) && (decide (zFr x + 1 ≤ zFr y) && decide (8 + (zX x + 11) + zLo x ≤ zLo y))))))))))))
      else if z = 210 then zhas (zgi ws 0) (.methodLink (zOwn y) i objectInit) && (zhas (zgi ws 1) (.instanceMethod objectInit) && (zhas (zgi ws 2) (.code objectInit ⟨#[0xb1]⟩ 1 none) && (decide (1 ≤ zFr y) && decide (21 ≤ zLo y))))
      else false)
  | .invokestatic i => decide (n = pc + 3) && (if z = 102 ∨ z = 103 ∨ z = 104 then
        (if z = 103 then zmem (zgi ws 1) (.methodLinkNest (zOwn y) i (zNm x) RX5) else zhas (zgi ws 1) (.methodLink (zOwn y) i (zNm x))) && (zhas (zgi ws 2) (.static (zNm x)) && ((if z = 104 then zhas (zgi ws 4) (.codeWith (zNm x) (zB x) (zX x) (zRt x) (zTb x)) && decide (zTb x ≠ []) else zhasc (zgi ws 4) x && decide (zTb x = [])) && (zhas (zgi ws 5) (.initialized (zNm x).cls) &&
        (decide ((zNm x).cls ≠ "java/lang/invoke/MethodHandle" ∧ (zNm x).cls ≠ "java/lang/invoke/VarHandle") && (decide ((parseMethodDescriptor (zNm x).desc).map (fun d => d.parameters.length) = some v) && (decide (v ≤ zX x) && (decide (zFr x + 1 ≤ zFr y) && decide (8 + (zX x + 11) + zLo x ≤ zLo y))))))))
      else if z = 211 then zhas (zgi ws 0) (.methodLink (zOwn y) i Lib.Math.max.name) && (zhas (zgi ws 1) (.static Lib.Math.max.name) && (zhas (zgi ws 2) (.initialized "java/lang/Math") && (zhas (zgi ws 3) (.code Lib.Math.max.name Lib.Math.max.code 2 (some .int)) && (decide (1 ≤ zFr y) && decide (21 ≤ zLo y)))))
      else if z = 212 then zhas (zgi ws 0) (.methodLink (zOwn y) i Lib.Math.min.name) && (zhas (zgi ws 1) (.static Lib.Math.min.name) && (zhas (zgi ws 2) (.initialized "java/lang/Math") && (zhas (zgi ws 3) (.code Lib.Math.min.name Lib.Math.min.code 2 (some .int)) && (decide (1 ≤ zFr y) && decide (21 ≤ zLo y)))))
      else if z = 213 then zhas (zgi ws 0) (.methodLink (zOwn y) i Lib.Math.abs.name) && (zhas (zgi ws 1) (.static Lib.Math.abs.name) && (zhas (zgi ws 2) (.initialized "java/lang/Math") && (zhas (zgi ws 3) (.code Lib.Math.abs.name Lib.Math.abs.code 1 (some .int)) && (decide (1 ≤ zFr y) && decide (21 ≤ zLo y)))))
      else if z = 214 then zhas (zgi ws 0) (.methodLink (zOwn y) i arraycopyName) && (zhas (zgi ws 1) (.native arraycopyName) && (zhas (zgi ws 2) (.static arraycopyName) && (zhas (zgi ws 3) (.initialized "java/lang/System") && (decide (1 ≤ zFr y) && decide (60 ≤ zLo y)))))
      else false)
  | .ireturn => decide (n = pc + 1) && (if z = 2 then decide (zRt y = some .boolean) else decide (zRt y = some .int))
  | .areturn => decide (n = pc + 1) && (match zRt y with | some t => zref t | none => false)
  | .return_ => decide (n = pc + 1) && decide (zRt y = none)
  | _ => decide (n = pc + 1))

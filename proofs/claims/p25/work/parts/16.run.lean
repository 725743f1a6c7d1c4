/-! ===== THE RUN IS THE MACHINE's: calls, throws, handlers, ends; every method at once, by the fuel ===== -/
def zcode (y pc : Nat) : Option zOp := (zbody y).find? (fun o => o.1 == pc)
theorem zcode_ok {y pc : Nat} {o : zOp} (h : zcode y pc = some o) : zok y o = true ∧ o.1 = pc :=
  ⟨List.all_eq_true.mp (zall y) o (List.mem_of_find?_eq_some h), by simpa using List.find?_some h⟩
def zWs (y : Nat) : List Cond := (if zTb y = [] then Cond.code (zNm y) (zB y) (zX y) (zRt y) else Cond.codeWith (zNm y) (zB y) (zX y) (zRt y) (zTb y)) :: zBig
/-- what the data say of each method's name, table and handlers -/
def zname (y : Nat) : Bool := decide (zOwn y = (zNm y).cls) && (plainName (zNm y).cls && (decide (zIn y = true → (zNm y).name = "<init>") && (decide ((zTb y).length = (zHd y).length) &&
  (List.range (zTb y).length).all (fun i => decide (((zTb y).getD i (0, 0, 0, 0)).1 = ((zHd y).getD i (0, 0, 0, 0)).1) && (decide (((zTb y).getD i (0, 0, 0, 0)).2.1 = ((zHd y).getD i (0, 0, 0, 0)).2.1) && (decide (((zTb y).getD i (0, 0, 0, 0)).2.2.1 = ((zHd y).getD i (0, 0, 0, 0)).2.2.1) && (decide (((zTb y).getD i (0, 0, 0, 0)).2.2.2 ≠ 0) &&
    (decide (((zHd y).getD i (0, 0, 0, 0)).2.2.2 < 3) && zhas (zgi (zHl y) i) (.classLink (zOwn y) ((zTb y).getD i (0, 0, 0, 0)).2.2.2 (zEx ((zHd y).getD i (0, 0, 0, 0)).2.2.2))))))))))
theorem zname_lt : ∀ y, y < 79 → zname y = true := by decide +kernel
theorem zEx_castable : ∀ e, e < 3 → Cond.castable (zEx e) (zEx e) ∈ lw_tbl := by decide +kernel
/-- the throws: the text's place, and the words of the constructors above -/
def zthrow (y : Nat) (o : zOp) : Bool := match o.2.1 with
  | .new _ => if o.2.2.2.2.2.1 = 9 then
      decide (o.2.2.2.1 < 3) && ((match lw_tbl[zgi o.2.2.2.2.2.2 3]? with
        | some (.stringRef w k _) => decide (w = zOwn y) && decide (k = o.2.2.2.2.1)
        | _ => false) && (vx_atS (zOwn y) (zgi o.2.2.2.2.2.2 0) (zEx o.2.2.2.1) ["java/lang/RuntimeException", "java/lang/Exception"]).all (fun w => decide (w ∈ lw_tbl) && vx_ot w))
    else true
  | _ => true
theorem zthrow_lt : ∀ y, y < 79 → (zbody y).all (zthrow y) = true := by decide +kernel

/-! ===== the run is the machine's: the theorem ===== -/
/-- a contract out of a body that keeps the run -/
theorem zmeet {D : va_G} {T : Nat → ClassId} {B0 de mi : Nat} {U0 : State} {l : Launch} {y : Nat} (hy : y < 79) {as : List Value} {μ μ' : zM} {r : zRes} (hcat : ∀ v ∈ as, v.category = 1) (hlen : as.length ≤ zX y) (hE : zEnv D T B0 de mi U0 l)
    (body : ∀ (p : Program) (e : Env) (R : Room) (s : State) (m : MethodId) (args : Array Value) (below : List Frame) (meth : Method) (cc : Code) (lsA : Array Slot), zCtx D T B0 de mi U0 y p l R s m args meth cc → R.cells = zC μ' - zC μ → R.slots = zL μ' - zL μ → zHp D T B0 U0 μ s.heap → zlv lsA (zX y) (zent (zX y) as) →
      W p l e R s m args below meth cc s.heap [] 0 0 (vx_MQ below (zQc D T B0 U0 r μ') (zXc D T B0 U0 r μ') args s (zC μ' - zC μ) (zL μ' - zL μ) (fun q => B0 ≤ q)) (F0 m 0 lsA [])) : zMet D T B0 U0 l y as μ r μ' := by
  have hn := zname_lt y hy
  simp only [zname, Bool.and_eq_true, decide_eq_true_eq] at hn
  obtain ⟨n1, n2, n3, n4, -⟩ := hn
  by_cases htx : zTb y = []
  · refine vx_ofW (ws' := zBig) (cc := zB y) (maxL := zX y) (ret := zRt y) n2 (by unfold zWs; rw [if_pos htx]) ?_
    intro p e s m args below meth c s₁ B hml ht hv
    obtain ⟨rfl, hW0, hH⟩ := hv
    have hts := atoms_spec (ws := zWs y) B.pre
    have hl := zentry hcat hlen
    rw [lg_entry_eq]
    refine body p e _ s m _ below meth c _ ⟨B.exec, B.bytes, by rw [n1]; exact findClass_of_methodNamed B.named, fun w hw => hts w (List.mem_cons_of_mem _ hw), hml, B.notSynchronized, B.returns, Nat.le_refl _, Nat.le_refl _, hW0, hH.2.2.1, by rw [hH.2.1]; exact hH.2.2.2.1, fun h => ?_, ?_⟩ rfl rfl hH hl
    · exact ((name_of_methodNamed B.named B.method).1).trans (n3 h)
    · rw [htx]
      cases hh : c.exceptionTable.toList with
      | nil => rfl
      | cons x t => exact (ht x (by rw [hh]; exact List.mem_cons_self)).elim
  · refine vx_ofWH (ws' := zBig) (cc := zB y) (maxL := zX y) (ret := zRt y) (hh := zTb y) n2 (by unfold zWs; rw [if_neg htx]) ?_
    intro p e s m args below meth c s₁ B hml hv
    obtain ⟨rfl, hW0, hH⟩ := hv
    have hts := atoms_spec (ws := zWs y) B.pre
    have hl := zentry hcat hlen
    rw [lg_entry_eq]
    refine body p e _ s m _ below meth c _ ⟨B.exec, B.bytes, by rw [n1]; exact findClass_of_methodNamed B.named, fun w hw => hts w (List.mem_cons_of_mem _ hw), hml, B.notSynchronized, B.returns, Nat.le_refl _, Nat.le_refl _, hW0, hH.2.2.1, by rw [hH.2.1]; exact hH.2.2.2.1, fun h => ?_, ?_⟩ rfl rfl hH hl
    · exact ((name_of_methodNamed B.named B.method).1).trans (n3 h)
    · exact vx_table (x := zNm y) B (hts _ (by unfold zWs; rw [if_neg htx]; exact List.mem_cons_self))
/-- the handlers' list as the machine's table has it -/
theorem zfind_some : ∀ (tb : List (Nat × Nat × Nat × Nat)) (pc E h : Nat), zfind tb pc E = some h → ∃ (i : Nat) (q : Nat × Nat × Nat × Nat), tb[i]? = some q ∧ q.1 ≤ pc ∧ pc < q.2.1 ∧ q.2.2.2 = E ∧ q.2.2.1 = h ∧ ∀ j q', j < i → tb[j]? = some q' → ¬ (q'.1 ≤ pc ∧ pc < q'.2.1 ∧ q'.2.2.2 = E)
  | [], pc, E, h, hf => by cases hf
  | q :: t, pc, E, h, hf => by
    unfold zfind at hf
    split at hf
    · next hc =>
      cases hf
      exact ⟨0, q, rfl, hc.1, hc.2.1, hc.2.2, rfl, fun j q' hj => by omega⟩
    · next hc =>
      obtain ⟨i, q0, h1, h2, h3, h4, h5, h6⟩ := zfind_some t pc E h hf
      refine ⟨i + 1, q0, by rw [List.getElem?_cons_succ]; exact h1, h2, h3, h4, h5, fun j q' hj hq' => ?_⟩
      cases j with
      | zero => rw [List.getElem?_cons_zero] at hq'; cases hq'; exact hc
      | succ j => rw [List.getElem?_cons_succ] at hq'; exact h6 j q' (by omega) hq'
theorem zfind_none : ∀ (tb : List (Nat × Nat × Nat × Nat)) (pc E : Nat), zfind tb pc E = none → ∀ (i : Nat) (q : Nat × Nat × Nat × Nat), tb[i]? = some q → ¬ (q.1 ≤ pc ∧ pc < q.2.1 ∧ q.2.2.2 = E)
  | [], pc, E, hf, i, q, h => by simp at h
  | q0 :: t, pc, E, hf, i, q, h => by
    unfold zfind at hf
    split at hf
    · cases hf
    · next hc =>
      cases i with
      | zero => rw [List.getElem?_cons_zero] at h; cases h; exact hc
      | succ i => rw [List.getElem?_cons_succ] at h; exact zfind_none t pc E hf i q h
/-- a row of the machine's table, by the handlers' list -/
theorem zrow {y : Nat} (hy : y < 79) {i : Nat} {q : Nat × Nat × Nat × Nat} (h : (zHd y)[i]? = some q) : ∃ ct, (zTb y)[i]? = some (q.1, q.2.1, q.2.2.1, ct) ∧ ct ≠ 0 ∧ q.2.2.2 < 3 ∧ zhas (zgi (zHl y) i) (.classLink (zOwn y) ct (zEx q.2.2.2)) = true := by
  have hn := zname_lt y hy
  simp only [zname, Bool.and_eq_true, decide_eq_true_eq, List.all_eq_true, List.mem_range] at hn
  obtain ⟨-, -, -, n4, n5⟩ := hn
  have hl : i < (zTb y).length := by rw [n4]; exact (List.getElem?_eq_some_iff.mp h).1
  have e1 : (zHd y).getD i (0, 0, 0, 0) = q := by rw [List.getD_eq_getElem?_getD, h]; rfl
  have e2 : (zTb y)[i]? = some ((zTb y).getD i (0, 0, 0, 0)) := by rw [List.getD_eq_getElem?_getD, List.getElem?_eq_getElem hl]; rfl
  have k := n5 i hl
  rw [e1] at k
  obtain ⟨k1, k2, k3, k4, k5, k6⟩ := k
  refine ⟨((zTb y).getD i (0, 0, 0, 0)).2.2.2, ?_, k4, k5, k6⟩
  rw [e2, ← k1, ← k2, ← k3]
theorem zrow' {y : Nat} (hy : y < 79) {i : Nat} {q : Nat × Nat × Nat × Nat} (h : (zTb y)[i]? = some q) : ∃ e, (zHd y)[i]? = some (q.1, q.2.1, q.2.2.1, e) := by
  have hn := zname_lt y hy
  simp only [zname, Bool.and_eq_true, decide_eq_true_eq] at hn
  have hl : i < (zHd y).length := by rw [← hn.2.2.2.1]; exact (List.getElem?_eq_some_iff.mp h).1
  obtain ⟨q0, h0⟩ : ∃ q0, (zHd y)[i]? = some q0 := ⟨_, List.getElem?_eq_getElem hl⟩
  obtain ⟨ct, h1, -⟩ := zrow hy h0
  rw [h] at h1
  cases h1
  exact ⟨q0.2.2.2, h0⟩
/-- a row that doesn't take E at pc lets it pass -/
theorem zpass {U0 s : State} {args : Array Value} {y pc E : Nat} (hy : y < 79) (hX : zEnvX U0) (hW0 : U0.WarmedH s.vm) (hwd : ∀ w ∈ zBig, w.before args s = true) (hE : E < 3) {i : Nat} {q : Nat × Nat × Nat × Nat} (h : (zHd y)[i]? = some q) (hno : ¬ (q.1 ≤ pc ∧ pc < q.2.1 ∧ q.2.2.2 = E)) {z : ExceptionTableEntry} (hz : (tableOf (zTb y))[i]? = some z) :
    covers z pc = false ∨ (z.catchType ≠ 0 ∧ ∃ nm : String, (Cond.classLink (zOwn y) z.catchType nm).before args s = true ∧ va_Nc (zEx E) nm s) := by
  obtain ⟨ct, h1, h2, h3, h4⟩ := zrow hy h
  have hz' : z = ⟨q.1, q.2.1, q.2.2.1, ct⟩ := by
    unfold tableOf at hz
    rw [List.getElem?_map, h1] at hz
    cases hz
    rfl
  subst hz'
  by_cases hc : q.1 ≤ pc ∧ pc < q.2.1
  · right
    have hne : E ≠ q.2.2.2 := fun e => hno ⟨hc.1, hc.2, e.symm⟩
    exact ⟨h2, _, hwd _ (zhas_in h4), va_Nc.moved hW0.alike (hX.2 E q.2.2.2 hE h3 hne)⟩
  · left
    simp only [covers, Bool.and_eq_false_iff, decide_eq_false_iff_not]
    by_cases h1 : q.1 ≤ pc
    · exact Or.inr (fun h2 => hc ⟨h1, h2⟩)
    · exact Or.inl h1

/-! THE CLAIM OUT OF ONE WALK OF THE LAW'S BODY. Your part is whole_start (and what it stands on); all else here is the same for every law, but numbers. -/
def R_law : String := "SpritehallLaw"
def lw_P (b : Addr) (xs : List Int32) (args : Array Value) (s : State) : Prop := args = #[.ref b] ∧ s.IntsAt b xs ∧ xs.length ≤ 260 ∧ (Jvm.Cond.and given_1 narrow_1).before args s = true
def lw_Q (_ : Array Value) (s : State) (o : Outcome) (t : State) : Prop := o = .returned (some (.int 1)) ∧ Framed s o t [] room_1.cells room_1.slots
def lw_Z (below : List Frame) (a : Array Value) (s : State) : State → Prop := fun t => ∃ o, t.status = .running ∧ Ended t below o ∧ lw_Q a s o t
/-- the law's own end, with 1 on the stack, nothing written that was there before, its room as the claim has it -/
theorem lw_ret {p : Program} {l : Launch} {e : Env} {s : State} {m : MethodId} {below : List Frame} {meth : Method} {c : Code} {b : Nat} (hx : p.tables.exec = Jvm.exec) (hb : c.code = code) (hr : meth.sig.returnType = ret) (hlocks : meth.locks = false) {pc : Nat} {H : Heap} {ls : Array Slot} (hdg : decode code pc = .ok (.ireturn, 1)) : W p l e room_1 s m #[Value.ref b] below meth c H [] room_1.cells room_1.slots (lw_Z below #[Value.ref b] s) (F0 m pc ls [.int 1]) := by
  intro T hT X
  obtain ⟨fs, hret, hrun, hended, hW, hframe⟩ := X.leave (v := some (.int 1)) (hlocks := hlocks) (fun h => by rw [hr] at h; cases h)
  have hmeth' : T.vm.method? m = some meth := X.method'
  refine ⟨T.setFrames fs, ?_, .returned (some (.int 1)), hrun, hended, rfl, ⟨_, rfl⟩, hW, hframe⟩
  jvm_step X.here [X.here.top, hx, hb, hdg, hmeth', hr, ret, narrow_b1]
  (try refine ⟨rfl, ?_⟩); (try refine ⟨rfl, ?_⟩)
  first | (intro acts; rw [hret _ acts rfl rfl rfl]) | rw [hret _ _ rfl rfl rfl]
  exact Steps.refl _
/-- what holds at the law's entry: the machine, the code, the tables' words (any of lw_tbl by 'hts w (by decide +kernel)'), the script of L ints xs at the cell b, what the Statement gives of the start (any of its parts by flat_of_before) -/
def lw_At (p : Program) (s : State) (m : MethodId) (meth : Method) (c : Code) (b L : Nat) (xs : Nat → Int32) : Prop :=
  p.tables.exec = Jvm.exec ∧ c.code = code ∧ meth.sig.returnType = ret ∧ c.maxLocals = 5 ∧ s.vm.findClass R_law = some m.cls ∧ (∀ w ∈ lw_tbl, w.before #[Value.ref b] s = true) ∧ va_X b L xs s s.heap ∧ b < s.heap.size ∧ meth.locks = false ∧ (Jvm.Cond.and given_1 narrow_1).before #[Value.ref b] s = true ∧ c.exceptionTable.toList = []
/-! ===== the law's start: what the tables and the Statement say, as the run's environment ===== -/
theorem zKn {s : State} {b : Nat} (hts : ∀ w ∈ lw_tbl, w.before #[Value.ref b] s = true) : ∃ (D : va_G), ∀ (k : Nat) (q : vw_C), vwCl[k]? = some q → u_Kn s q.1 q.2.1 q.2.2 (D.1 k) (D.2 k) := by
  have key : ∀ x, x < 8 → ∃ (cC : ClassId) (iS : Nat → Nat), u_Kn s (zRC x) (zTC x) (zNf x) cC iS := by
    intro x hx
    have hi : ∀ x, x < 8 → Cond.instantiable (zRC x) (zNf x) ∈ lw_tbl := by decide +kernel
    exact u_known hts (fun w hw => (zlay0 x hx w hw).1) (hts _ (hi x hx))
  have key2 : ∀ x, ∃ (q : ClassId × (Nat → Nat)), x < 8 → u_Kn s (zRC x) (zTC x) (zNf x) q.1 q.2 := by
    intro x
    by_cases hx : x < 8
    · obtain ⟨a, b, h⟩ := key x hx
      exact ⟨(a, b), fun _ => h⟩
    · exact ⟨(0, fun _ => 0), fun h => absurd h hx⟩
  refine ⟨(fun k => (Classical.choose (key2 k)).1, fun k => (Classical.choose (key2 k)).2), fun k q hq => ?_⟩
  have hk : k < 8 := (List.getElem?_eq_some_iff.mp hq).1
  have h := Classical.choose_spec (key2 k) hk
  rw [zcl hk] at hq
  cases hq
  exact h
theorem zAr {s : State} {b : Nat} (hts : ∀ w ∈ lw_tbl, w.before #[Value.ref b] s = true) : ∃ T : Nat → ClassId, ∀ (k : Nat) (q : ClassId × FieldType), (zTys T)[k]? = some q → ArrOfT s q.1 q.2 ∧ va_RA s q.1 q.2 := by
  have prim : ∀ ty : FieldType, Cond.arrayClass ty ∈ lw_tbl → (∀ C, ty ≠ .object C) → ∃ cA : ClassId, ArrOfT s cA ty ∧ va_RA s cA ty := by
    intro ty hm hno
    obtain ⟨c, k, comp, h1, h2, h3⟩ := Cond.arrayClass_spec (hts _ hm)
    refine ⟨c, fun n z => ⟨(fun q h => by cases h), k, h2, comp, h3⟩, ?_⟩
    cases ty <;> first | exact h1 | exact absurd rfl (hno _)
  have obj : ∀ C : String, Cond.arrayOver (.object C) ∈ lw_tbl → ∃ cA : ClassId, ArrOfT s cA (.object C) ∧ va_RA s cA (.object C) := by
    intro C hm
    obtain ⟨comp, c, k, h1, -, h2, h3, h4⟩ := Cond.arrayOver_spec (hts _ hm)
    exact ⟨c, fun n z => ⟨(fun q h => by cases h), k, h2, comp, h3⟩, k, comp, h2, h3, h1, h4⟩
  obtain ⟨c0, p0⟩ := prim .int (by decide +kernel) (fun C h => by cases h)
  obtain ⟨c2, p2⟩ := obj RX0 (by decide +kernel)
  obtain ⟨c3, p3⟩ := obj "java/lang/Object" (by decide +kernel)
  refine ⟨fun i => match i with | 0 => c0 | 2 => c2 | _ => c3, fun k q hq => ?_⟩
  match k, hq with
  | 0, hq => cases hq; exact p0
  | 1, hq => cases hq; exact p0
  | 2, hq => cases hq; exact p2
  | 3, hq => cases hq; exact p3
  | k + 4, hq => simp [zTys] at hq
/-- the whole environment, at the law's start -/
theorem zstart {s : State} {b L : Nat} {xs : Nat → Int32} {l : Launch} (hflags : l.flags = flags0) (hts : ∀ w ∈ lw_tbl, w.before #[Value.ref b] s = true) (hgv : (Jvm.Cond.and given_1 narrow_1).before #[Value.ref b] s = true) (hX : va_X b L xs s s.heap) :
    ∃ (D : va_G) (T : Nat → ClassId) (de mi : Nat), zEnv D T s.heap.size de mi s l ∧ zEnvX s ∧ zEmp s de s.heap ∧ b ≠ de := by
  have hs := flat_of_before _ hgv
  obtain ⟨D, hD⟩ := zKn hts
  obtain ⟨T, hT⟩ := zAr hts
  have hA : ∀ a : Nat, a < s.heap.size → ¬ s.heap.size ≤ a := fun a h => Nat.not_le.mpr h
  have hex : (Cond.exactly (.static "java/util/ArrayList" "DEFAULTCAPACITY_EMPTY_ELEMENTDATA" "[Ljava/lang/Object;") "[Ljava/lang/Object;").before #[Value.ref b] s = true := hs _ (by decide +kernel)
  have har : (Cond.arrayOf (.static "java/util/ArrayList" "DEFAULTCAPACITY_EMPTY_ELEMENTDATA" "[Ljava/lang/Object;") (.object "java/lang/Object")).before #[Value.ref b] s = true := hs _ (by decide +kernel)
  have hln : (Cond.eq (.length (.static "java/util/ArrayList" "DEFAULTCAPACITY_EMPTY_ELEMENTDATA" "[Ljava/lang/Object;")) (.int 0)).before #[Value.ref b] s = true := hs _ (by decide +kernel)
  obtain ⟨de, cc, cell, k, ev, hcc, hcell, hk, hst, hcls, -⟩ := Cond.exactly_spec hex
  obtain ⟨hiso, hunk⟩ := Cond.arrayOf_spec har ev hcell
  have hsz : cell.slots.size = 0 := by
    cases hv : (Term.length (.static "java/util/ArrayList" "DEFAULTCAPACITY_EMPTY_ELEMENTDATA" "[Ljava/lang/Object;")).eval #[Value.ref b] s none [] s with
    | none => simp [Cond.before, Cond.holds, Cond.value, hv] at hln
    | some v =>
      obtain ⟨a9, c9, q1, q2, q3⟩ := Term.length_spec hv
      cases ev.symm.trans q1
      have q5 := (State.arrayAt?_spec q2).1
      cases hcell.symm.trans q5
      have hsm : ∀ t : Term, t.eval #[Value.ref b] s none [] s = some (.ref de) → (Term.length t).eval #[Value.ref b] s none [] s = some v → cell.slots.size < 2 ^ 31 := by
        intro t ht h9
        simp [Term.eval, ht, q2] at h9
        have := h9.1
        omega
      have q6 := hsm _ ev hv
      rw [q3] at hv
      have h9 := Cond.eq_ints hv (show (Term.int 0).eval #[Value.ref b] s none [] s = some (.int 0) from rfl)
      simp only [Cond.before, Cond.holds, h9] at hln
      have h8 : cell.slots.size.toInt32 = 0 := by simpa using hln
      have h7 := congrArg Int32.toInt h8
      rw [show cell.slots.size.toInt32 = nI cell.slots.size from rfl, nI_toInt q6] at h7
      have h6 : ((0 : Int32)).toInt = 0 := by decide
      omega
  have hmi : (Cond.isRef (.mirror "[Ljava/lang/Object;")).before #[Value.ref b] s = true := hs _ (by decide +kernel)
  obtain ⟨mi, hmi'⟩ := va_Mi.of hmi
  refine ⟨D, T, de, mi, ⟨⟨hD, hT⟩, rfl, ⟨_, hts⟩, ?_, ?_, ?_, ?_, hmi'⟩, ⟨fun own k tx h => ?_, fun i j hi hj hij => ?_⟩, ⟨cell, hcell, hiso, hunk, hsz⟩, fun e => ?_⟩
  · exact va_Zof (hts _ (by decide +kernel)) (hts _ (by decide +kernel)) ev hA
  · unfold Launch.stackTraces; rw [hflags]; decide
  · exact vx_Zqof (hts _ (by decide +kernel)) (hts _ (by decide +kernel)) (hs _ (by decide +kernel)) hA
  · exact vx_Zqof (hts _ (by decide +kernel)) (hts _ (by decide +kernel)) (hs _ (by decide +kernel)) hA
  · have h1 := hts _ h
    cases hc : s.vm.findClass own with
    | none => simp [Cond.before, Cond.holds, Cond.value, hc] at h1
    | some cur =>
      obtain ⟨k9, cf, i, a, -, -, -, -, -, hev⟩ := Cond.stringRef_spec hc h1
      exact ⟨a, vk_R.of h1 hev⟩
  · have hall : ∀ i, i < 3 → ∀ j, j < 3 → i ≠ j → Cond.not (.castable (zEx i) (zEx j)) ∈ flatC (Jvm.Cond.and given_1 narrow_1) := by decide +kernel
    exact va_Nc.of (hs _ (hall i hi j hj hij))
  · obtain ⟨scr, h1, h2, -⟩ := hX
    rw [e, hcell] at h1
    cases h1
    obtain ⟨-, k1, q1, comp1, q2⟩ := h2
    obtain ⟨-, k2, q3, comp2, q4⟩ := hiso
    rw [q1] at q3
    cases q3
    rw [q2] at q4
    cases q4
/-- the memory at the law's start -/
def zmem0 (b de L sz : Nat) (xs : Nat → Int32) : zM := ((fun a => if a = b then (14, L) else if a = de then (15, 0) else (0, 0)), (fun a k => if a = b then xs k else 0), (fun _ _ => none), (fun _ _ => 0), sz, 0, 0)
theorem zstartH {D : va_G} {T : Nat → ClassId} {s : State} {b de L : Nat} {xs : Nat → Int32} (hX : va_X b L xs s s.heap) (hE : zEmp s de s.heap) (hne : b ≠ de) : zHp D T s.heap.size s (zmem0 b de L s.heap.size xs) s.heap := by
  have hb : b < s.heap.size := by obtain ⟨scr, h1, -⟩ := hX; exact (Array.getElem?_eq_some_iff.mp h1).1
  have hd : de < s.heap.size := by obtain ⟨scr, h1, -⟩ := hE; exact (Array.getElem?_eq_some_iff.mp h1).1
  have hK : ∀ a, zK (zmem0 b de L s.heap.size xs) a = if a = b then (14, L) else if a = de then (15, 0) else (0, 0) := fun a => rfl
  have hI : zI (zmem0 b de L s.heap.size xs) b = xs := by funext k; show (if b = b then xs k else 0) = xs k; rw [if_pos rfl]
  refine ⟨fun a => ⟨fun h => ?_, fun h => ?_, fun h => ?_⟩, rfl, fun _ _ => rfl, Nat.le_refl _, fun a h => ?_, fun a h => ?_⟩
  · rw [hK] at h
    split at h
    · exact absurd h.2 (by simp only; decide)
    · split at h
      · exact absurd h.2 (by simp only; decide)
      · exact absurd h.1 (by simp only; decide)
  · rw [hK] at h
    split at h
    · next e => subst e; rw [hK, if_pos rfl, hI]; exact hX
    · split at h
      · exact absurd h (by simp only; decide)
      · exact absurd h (by simp only; decide)
  · rw [hK] at h
    split at h
    · exact absurd h (by simp only; decide)
    · split at h
      · next h1 h2 => subst h2; rw [hK, if_neg h1, if_pos rfl]; exact ⟨hE, rfl⟩
      · exact absurd h (by simp only; decide)
  · rw [hK] at h
    split at h
    · exact absurd h.2 (by simp only; decide)
    · split at h
      · exact absurd h.2 (by simp only; decide)
      · exact absurd h.1 (by simp only; decide)
  · rw [hK] at h
    split at h
    · next e => rw [e]; exact hb
    · split at h
      · next e => rw [e]; exact hd
      · exact absurd h (by simp only; decide)

/-- nothing that was there before is written -/
theorem zframed {s t : State} {o : Outcome} {L : List Loc} {k n k' n' : Nat} (h : FrameEnd s o t L k n) (hL : ∀ q ∈ L, s.heap.size ≤ q.base) (hk : k ≤ k') (hn : n ≤ n') : Framed s o t [] k' n' := by
  obtain ⟨h1, h2, e1, e2, e3, e4, e5, e6⟩ := h
  refine ⟨h1, h2, e1, e2, Nat.le_trans e3 (Nat.add_le_add_left hk _), e4, Nat.le_trans e5 hn, fun a c ha => ?_⟩
  obtain ⟨c', q1, q2, q3, q4⟩ := e6 a c ha
  refine ⟨c', q1, q2, q3, fun i _ => q4 i (fun hm => ?_)⟩
  have := hL _ hm
  have h9 := (Array.getElem?_eq_some_iff.mp ha).1
  simp only at this
  omega
/-- the law's claim, out of its run -/
theorem zwhole {p : Program} {e : Env} {s : State} {m : MethodId} {below : List Frame} {meth : Method} {c : Code} (l : Launch) (hflags : l.flags = flags0) {b L : Nat} {xs : Nat → Int32} (C0 : lw_At p s m meth c b L xs)
    (hrun : ∀ de mi sz : Nat, b ≠ de → b < sz → de < sz → ∃ f μ', zrn zcode zX zHd de mi f mL_law 0 [some (.ref b), none, none, none, none] [] (zmem0 b de L sz xs) = some (.inl (some (.int 1)), μ') ∧ zC μ' ≤ room_1.cells ∧ zL μ' ≤ room_1.slots) :
    W p l e room_1 s m #[Value.ref b] below meth c s.heap [] 0 0 (lw_Z below #[Value.ref b] s) (entryFrame m ([Value.ref b] : List Value).toArray 5) := by
  obtain ⟨hx, hb, hr, hml, hown, hts, hX, hbl, hlocks, hgv, htab⟩ := C0
  obtain ⟨D, T, de, mi, hE, hEX, hEmp, hne⟩ := zstart hflags hts hgv hX
  have hH := zstartH (D := D) (T := T) hX hEmp hne
  have hdl : de < s.heap.size := by obtain ⟨scr, h1, -⟩ := hEmp; exact (Array.getElem?_eq_some_iff.mp h1).1
  obtain ⟨f, μ', hr1, hc1, hc2⟩ := hrun de mi s.heap.size hne hbl hdl
  have hcat : ∀ v ∈ ([Value.ref b] : List Value), v.category = 1 := fun v hv => by rw [List.mem_singleton.mp hv]; rfl
  have hl := zentry (n := 5) hcat (Nat.le_of_ble_eq_true rfl)
  rw [lg_entry_eq]
  have hC : zCtx D T s.heap.size de mi s mL_law p l room_1 s m #[Value.ref b] meth c :=
    ⟨hx, hb, hown, fun w hw => hts w (List.mem_filter.mp hw).1, hml, hlocks, hr, by decide, by decide, State.WarmedH.refl s, fun _ _ => rfl, Nat.le_refl _, (fun h => by cases h), htab⟩
  have k := zrn_sound hE hEX f mL_law 0 [some (.ref b), none, none, none, none] [] (zmem0 b de L s.heap.size xs) _ μ' hr1 p e room_1 s m #[Value.ref b] below meth c 0 0 s.heap [] _ hC (by rw [Nat.sub_zero]; exact hc1) (by rw [Nat.sub_zero]; exact hc2) (Nat.le_refl _) (Nat.le_refl _) hH hl (fun _ h => nomatch h)
  intro T9 hT9 X9
  obtain ⟨t, st, o, h1, h2, h3⟩ := k T9 hT9 X9
  refine ⟨t, st, o, h1, h2, ?_⟩
  rcases h3 with ⟨⟨v, hv1, hv2, -⟩, Lf, hf, hLf⟩ | ⟨q, -, E, ce, Lf, ⟨k9, -, hv1, -⟩, -⟩
  · cases hv1
    exact ⟨hv2, zframed hf hLf (by rw [Nat.sub_zero]; exact hc1) (by rw [Nat.sub_zero]; exact hc2)⟩
  · cases hv1

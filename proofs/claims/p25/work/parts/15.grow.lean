/-! ===== 'throw new E("text")' with the heap's size behind it (the kit's row, its premise on the end made exact) ===== -/
section ZEnds
variable {p : Program} {l : Launch} {e : Env} {R : Room} {s : State} {m : MethodId} {args : Array Value} {below : List Frame} {meth : Method} {c : Code} {H : Heap} {locs : List Loc} {cells slots : Nat} {Q : State → Prop}
variable {mc ms : Nat} {free : Addr → Prop} {A0 A1 : Nat → Prop} {H0 : Heap} {a : Array Value} {ls : Array Slot} {st0 rest : List Value}
variable {Qc : Array Value → State → Outcome → State → Prop} {XC : String → State → State → Prop}
theorem zthrowS {cc : ByteArray} {pc : Nat} (hexec : p.tables.exec = Jvm.exec) (hb : c.code = cc) (hl : l.stackTraces = false) {own cls text : String} {names : List String} {ik is ic mc ms sa : Nat} {A : Nat → Prop}
    (hown : s.vm.findClass own = some m.cls) (hcls : Bundle.fit cls = true) (hnames : ∀ n ∈ names, Bundle.fit n = true)
    (hk : (Cond.classLink own ik cls).before args s = true) (hini : (Cond.initialized cls).before args s = true) (hstr : vk_R own is text sa s) (hat : ∀ w ∈ vx_atS own ic cls names, w.before args s = true)
    (hgood : ∀ w ∈ Cond.classLink own ik cls :: Cond.initialized cls :: vx_atS own ic cls names, vx_ot w = true)
    (hU : vx_Zq Bundle.tN "UNASSIGNED_STACK" Bundle.steD A s s.heap) (hN : vx_Zq Bundle.tN "SUPPRESSED_SENTINEL" Bundle.listD A s s.heap) (hS : va_S A s.heap H locs) (hsize : ls.size = c.maxLocals)
    (d0 : decode cc pc = .ok (.new ik, 3)) (d3 : decode cc (pc + 3) = .ok (.dup, 1)) (d4 : decode cc (pc + 4) = .ok (.ldc is, 2)) (d6 : decode cc (pc + 6) = .ok (.invokespecial ic, 3)) (d9 : decode cc (pc + 9) = .ok (.athrow, 1))
    (hout : ∀ x ∈ c.exceptionTable.toList, covers x (pc + 9) = false)
    (hRframes : names.length + 3 < R.frames) (hRlocals : (rest.map fun v => v.category).sum + (13 * (names.length + 1) + 43) ≤ R.locals) (hRcells : cells + 1 ≤ R.cells) (hRslots : slots + 6 ≤ R.slots) (hlocks : meth.locks = false)
    (hx : ∀ t : State, s.vm.Alike t.vm → t.heap.size = H.size + 1 → (∀ q : Nat, q < H.size → t.heap[q]? = H[q]?) → XC cls s t)
    (hf : ∀ z ∈ locs, free z.base) (hc : cells + 1 ≤ mc) (hs : slots + 6 ≤ ms) :
    W p l e R s m args below meth c H locs cells slots (vx_MQ below Qc XC args s mc ms free) (F0 m pc ls rest) := by
  intro T hT X
  have htr : e.platform.stackTraces = false := (show e.platform.stackTraces = l.stackTraces by rw [X.admits.platform]).trans hl
  have Y := vx_rebase X (R' := { frames := R.frames, locals := R.locals, cells := 1, slots := 6 }) (Nat.le_refl _) (Nat.le_refl _) hRcells hRslots
  obtain ⟨s', hA⟩ : ∃ z, z = (T.setVm s.vm).setFrames (.invoking m args :: below) := ⟨_, rfl⟩
  rw [← hA] at Y
  have hvm : s'.vm = s.vm := by rw [hA]; rfl
  have hhp : s'.heap = H := by rw [hA]; exact hT
  have hW0 : s.WarmedH s'.vm := by rw [hvm]; exact State.WarmedH.refl s
  have hat' : ∀ w ∈ vx_atS own ic cls names, w.before args s' = true := fun w hw => vx_ot_at hW0 hvm.symm (hgood w (List.mem_cons_of_mem _ (List.mem_cons_of_mem _ hw))) (hat w hw)
  have hk' : (Cond.classLink own ik cls).before args s' = true := vx_ot_at hW0 hvm.symm (hgood _ List.mem_cons_self) hk
  have hini' : (Cond.initialized cls).before args s' = true := vx_ot_at hW0 hvm.symm (hgood _ (List.mem_cons_of_mem _ List.mem_cons_self)) hini
  have hU' : vx_Zq Bundle.tN "UNASSIGNED_STACK" Bundle.steD A s' s'.heap := by rw [hhp]; exact vx_Zq.moved hW0.alike (hU.kept hS.2.1)
  have hN' : vx_Zq Bundle.tN "SUPPRESSED_SENTINEL" Bundle.listD A s' s'.heap := by rw [hhp]; exact vx_Zq.moved hW0.alike (hN.kept hS.2.1)
  have h : ∀ w ∈ Bundle.ownAtoms own ic cls names, w.before args s' = true := vx_own hat' (vx_isRefq hU'.1) (vx_isRefq hN'.1) hU'.2.word hN'.2.word
  have hown' : s'.vm.findClass own = some m.cls := by rw [hvm]; exact hown
  have hins : (Cond.instantiable cls 6).before args s' = true := h _ (by simp [Bundle.ownAtoms])
  obtain ⟨vm₁, cX, kX, hfX, hkX, -, -, X₁, st1⟩ := Y.newCold hexec (own := own) (C := cls) (index := ik) (n := 6) hown' hk' hins hini'
    (g := F0 m pc ls rest) rfl (by rw [hb]; exact d0) (Nat.le_refl _) (Nat.le_refl _)
  generalize hT1 : (T.setVm vm₁).pushCell { cls := cX, slots := kX.instanceTypes.map defaultValue, vm := .none } = T1 at X₁ st1
  have hcat : (Value.ref T.heap.size).category = 1 := rfl
  have hcellA : T1.heap[T.heap.size]? = some (freshCell cX kX) := by rw [← hT1]; exact State.heap_pushCell_size _ _
  have d3' : decode c.code (pc + 3) = .ok (.dup, 1) := by rw [hb]; exact d3
  have d4' : decode c.code (pc + 4) = .ok (.ldc is, 2) := by rw [hb]; exact d4
  have hstr' : vk_R own is text sa s' := vk_R.warm hW0 hstr
  obtain ⟨U, hsteps, hrun, hend, hW, hsame, ce, hce, hO⟩ := X₁.ctorThrowS hexec htr (own := own) (cls := cls) (names := names) (ic := ic) hown' hcls hnames h (fun x hx => nomatch hx) hfX hkX hcellA (by rw [hhp, hT]; exact Nat.le_refl _) (msg := .ref sa) rfl
    (g := { method := m, pc := pc + 6, locals := ls, stack := .ref sa :: .ref T.heap.size :: .ref T.heap.size :: rest, locked := none }) rfl hsize rfl rfl (rest := rest) rfl
    (by rw [hb]; exact d6) (by rw [hb]; exact d9) hout hRframes (by simp only [List.map_cons, List.sum_cons, hcat]; omega) hlocks
  obtain ⟨f1, f2⟩ := vx_frame hsame
  rw [hhp] at f1 f2
  have f3 : U.heap.size ≤ s'.heap.size + 1 := hsame.2.2.1
  rw [hhp] at f3
  have f4 : T.heap.size < U.heap.size := (Array.getElem?_eq_some_iff.mp hce).1
  rw [hT] at f4
  have f5 : U.heap.size = H.size + 1 := by omega
  have hWs : s.WarmedH U.vm := State.WarmedH.trans hW0 hW
  have hcl : s.vm.findClass cls = some ce.cls := by
    have h9 := hO.cls
    rw [hvm] at h9
    exact h9
  have hall : s.sameButNew ({ U with vm := s.vm } : State) locs mc ms := by
    subst hA
    obtain ⟨e1, e2⟩ := hsame
    rw [State.setFrames_setFrames] at e1
    have h2 : (T.setVm s.vm).sameButNew ({ U with vm := s.vm } : State) [] (0 + 1) (0 + 6) := ⟨e1, e2⟩
    have h3 := X.same.trans h2
    rw [List.append_nil] at h3
    exact h3.mono hc hs
  refine ⟨U, ?_, .threw T.heap.size, hrun, hend, Or.inr ⟨T.heap.size, rfl, cls, ce, locs, hx U hWs.alike f5 (fun q hq => f2 q hq (fun z hz => nomatch hz)), hce, hO.vm, hcl, hWs, hall, hf⟩⟩
  refine st1 _ ?_
  show Steps p.tables e below (T1.setTop { method := m, pc := pc + 3, locals := ls, stack := .ref T.heap.size :: rest, locked := none }) _
  jvm_step X₁.here [X₁.here.top, hexec, d3', Value.category]
  exact X₁.ldcString hexec (own := own) (text := text) (index := is) (a := sa) hown' hstr'.1 hstr'.2
    (g := { method := m, pc := pc + 4, locals := ls, stack := .ref T.heap.size :: .ref T.heap.size :: rest, locked := none }) rfl d4' _ hsteps
end ZEnds
/-- the run: method y from pc on -/
noncomputable def zrn (code : Nat → Nat → Option zOp) (nL : Nat → Nat) (tb : Nat → List (Nat × Nat × Nat × Nat)) (de mi : Nat) : Nat → Nat → Nat → List (Option Value) → List Value → zM → Option (zRes × zM)
  | 0, _, _, _, _, _ => none
  | f + 1, y, pc, ls, st, μ => match code y pc with
    | none => none
    | some o =>
      if zsort o = 1 then (match zfin o st with | some r => some (r, μ) | none => none)
      else if zsort o = 3 then (if st.length ≤ 4 then some (.inr o.2.2.2.1, znew μ 0 0 6) else none)
      else if zsort o = 2 then (match zargs o st μ with
        | none => none
        | some (as, rest) => (match zrn code nL tb de mi f o.2.2.2.1 0 (zent (nL o.2.2.2.1) as) [] μ with
          | none => none
          | some (.inl v, μ1) => zrn code nL tb de mi f y o.2.2.1 ls (v.toList ++ rest) μ1
          | some (.inr E, μ1) => (match zfind (tb y) pc E with
            | none => some (.inr E, μ1)
            | some h => (match zgo code y h with
              | none => none
              | some (n, x) => if x < ls.length then zrn code nL tb de mi f y n (ls.set x none) [] μ1 else none))))
      else (match zstep de mi o ls st μ with
        | none => none
        | some c => zrn code nL tb de mi f y c.1 c.2.1 c.2.2.1 c.2.2.2)
/-! ===== counters grow, fuel may grow ===== -/
set_option maxHeartbeats 2000000 in
theorem zstep_mono {de mi : Nat} {o : zOp} {ls : List (Option Value)} {st : List Value} {μ : zM} {c : zCf} (h : zstep de mi o ls st μ = some c) : zC μ ≤ zC c.2.2.2 ∧ zL μ ≤ zL c.2.2.2 := by
  obtain ⟨pc, i, n, x, v, z, ws⟩ := o
  cases i <;> (try (simp only [zstep] at h)) <;> (try (repeat' split at h)) <;> first
    | (cases h; done)
    | (cases h; exact ⟨Nat.le_refl _, Nat.le_refl _⟩)
    | (cases h; exact ⟨Nat.le_succ _, Nat.le_add_right _ _⟩)
theorem zrn_mono {code : Nat → Nat → Option zOp} {nL : Nat → Nat} {tb : Nat → List (Nat × Nat × Nat × Nat)} {de mi : Nat} : ∀ (f y pc : Nat) (ls : List (Option Value)) (st : List Value) (μ : zM) (r : zRes) (μ' : zM), zrn code nL tb de mi f y pc ls st μ = some (r, μ') → zC μ ≤ zC μ' ∧ zL μ ≤ zL μ' := by
  intro f
  induction f with
  | zero => intro y pc ls st μ r μ' h; simp [zrn] at h
  | succ f ih =>
    intro y pc ls st μ r μ' h
    simp only [zrn] at h
    split at h
    · cases h
    · next o ho =>
      split at h
      · split at h
        · cases h; exact ⟨Nat.le_refl _, Nat.le_refl _⟩
        · cases h
      · split at h
        · split at h
          · cases h; exact ⟨Nat.le_succ _, Nat.le_add_right _ _⟩
          · cases h
        · split at h
          · split at h
            · cases h
            · next as rest ha =>
              split at h
              · cases h
              · next v μ1 h1 =>
                have a := ih _ _ _ _ _ _ _ h1
                have b := ih _ _ _ _ _ _ _ h
                exact ⟨Nat.le_trans a.1 b.1, Nat.le_trans a.2 b.2⟩
              · next E μ1 h1 =>
                have a := ih _ _ _ _ _ _ _ h1
                split at h
                · cases h; exact a
                · split at h
                  · cases h
                  · split at h
                    · have b := ih _ _ _ _ _ _ _ h
                      exact ⟨Nat.le_trans a.1 b.1, Nat.le_trans a.2 b.2⟩
                    · cases h
          · split at h
            · cases h
            · next c hc =>
              have a := zstep_mono hc
              have b := ih _ _ _ _ _ _ _ h
              exact ⟨Nat.le_trans a.1 b.1, Nat.le_trans a.2 b.2⟩
theorem zrn_succ {code : Nat → Nat → Option zOp} {nL : Nat → Nat} {tb : Nat → List (Nat × Nat × Nat × Nat)} {de mi : Nat} : ∀ (f y pc : Nat) (ls : List (Option Value)) (st : List Value) (μ : zM) (q : zRes × zM), zrn code nL tb de mi f y pc ls st μ = some q → zrn code nL tb de mi (f + 1) y pc ls st μ = some q := by
  intro f
  induction f with
  | zero => intro y pc ls st μ q h; simp [zrn] at h
  | succ f ih =>
    intro y pc ls st μ q h
    rw [zrn]
    simp only [zrn] at h
    split at h
    · cases h
    · next o ho =>
      (try rw [ho])
      (try simp only)
      split at h
      · next hs => rw [if_pos hs]; exact h
      · next hs =>
        rw [if_neg hs]
        split at h
        · next hs3 => rw [if_pos hs3]; exact h
        · next hs3 =>
          rw [if_neg hs3]
          split at h
          · next hs2 =>
            rw [if_pos hs2]
            split at h
            · cases h
            · next as rest ha =>
              (try rw [ha])
              (try simp only)
              split at h
              · cases h
              · next v μ1 h1 =>
                rw [ih _ _ _ _ _ _ h1]
                exact ih _ _ _ _ _ _ h
              · next E μ1 h1 =>
                rw [ih _ _ _ _ _ _ h1]
                (try simp only)
                split at h
                · next hf => (try rw [hf]); exact h
                · next hh hf =>
                  (try rw [hf])
                  (try simp only)
                  split at h
                  · cases h
                  · next n x hg =>
                    (try rw [hg])
                    (try simp only)
                    split at h
                    · next hx => rw [if_pos hx]; exact ih _ _ _ _ _ _ h
                    · cases h
          · next hs2 =>
            rw [if_neg hs2]
            split at h
            · cases h
            · next c hc =>
              (try rw [hc])
              exact ih _ _ _ _ _ _ h
theorem zrn_more {code : Nat → Nat → Option zOp} {nL : Nat → Nat} {tb : Nat → List (Nat × Nat × Nat × Nat)} {de mi : Nat} {f y pc : Nat} {ls : List (Option Value)} {st : List Value} {μ : zM} {q : zRes × zM} (h : zrn code nL tb de mi f y pc ls st μ = some q) : ∀ k, zrn code nL tb de mi (f + k) y pc ls st μ = some q
  | 0 => h
  | k + 1 => zrn_succ _ _ _ _ _ _ _ (zrn_more h k)

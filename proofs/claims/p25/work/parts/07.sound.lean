/-! ===== THE MACHINE KEEPS THE RUN: soundness of one step ===== -/
def zTys (T : Nat → ClassId) : List (ClassId × FieldType) := [(T 0, .int), (T 0, .int), (T 2, .object RX0), (T 3, .object "java/lang/Object")]
def zV (x k : Nat) (μ : zM) (a : Nat) : Value := if zref (zty x k) then va_rf (zR μ a k) else .int (zI μ a k)
def zfs (x : Nat) (μ : zM) (a : Nat) : List Value := (List.range (zNf x)).map (fun k => zV x k μ a)
def zE (T : Nat → ClassId) (μ : zM) (a : Nat) : va_E := match (zK μ a).1 with
  | 9 => .inl (T 0, (zK μ a).2, .inl (zI μ a))
  | 10 => .inl (T 0, (zK μ a).2, .inl (zI μ a))
  | 11 => .inl (T 2, (zK μ a).2, .inr (.inr (.inr (.inr (zR μ a)))))
  | 12 => .inl (T 3, (zK μ a).2, .inr (.inr (.inr (.inr (zR μ a)))))
  | 13 => .inl (T 0, (zK μ a).2, .inl (zI μ a))
  | t => .inr (t - 1, zfs (t - 1) μ a)
def zEmp (U : State) (a : Nat) (H : Heap) : Prop := ∃ cell : Cell, H[a]? = some cell ∧ U.isArrayOf cell (.object "java/lang/Object") ∧ cell.vm ≠ .unknown ∧ cell.slots.size = 0
def zat (D : va_G) (T : Nat → ClassId) (U0 : State) (μ : zM) (a : Nat) (H : Heap) : Prop :=
  (1 ≤ (zK μ a).1 ∧ (zK μ a).1 ≤ 13 → va_at D vwCl (a, zE T μ a) H) ∧ ((zK μ a).1 = 14 → va_X a (zK μ a).2 (zI μ a) U0 H) ∧ ((zK μ a).1 = 15 → zEmp U0 a H ∧ (zK μ a).2 = 0)
/-- the heap holds the memory -/
def zHp (D : va_G) (T : Nat → ClassId) (B0 : Nat) (U0 : State) (μ : zM) (H : Heap) : Prop :=
  (∀ a, zat D T U0 μ a H) ∧ H.size = zS μ ∧ (∀ q, q < B0 → H[q]? = U0.heap[q]?) ∧ B0 ≤ zS μ ∧ (∀ a, 1 ≤ (zK μ a).1 ∧ (zK μ a).1 ≤ 13 → B0 ≤ a) ∧ ∀ a, 14 ≤ (zK μ a).1 → a < B0
/-- the locals hold the list -/
def zlv (ls : Array Slot) (nL : Nat) (L : List (Option Value)) : Prop := ls.size = nL ∧ lv_wf ls ∧ L.length = nL ∧ ∀ (i : Nat) (v : Value), L[i]? = some (some v) → ls[i]? = some (.val v) ∧ v.category = 1
/-- what holds at every place of a body of method y -/
def zCtx (D : va_G) (T : Nat → ClassId) (B0 de mi : Nat) (U0 : State) (y : Nat) (p : Program) (l : Launch) (R : Room) (s : State) (m : MethodId) (args : Array Value) (meth : Method) (c : Code) : Prop :=
  p.tables.exec = Jvm.exec ∧ c.code = zB y ∧ s.vm.findClass (zOwn y) = some m.cls ∧ (∀ w ∈ zBig, w.before args s = true) ∧ c.maxLocals = zX y ∧ meth.locks = false ∧ meth.sig.returnType = zRt y ∧
  zFr y ≤ R.frames ∧ zLo y ≤ R.locals ∧ U0.WarmedH s.vm ∧ (∀ q, q < B0 → s.heap[q]? = U0.heap[q]?) ∧ B0 ≤ s.heap.size ∧ (zIn y = true → meth.name = "<init>") ∧ c.exceptionTable.toList = tableOf (zTb y)
/-- what is known of the start of the law -/
def zEnv (D : va_G) (T : Nat → ClassId) (B0 de mi : Nat) (U0 : State) (l : Launch) : Prop :=
  va_K D vwCl (zTys T) U0 ∧ B0 = U0.heap.size ∧ (∃ a0 : Array Value, ∀ w ∈ lw_tbl, w.before a0 U0 = true) ∧ va_Z "java/util/ArrayList" "DEFAULTCAPACITY_EMPTY_ELEMENTDATA" "[Ljava/lang/Object;" (.ref de) (fun q => B0 ≤ q) U0 U0.heap ∧
  l.stackTraces = false ∧ vx_Zq Bundle.tN "UNASSIGNED_STACK" Bundle.steD (fun q => B0 ≤ q) U0 U0.heap ∧ vx_Zq Bundle.tN "SUPPRESSED_SENTINEL" Bundle.listD (fun q => B0 ≤ q) U0 U0.heap ∧ va_Mi "[Ljava/lang/Object;" mi U0
def zGoal (D : va_G) (T : Nat → ClassId) (B0 de mi : Nat) (U0 : State) (y : Nat) (o : zOp) : Prop :=
  ∀ (p : Program) (l : Launch) (e : Env) (R : Room) (s : State) (m : MethodId) (args : Array Value) (below : List Frame) (meth : Method) (cc : Code), zEnv D T B0 de mi U0 l → zCtx D T B0 de mi U0 y p l R s m args meth cc →
  ∀ (ls : List (Option Value)) (st : List Value) (μ : zM) (c : zCf), zstep de mi o ls st μ = some c →
  ∀ (H : Heap) (locs : List Loc) (lsA : Array Slot) (cells slots : Nat) (Q : State → Prop), zHp D T B0 U0 μ H → zlv lsA (zX y) ls → (∀ z ∈ locs, B0 ≤ z.base) →
  cells + (zC c.2.2.2 - zC μ) ≤ R.cells → slots + (zL c.2.2.2 - zL μ) ≤ R.slots →
  (∀ (H' : Heap) (locs' : List Loc) (lsA' : Array Slot), zHp D T B0 U0 c.2.2.2 H' → zlv lsA' (zX y) c.2.1 → (∀ z ∈ locs', B0 ≤ z.base) →
    W p l e R s m args below meth cc H' locs' (cells + (zC c.2.2.2 - zC μ)) (slots + (zL c.2.2.2 - zL μ)) Q (F0 m c.1 lsA' c.2.2.1)) →
  W p l e R s m args below meth cc H locs cells slots Q (F0 m o.1 lsA st)
theorem zlv_at {ls : Array Slot} {nL : Nat} {L : List (Option Value)} (h : zlv ls nL L) {i : Nat} {v : Value} (hi : zld L i = some v) : ls[i]? = some (.val v) := by
  refine (h.2.2.2 i v ?_).1
  unfold zld at hi
  split at hi
  · next w hw => rw [hw]; cases hi; rfl
  · cases hi
def zas (L : List (Option Value)) : List (Nat × Value) := L.zipIdx.filterMap (fun q => q.1.map (fun v => (q.2, v)))
theorem zas_mem {L : List (Option Value)} {i : Nat} {v : Value} : (i, v) ∈ zas L ↔ L[i]? = some (some v) := by
  unfold zas
  rw [List.mem_filterMap]
  constructor
  · rintro ⟨⟨o, j⟩, h1, h2⟩
    rw [List.mem_zipIdx_iff_getElem?] at h1
    cases o with
    | none => cases h2
    | some w =>
      simp only [Option.map_some, Option.some.injEq, Prod.mk.injEq] at h2
      obtain ⟨rfl, rfl⟩ := h2
      exact h1
  · intro h
    exact ⟨(some v, i), by rw [List.mem_zipIdx_iff_getElem?]; exact h, rfl⟩
theorem zlv_has {ls : Array Slot} {nL : Nat} {L : List (Option Value)} (h : zlv ls nL L) : lv_has ls nL (zas L) := by
  refine ⟨h.1, h.2.1, fun q hq => ?_⟩
  obtain ⟨i, v⟩ := q
  exact (h.2.2.2 i v (zas_mem.mp hq)).1
theorem zlv_set {ls ls' : Array Slot} {nL : Nat} {L : List (Option Value)} {i : Nat} {v : Value} (h : zlv ls nL L) (hv : v.category = 1) (hi : i < L.length) (h' : lv_has ls' nL ((i, v) :: (zas L).filter (fun q => !(q.1 == i) && !(q.1 + 1 == i && q.2.category == 2)))) : zlv ls' nL (L.set i (some v)) := by
  refine ⟨h'.1, h'.2.1, by rw [List.length_set]; exact h.2.2.1, fun j w hj => ?_⟩
  by_cases e : j = i
  · subst e
    rw [List.getElem?_set_self hi] at hj
    cases hj
    exact ⟨h'.2.2 (j, v) List.mem_cons_self, hv⟩
  · rw [List.getElem?_set_ne (Ne.symm e)] at hj
    have hc := (h.2.2.2 j w hj).2
    refine ⟨h'.2.2 (j, w) (List.mem_cons_of_mem _ (List.mem_filter.mpr ⟨zas_mem.mpr hj, ?_⟩)), hc⟩
    simp [e, hc]
theorem zlv_setN {ls : Array Slot} {nL : Nat} {L : List (Option Value)} {i : Nat} {v : Value} (h : zlv ls nL (L.set i (some v))) : zlv ls nL (L.set i none) := by
  refine ⟨h.1, h.2.1, by have := h.2.2.1; rwa [List.length_set] at this ⊢, fun j w hj => ?_⟩
  by_cases e : j = i
  · subst e
    by_cases hl : j < L.length
    · rw [List.getElem?_set_self hl] at hj; cases hj
    · rw [List.getElem?_eq_none (by rw [List.length_set]; omega)] at hj; cases hj
  · refine h.2.2.2 j w ?_
    rw [List.getElem?_set_ne (Ne.symm e)] at hj ⊢
    exact hj
theorem zat_kept {D : va_G} {T : Nat → ClassId} {U0 : State} {μ : zM} {a : Nat} {H H1 : Heap} (h : zat D T U0 μ a H) (hq : H1[a]? = H[a]?) : zat D T U0 μ a H1 := by
  refine ⟨fun k => (h.1 k).kept hq, fun k => (h.2.1 k).kept hq, fun k => ?_⟩
  obtain ⟨⟨c, h1, h2⟩, h3⟩ := h.2.2 k
  exact ⟨⟨c, by rw [hq]; exact h1, h2⟩, h3⟩
theorem zat_cong {D : va_G} {T : Nat → ClassId} {U0 : State} {μ μ' : zM} {a : Nat} {H : Heap} (h : zat D T U0 μ a H) (hK : zK μ' a = zK μ a) (hI : zI μ' a = zI μ a) (hR : zR μ' a = zR μ a) (hJ : zJ μ' a = zJ μ a) : zat D T U0 μ' a H := by
  have he : zE T μ' a = zE T μ a := by
    unfold zE
    rw [hK, hI, hR]
    have hf : ∀ x, zfs x μ' a = zfs x μ a := fun x => by unfold zfs zV; rw [hI, hR]
    simp only [hf]
  unfold zat
  rw [hK, he, hI]
  exact h
theorem zup_ne {α : Type} {f : Nat → Nat → α} {a k : Nat} {v : α} {b : Nat} (h : b ≠ a) : zup f a k v b = f b := by
  funext j
  simp [zup, h]
/-- a cell of the memory written anew -/
theorem zHp_put {D : va_G} {T : Nat → ClassId} {B0 : Nat} {U0 : State} {μ μ' : zM} {H H1 : Heap} {a : Nat} (h : zHp D T B0 U0 μ H) (hB : B0 ≤ a) (hz : H1.size = H.size) (hq : ∀ q, q ≠ a → H1[q]? = H[q]?) (ha : zat D T U0 μ' a H1)
    (hK : zK μ' = zK μ) (hI : ∀ b, b ≠ a → zI μ' b = zI μ b) (hR : ∀ b, b ≠ a → zR μ' b = zR μ b) (hJ : ∀ b, b ≠ a → zJ μ' b = zJ μ b) (hS : zS μ' = zS μ) : zHp D T B0 U0 μ' H1 := by
  obtain ⟨h1, h2, h3, h4, h5, h6⟩ := h
  refine ⟨fun b => ?_, by rw [hz, h2, hS], fun q hq0 => by rw [hq q (by omega)]; exact h3 q hq0, by rw [hS]; exact h4, by rw [hK]; exact h5, by rw [hK]; exact h6⟩
  by_cases e : b = a
  · subst e; exact ha
  · exact zat_cong (zat_kept (h1 b) (hq b e)) (by rw [hK]) (hI b e) (hR b e) (hJ b e)
/-- a new cell -/
theorem zHp_new {D : va_G} {T : Nat → ClassId} {B0 : Nat} {U0 : State} {μ : zM} {H H1 : Heap} {t n w : Nat} (h : zHp D T B0 U0 μ H) (hz : H1.size = H.size + 1) (hq : ∀ q, q < H.size → H1[q]? = H[q]?) (ht : t ≤ 13) (ha : 1 ≤ t → va_at D vwCl (zS μ, zE T (znew μ t n w) (zS μ)) H1) : zHp D T B0 U0 (znew μ t n w) H1 := by
  obtain ⟨h1, h2, h3, h4, h5, h6⟩ := h
  refine ⟨fun b => ?_, by rw [hz, h2]; rfl, fun q hq0 => by rw [hq q (by omega)]; exact h3 q hq0, by show B0 ≤ zS μ + 1; omega, fun b => ?_, fun b => ?_⟩
  · by_cases e : b = zS μ
    · subst e
      have hk : zK (znew μ t n w) (zS μ) = (t, n) := by rw [zK_new, if_pos rfl]
      refine ⟨fun k => ?_, fun k => ?_, fun k => ?_⟩
      · rw [hk] at k; exact ha k.1
      · rw [hk] at k; simp only at k; omega
      · rw [hk] at k; simp only at k; omega
    · have hI : zI (znew μ t n w) b = zI μ b := by funext k; rw [zI_new, if_neg e]
      have hR : zR (znew μ t n w) b = zR μ b := by funext k; rw [zR_new, if_neg e]
      have hJ : zJ (znew μ t n w) b = zJ μ b := by funext k; rw [zJ_new, if_neg e]
      have hK : zK (znew μ t n w) b = zK μ b := by rw [zK_new, if_neg e]
      by_cases hl : b < H.size
      · exact zat_cong (zat_kept (h1 b) (hq b hl)) hK hI hR hJ
      · have hn : H[b]? = none := Array.getElem?_eq_none (by omega)
        have n1 : ∀ q : Nat × va_E, q.1 = b → ¬ va_at D vwCl q H := fun q e9 h9 => by have := h9.lt; omega
        refine ⟨fun k => ?_, fun k => ?_, fun k => ?_⟩
        · rw [hK] at k; exact absurd ((h1 b).1 k) (n1 _ rfl)
        · rw [hK] at k; obtain ⟨c, h9, -⟩ := (h1 b).2.1 k; rw [hn] at h9; cases h9
        · rw [hK] at k; obtain ⟨⟨c, h9, -⟩, -⟩ := (h1 b).2.2 k; rw [hn] at h9; cases h9
  · rw [zK_new]
    by_cases e : b = zS μ
    · rw [if_pos e]; intro _; omega
    · rw [if_neg e]; exact h5 b
  · rw [zK_new]
    by_cases e : b = zS μ
    · rw [if_pos e]; intro (h9 : 14 ≤ t); omega
    · rw [if_neg e]; exact h6 b
theorem zdec {b : ByteArray} {pc k : Nat} {i : Instr} (h : decode b pc = .ok (i, pc + k - pc)) : decode b pc = .ok (i, k) := by
  rw [Nat.add_sub_cancel_left] at h
  exact h
theorem zopt_rf {v : Value} {r : Option Nat} (h : zopt v = some r) : v = va_rf r := by
  unfold zopt at h
  split at h
  · cases h; rfl
  · cases h; rfl
  · cases h

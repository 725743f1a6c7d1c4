section
-- ===== PART A: goes FIRST, ahead of the names: the tables' words, and 'selects' of the private methods out of them =====
/-- a private method of a class that the tables say can be made, by its rows of tables_1 -/
def lw_okq (q : MethodName × Nat) : Prop := (q.1.cls ≠ "java/lang/invoke/MethodHandle" ∧ q.1.cls ≠ "java/lang/invoke/VarHandle") ∧ Cond.instantiable q.1.cls q.2 ∈ tables_1 ∧ Cond.privateMethod q.1 ∈ tables_1 ∧ Cond.instanceMethod q.1 ∈ tables_1
theorem lw_p0 : lw_okq (⟨"Spritehall", "heldActor", "(I)LSpritehall$Actor;"⟩, 6) := ⟨⟨by decide +kernel, by decide +kernel⟩, List.mem_of_getElem? (i := 23) (by decide +kernel), List.mem_of_getElem? (i := 100) (by decide +kernel), List.mem_of_getElem? (i := 101) (by decide +kernel)⟩
theorem lw_p1 : lw_okq (⟨"Spritehall", "findHeld", "(I)LSpritehall$Actor;"⟩, 6) := ⟨⟨by decide +kernel, by decide +kernel⟩, List.mem_of_getElem? (i := 23) (by decide +kernel), List.mem_of_getElem? (i := 104) (by decide +kernel), List.mem_of_getElem? (i := 105) (by decide +kernel)⟩
theorem lw_p2 : lw_okq (⟨"java/lang/Throwable", "fillInStackTrace", "(I)Ljava/lang/Throwable;"⟩, 6) := ⟨⟨by decide +kernel, by decide +kernel⟩, List.mem_of_getElem? (i := 165) (by decide +kernel), List.mem_of_getElem? (i := 163) (by decide +kernel), List.mem_of_getElem? (i := 164) (by decide +kernel)⟩
theorem lw_p3 : lw_okq (⟨"Spritehall", "hasRoomForOne", "()Z"⟩, 6) := ⟨⟨by decide +kernel, by decide +kernel⟩, List.mem_of_getElem? (i := 23) (by decide +kernel), List.mem_of_getElem? (i := 217) (by decide +kernel), List.mem_of_getElem? (i := 218) (by decide +kernel)⟩
theorem lw_p4 : lw_okq (⟨"Spritehall", "countHeld", "()I"⟩, 6) := ⟨⟨by decide +kernel, by decide +kernel⟩, List.mem_of_getElem? (i := 23) (by decide +kernel), List.mem_of_getElem? (i := 221) (by decide +kernel), List.mem_of_getElem? (i := 222) (by decide +kernel)⟩
theorem lw_p5 : lw_okq (⟨"Spritehall", "enter", "(LSpritehall$Actor;)LSpritehall$Actor;"⟩, 6) := ⟨⟨by decide +kernel, by decide +kernel⟩, List.mem_of_getElem? (i := 23) (by decide +kernel), List.mem_of_getElem? (i := 289) (by decide +kernel), List.mem_of_getElem? (i := 290) (by decide +kernel)⟩
theorem lw_p6 : lw_okq (⟨"java/util/ArrayList", "add", "(Ljava/lang/Object;[Ljava/lang/Object;I)V"⟩, 3) := ⟨⟨by decide +kernel, by decide +kernel⟩, List.mem_of_getElem? (i := 31) (by decide +kernel), List.mem_of_getElem? (i := 309) (by decide +kernel), List.mem_of_getElem? (i := 310) (by decide +kernel)⟩
theorem lw_p7 : lw_okq (⟨"java/util/ArrayList", "grow", "()[Ljava/lang/Object;"⟩, 3) := ⟨⟨by decide +kernel, by decide +kernel⟩, List.mem_of_getElem? (i := 31) (by decide +kernel), List.mem_of_getElem? (i := 313) (by decide +kernel), List.mem_of_getElem? (i := 314) (by decide +kernel)⟩
theorem lw_p8 : lw_okq (⟨"java/util/ArrayList", "grow", "(I)[Ljava/lang/Object;"⟩, 3) := ⟨⟨by decide +kernel, by decide +kernel⟩, List.mem_of_getElem? (i := 31) (by decide +kernel), List.mem_of_getElem? (i := 317) (by decide +kernel), List.mem_of_getElem? (i := 318) (by decide +kernel)⟩
theorem lw_p9 : lw_okq (⟨"Spritehall", "noteHeld", "()V"⟩, 6) := ⟨⟨by decide +kernel, by decide +kernel⟩, List.mem_of_getElem? (i := 23) (by decide +kernel), List.mem_of_getElem? (i := 378) (by decide +kernel), List.mem_of_getElem? (i := 379) (by decide +kernel)⟩
theorem lw_p10 : lw_okq (⟨"Spritehall", "holdLinked", "()Z"⟩, 6) := ⟨⟨by decide +kernel, by decide +kernel⟩, List.mem_of_getElem? (i := 23) (by decide +kernel), List.mem_of_getElem? (i := 382) (by decide +kernel), List.mem_of_getElem? (i := 383) (by decide +kernel)⟩
theorem lw_p11 : lw_okq (⟨"Spritehall", "runWaves", "()V"⟩, 6) := ⟨⟨by decide +kernel, by decide +kernel⟩, List.mem_of_getElem? (i := 23) (by decide +kernel), List.mem_of_getElem? (i := 407) (by decide +kernel), List.mem_of_getElem? (i := 408) (by decide +kernel)⟩
theorem lw_p12 : lw_okq (⟨"Spritehall", "moveHeld", "()V"⟩, 6) := ⟨⟨by decide +kernel, by decide +kernel⟩, List.mem_of_getElem? (i := 23) (by decide +kernel), List.mem_of_getElem? (i := 412) (by decide +kernel), List.mem_of_getElem? (i := 413) (by decide +kernel)⟩
theorem lw_p13 : lw_okq (⟨"Spritehall", "hitInCells", "()V"⟩, 6) := ⟨⟨by decide +kernel, by decide +kernel⟩, List.mem_of_getElem? (i := 23) (by decide +kernel), List.mem_of_getElem? (i := 421) (by decide +kernel), List.mem_of_getElem? (i := 422) (by decide +kernel)⟩
theorem lw_p14 : lw_okq (⟨"Spritehall", "isHeldIn", "(II)Z"⟩, 6) := ⟨⟨by decide +kernel, by decide +kernel⟩, List.mem_of_getElem? (i := 23) (by decide +kernel), List.mem_of_getElem? (i := 425) (by decide +kernel), List.mem_of_getElem? (i := 426) (by decide +kernel)⟩
theorem lw_p15 : lw_okq (⟨"Spritehall", "hitAllIn", "(I)V"⟩, 6) := ⟨⟨by decide +kernel, by decide +kernel⟩, List.mem_of_getElem? (i := 23) (by decide +kernel), List.mem_of_getElem? (i := 429) (by decide +kernel), List.mem_of_getElem? (i := 430) (by decide +kernel)⟩
def lw_privs_1 : List (MethodName × Nat) := [(⟨"Spritehall", "heldActor", "(I)LSpritehall$Actor;"⟩, 6), (⟨"Spritehall", "findHeld", "(I)LSpritehall$Actor;"⟩, 6), (⟨"java/lang/Throwable", "fillInStackTrace", "(I)Ljava/lang/Throwable;"⟩, 6), (⟨"Spritehall", "hasRoomForOne", "()Z"⟩, 6), (⟨"Spritehall", "countHeld", "()I"⟩, 6), (⟨"Spritehall", "enter", "(LSpritehall$Actor;)LSpritehall$Actor;"⟩, 6), (⟨"java/util/ArrayList", "add", "(Ljava/lang/Object;[Ljava/lang/Object;I)V"⟩, 3), (⟨"java/util/ArrayList", "grow", "()[Ljava/lang/Object;"⟩, 3), (⟨"java/util/ArrayList", "grow", "(I)[Ljava/lang/Object;"⟩, 3), (⟨"Spritehall", "noteHeld", "()V"⟩, 6), (⟨"Spritehall", "holdLinked", "()Z"⟩, 6), (⟨"Spritehall", "runWaves", "()V"⟩, 6), (⟨"Spritehall", "moveHeld", "()V"⟩, 6), (⟨"Spritehall", "hitInCells", "()V"⟩, 6), (⟨"Spritehall", "isHeldIn", "(II)Z"⟩, 6), (⟨"Spritehall", "hitAllIn", "(I)V"⟩, 6)]
theorem lw_r1 : ∀ q ∈ lw_privs_1, lw_okq q := List.forall_mem_cons.mpr ⟨lw_p0, List.forall_mem_cons.mpr ⟨lw_p1, List.forall_mem_cons.mpr ⟨lw_p2, List.forall_mem_cons.mpr ⟨lw_p3, List.forall_mem_cons.mpr ⟨lw_p4, List.forall_mem_cons.mpr ⟨lw_p5, List.forall_mem_cons.mpr ⟨lw_p6, List.forall_mem_cons.mpr ⟨lw_p7, List.forall_mem_cons.mpr ⟨lw_p8, List.forall_mem_cons.mpr ⟨lw_p9, List.forall_mem_cons.mpr ⟨lw_p10, List.forall_mem_cons.mpr ⟨lw_p11, List.forall_mem_cons.mpr ⟨lw_p12, List.forall_mem_cons.mpr ⟨lw_p13, List.forall_mem_cons.mpr ⟨lw_p14, List.forall_mem_cons.mpr ⟨lw_p15, fun _ h => absurd h List.not_mem_nil⟩⟩⟩⟩⟩⟩⟩⟩⟩⟩⟩⟩⟩⟩⟩⟩
theorem lw_p16 : lw_okq (⟨"Spritehall$Slots", "takeStep", "()V"⟩, 3) := ⟨⟨by decide +kernel, by decide +kernel⟩, List.mem_of_getElem? (i := 57) (by decide +kernel), List.mem_of_getElem? (i := 437) (by decide +kernel), List.mem_of_getElem? (i := 438) (by decide +kernel)⟩
theorem lw_p17 : lw_okq (⟨"Spritehall$Slots", "lookAt", "(I)V"⟩, 3) := ⟨⟨by decide +kernel, by decide +kernel⟩, List.mem_of_getElem? (i := 57) (by decide +kernel), List.mem_of_getElem? (i := 441) (by decide +kernel), List.mem_of_getElem? (i := 442) (by decide +kernel)⟩
theorem lw_p18 : lw_okq (⟨"Spritehall$Slots", "mark", "()V"⟩, 3) := ⟨⟨by decide +kernel, by decide +kernel⟩, List.mem_of_getElem? (i := 57) (by decide +kernel), List.mem_of_getElem? (i := 445) (by decide +kernel), List.mem_of_getElem? (i := 446) (by decide +kernel)⟩
theorem lw_p19 : lw_okq (⟨"Spritehall", "sumOfHeld", "()I"⟩, 6) := ⟨⟨by decide +kernel, by decide +kernel⟩, List.mem_of_getElem? (i := 23) (by decide +kernel), List.mem_of_getElem? (i := 458) (by decide +kernel), List.mem_of_getElem? (i := 459) (by decide +kernel)⟩
theorem lw_p20 : lw_okq (⟨"Spritehall", "nearestSound", "(I)I"⟩, 6) := ⟨⟨by decide +kernel, by decide +kernel⟩, List.mem_of_getElem? (i := 23) (by decide +kernel), List.mem_of_getElem? (i := 477) (by decide +kernel), List.mem_of_getElem? (i := 478) (by decide +kernel)⟩
theorem lw_p21 : lw_okq (⟨"Spritehall", "canBeHeard", "(LSpritehall$Sound;)Z"⟩, 6) := ⟨⟨by decide +kernel, by decide +kernel⟩, List.mem_of_getElem? (i := 23) (by decide +kernel), List.mem_of_getElem? (i := 485) (by decide +kernel), List.mem_of_getElem? (i := 486) (by decide +kernel)⟩
theorem lw_p22 : lw_okq (⟨"java/util/ArrayList", "fastRemove", "([Ljava/lang/Object;I)V"⟩, 3) := ⟨⟨by decide +kernel, by decide +kernel⟩, List.mem_of_getElem? (i := 31) (by decide +kernel), List.mem_of_getElem? (i := 552) (by decide +kernel), List.mem_of_getElem? (i := 553) (by decide +kernel)⟩
def lw_privs_2 : List (MethodName × Nat) := [(⟨"Spritehall$Slots", "takeStep", "()V"⟩, 3), (⟨"Spritehall$Slots", "lookAt", "(I)V"⟩, 3), (⟨"Spritehall$Slots", "mark", "()V"⟩, 3), (⟨"Spritehall", "sumOfHeld", "()I"⟩, 6), (⟨"Spritehall", "nearestSound", "(I)I"⟩, 6), (⟨"Spritehall", "canBeHeard", "(LSpritehall$Sound;)Z"⟩, 6), (⟨"java/util/ArrayList", "fastRemove", "([Ljava/lang/Object;I)V"⟩, 3)]
theorem lw_r2 : ∀ q ∈ lw_privs_2, lw_okq q := List.forall_mem_cons.mpr ⟨lw_p16, List.forall_mem_cons.mpr ⟨lw_p17, List.forall_mem_cons.mpr ⟨lw_p18, List.forall_mem_cons.mpr ⟨lw_p19, List.forall_mem_cons.mpr ⟨lw_p20, List.forall_mem_cons.mpr ⟨lw_p21, List.forall_mem_cons.mpr ⟨lw_p22, fun _ h => absurd h List.not_mem_nil⟩⟩⟩⟩⟩⟩⟩
def lw_privs : List (MethodName × Nat) := lw_privs_1 ++ (lw_privs_2)
def lw_tbl : List Cond := k2_sels lw_privs ++ tables_1
theorem lw_privs_ok : ∀ q ∈ lw_privs, lw_okq q := by
  show ∀ q ∈ lw_privs_1 ++ (lw_privs_2), lw_okq q
  exact List.forall_mem_append.mpr ⟨lw_r1, lw_r2⟩
end
section
/-! ===== BEGIN words of one list among another's, by their places ===== -/
theorem goodIn_r {big : List Cond} (ws : List Cond) (ps : List Nat) (hp : ws = ps.filterMap (fun i => big[i]?)) (h : ws.all goodWord = true) : GoodIn big ws := by
  intro w hw
  have h1 := List.all_eq_true.mp h w hw
  rw [hp] at hw
  obtain ⟨i, -, hi⟩ := List.mem_filterMap.mp hw
  have hm : w ∈ big := by first | exact List.mem_of_getElem? hi | exact List.getElem?_mem hi
  exact ⟨hm, good_of_word h1⟩
theorem goodIn_app {big a b : List Cond} (ha : GoodIn big a) (hb : GoodIn big b) : GoodIn big (a ++ b) := fun w h => (List.mem_append.mp h).elim (ha w) (hb w)
theorem goodIn_ca {big a b : List Cond} {c : Cond} (ha : GoodIn big (c :: a)) (hb : GoodIn big b) : GoodIn big (c :: (a ++ b)) := fun w h => (List.mem_cons.mp h).elim (fun e => ha w (List.mem_cons.mpr (Or.inl e))) (fun h => (List.mem_append.mp h).elim (fun h => ha w (List.mem_cons.mpr (Or.inr h))) (hb w))
theorem goodIn_sub {big ws : List Cond} (hm : ∀ w ∈ ws, w ∈ big) (h : ws.all goodWord = true) : GoodIn big ws := fun w hw => ⟨hm w hw, good_of_word (List.all_eq_true.mp h w hw)⟩
/-! ===== END ===== -/

/-! ===== BEGIN exceptions that leave a method, and their catching by the caller (launches without stack traces) ===== -/
section VXA
/-! The laws vx_back, vx_callV, vx_callS, vx_callSW, vx_throw0, vx_throwS follow proofs of the library, with one case more: JvmDerived/Free/Laws.lean (Back.of_free), Shelf42/LK1.lean (callV, callS), Shelf/KitTraced.lean (throwNew0V, throwNewS). -/
/-- where a method has thrown q: the class by its name, the cell, what was written, the world -/
def vx_T (XC : String → State → State → Prop) (st : State) (q : Addr) (t : State) (mc ms : Nat) (free : Addr → Prop) : Prop :=
  ∃ (E : String) (ce : Cell) (L : List Loc), XC E st t ∧ t.heap[q]? = some ce ∧ ce.vm = .none ∧ st.vm.findClass E = some ce.cls ∧ st.WarmedH t.vm ∧ st.sameButNew ({ t with vm := st.vm } : State) L mc ms ∧ ∀ z ∈ L, free z.base
def vx_Q (Qc : Array Value → State → Outcome → State → Prop) (XC : String → State → State → Prop) (mc ms : Nat) (free : Addr → Prop) : Array Value → State → Outcome → State → Prop := fun a st o t =>
  (Qc a st o t ∧ ∃ L, FrameEnd st o t L mc ms ∧ ∀ q ∈ L, free q.base) ∨ ∃ q, o = .threw q ∧ vx_T XC st q t mc ms free
/-- a callee that returns or throws -/
def vx_Met (l : Launch) (y : MethodName) (ws : List Cond) (rm : Room) (Pc : Array Value → State → Prop) (Qc : Array Value → State → Outcome → State → Prop) (XC : String → State → State → Prop) (mc ms : Nat) (free : Addr → Prop) : Prop :=
  MetFree l y (headSpec ws rm) Pc (fun _ _ _ _ _ => True) (vx_Q Qc XC mc ms free)
def vx_Post (XC : String → State → State → Prop) (mc ms : Nat) (free : Addr → Prop) : Pt → Array Value → Addr → Pt → Prop := fun A a q B =>
  ∃ (g : JFrame) (mk : MethodId) (t : State) (L : List Loc) (E : String) (ce : Cell), B.U.heap = t.heap ∧ B.U.vm = t.vm ∧ XC E (A.U.calling g mk a) t ∧ t.heap[q]? = some ce ∧ ce.vm = .none ∧ A.U.vm.findClass E = some ce.cls ∧ B.locs = A.locs ++ L ∧ (∀ z ∈ L, free z.base) ∧ B.cells = A.cells + mc ∧ B.slots = A.slots + ms
def vx_Back (l : Launch) (R : Room) (p : Program) (e : Env) (below : List Frame) (s : State) (sargs : Array Value) (y : MethodName) (len W9 : Nat)
    (Pre : Pt → Array Value → Prop) (Post : Pt → Array Value → Option Value → Pt → Prop) (PostX : Pt → Array Value → Addr → Pt → Prop) : Prop :=
  ∀ (m : MethodId) (meth : Method) (c : Code) (A : Pt) (g : JFrame) (ig : Instr) (mk : MethodId) (a : Array Value),
    Stand p l e R s m sargs below meth c A.U A.locs A.cells A.slots → g.method = m → g.locals.size = c.maxLocals → decode c.code g.pc = .ok (ig, len) →
    2 * g.monitorRoom + (g.stack.map fun v => v.category).sum ≤ W9 → A.U.methodNamed? y = some mk → Pre A a →
    (∃ (v : Option Value) (B : Pt), Stand p l e R s m sargs below meth c B.U B.locs B.cells B.slots ∧ Post A a v B ∧
      Steps p.tables e below (doInvoke e (A.U.setTop g) [] mk a).1 (B.U.setTop { g with pc := g.pc + len, stack := v.toList ++ g.stack })) ∨
    (∃ (q : Addr) (B : Pt), Stand p l e R s m sargs below meth c B.U B.locs B.cells B.slots ∧ PostX A a q B ∧
      Steps p.tables e below (doInvoke e (A.U.setTop g) [] mk a).1 ((B.U.setTop g).pushFrame (.throwing q)))
section Payer
variable {l : Launch} {R : Room} {p : Program} {e : Env} {below : List Frame} {s : State} {sargs : Array Value} {y : MethodName} {len W9 : Nat}
theorem vx_back {ws : List Cond} {rm : Room} {Pc : Array Value → State → Prop} {Qc : Array Value → State → Outcome → State → Prop} {XC : String → State → State → Prop} {mc ms : Nat} {free : Addr → Prop} {bytes : ByteArray} {maxL : Nat} {ret : Option FieldType}
    (hM : vx_Met l y ws rm Pc Qc XC mc ms free) (hblind : FrameBlind Pc) (hrc : rm.cells = mc) (hrs : rm.slots = ms)
    (hframes : rm.frames + 1 ≤ R.frames) (hlocals : W9 + (maxL + 11) + rm.locals ≤ R.locals)
    (hws : ∀ w ∈ ws, ∀ a' U, s.WarmedH U.vm → w.before a' U = true) (hcode : Cond.code y bytes maxL ret ∈ ws) (hinit : ∀ a' U, s.WarmedH U.vm → (Cond.initialized y.cls).before a' U = true) :
    vx_Back l R p e below s sargs y len W9 (PreOf R mc ms Pc) (PostOf Qc mc ms free) (vx_Post XC mc ms free) := by
  intro m meth c A g ig mk a X hg hsize hdg hW hn hp
  have h1 : (headSpec ws rm).pre.before a A.U = true := atoms_intro fun w hw => hws w hw _ _ X.warmed
  have h2 : (Cond.code y bytes maxL ret).before a A.U = true := hws _ hcode _ _ X.warmed
  have h3 : (Cond.initialized y.cls).before a A.U = true := hinit _ _ X.warmed
  have h4 : A.cells + (headSpec ws rm).room.cells ≤ R.cells := by rw [show (headSpec ws rm).room.cells = mc from hrc]; exact hp.1
  have h5 : A.slots + (headSpec ws rm).room.slots ≤ R.slots := by rw [show (headSpec ws rm).room.slots = ms from hrs]; exact hp.2.1
  have hPc : Pc a (A.U.calling g mk a) := hblind _ _ _ _ hp.2.2
  obtain ⟨U, Ls, c0, s0⟩ := A
  dsimp only [Pt.U, Pt.locs, Pt.cells, Pt.slots] at h1 h2 h3 h4 h5 X hn hPc ⊢
  obtain ⟨methY, cY, hmY, hcY, -, hlY, -, -, -, -⟩ := Cond.code_spec hn h2
  obtain ⟨kY, hkY, -⟩ := className_of_methodNamed hn
  have hinitY : kY.init = .initialized := Cond.initialized_spec (findClass_of_methodNamed hn) hkY h3
  have h : At U g.method c below := by rw [hg]; exact X.here
  have hlocals9 : W9 + (maxL + 11) + (headSpec ws rm).room.locals ≤ R.locals := hlocals
  have happ : (headSpec ws rm).appliesLoose y e.platform (U.calling g mk a) = true :=
    Spec.appliesLoose_calling (g := g) h hdg hn hkY hinitY
      (X.room_calling (g := g) (R' := (headSpec ws rm).room) hsize hmY hcY hframes (by rw [hlY]; omega) h4 h5) h1
  obtain ⟨mid, hmid⟩ := h.above
  have hfr : (U.setTop g).frames = (.java g :: mid) ++ below := by rw [State.frames_setTop' g h.top, hmid]; rfl
  obtain ⟨o, s₂, hsteps, -, hend, hq⟩ := Steps.callFree hM p X.admits X.cas X.clock (acts := []) hfr happ hPc trivial
  have hq' : vx_Q Qc XC mc ms free a (U.calling g mk a) o s₂ := hq
  rw [State.frames_setTop' g h.top] at hend
  obtain ⟨g₀, hg0⟩ := Option.isSome_iff_exists.mp h.top
  obtain ⟨r, hr⟩ := State.topJava?_eq_some.mp hg0
  have hr' : (({ U with heap := s₂.heap, slotsUsed := s₂.slotsUsed } : State).setVm s₂.vm).frames = .java g₀ :: r := hr
  rcases hq' with ⟨hqc, L, hfe, hL⟩ | ⟨q, rfl, E, ce, L, hx, hce, hcv, hcl, hW₂, hsm, hL⟩
  · obtain ⟨⟨v, rfl⟩, hW₂, e2, q2, q3, q4, q5, q6⟩ := id hfe
    have e3 : s₂ = ({ (U.calling g mk a).setFrames s₂.frames with heap := s₂.heap, slotsUsed := s₂.slotsUsed } : State).setVm s₂.vm := by
      have : s₂ = ({ s₂ with vm := (U.calling g mk a).vm } : State).setVm s₂.vm := rfl
      rw [e2] at this
      exact this
    obtain ⟨c₂, i₂, len₂, hc₂, hd₂, hf₂⟩ := hend
    have hW' : U.WarmedH s₂.vm := hW₂
    have hcc : c₂ = c := by
      have h1 : s₂.code? g.method = U.code? g.method := by
        rw [State.code?_eq, State.code?_eq, hW'.alike.method?]
      exact Option.some.inj (hc₂.symm.trans (h1.trans h.code))
    subst hcc
    have hlen : len₂ = len := by rw [hdg] at hd₂; cases hd₂; rfl
    subst hlen
    have hs₂ : s₂ = (({ U with heap := s₂.heap, slotsUsed := s₂.slotsUsed } : State).setVm s₂.vm).setTop { g with pc := g.pc + len₂, stack := v.toList ++ g.stack } := by
      refine e3.trans ?_
      rw [hf₂, State.calling_eq h.top, State.setFrames_setFrames, State.setTop_of_frames _ hr', hr]
      rfl
    have hsame : U.sameButNew ({ U with heap := s₂.heap, slotsUsed := s₂.slotsUsed } : State) L mc ms := by
      refine ⟨?_, q2, q3, q4, q5, q6⟩
      obtain ⟨t, ht, -⟩ := State.frames_cons hr
      show ({ U with heap := s₂.heap, slotsUsed := s₂.slotsUsed } : State) = { U.setFrames U.frames with heap := s₂.heap, slotsUsed := s₂.slotsUsed }
      rw [State.setFrames_self ht]
    subst hg
    refine Or.inl ⟨v, ⟨(({ U with heap := s₂.heap, slotsUsed := s₂.slotsUsed } : State).setVm s₂.vm), Ls ++ L, c0 + mc, s0 + ms⟩,
      ⟨X.admits, X.cas, X.clock, X.frames, X.room, X.hears, X.method, X.code, (X.here.setHeapUsed s₂.heap s₂.slotsUsed).setVm hW'.alike, X.tail, State.WarmedH.trans X.warmed hW', X.limits, X.bytes, X.same.trans (hsame.setVm s.vm)⟩,
      ⟨g, mk, s₂, L, rfl, rfl, hqc, rfl, hL, rfl, rfl⟩, ?_⟩
    show Steps p.tables e below _ ((({ U with heap := s₂.heap, slotsUsed := s₂.slotsUsed } : State).setVm s₂.vm).setTop { g with pc := g.pc + len₂, stack := v.toList ++ g.stack })
    rw [← hs₂]
    exact hsteps
  · obtain ⟨e2, q2, q3, q4, q5, q6⟩ := id hsm
    have e3 : s₂ = ({ (U.calling g mk a).setFrames s₂.frames with heap := s₂.heap, slotsUsed := s₂.slotsUsed } : State).setVm s₂.vm := by
      have : s₂ = ({ s₂ with vm := (U.calling g mk a).vm } : State).setVm s₂.vm := rfl
      rw [e2] at this
      exact this
    have hf₂ : s₂.frames = .throwing q :: .java g :: U.frames.tail := hend
    have hW' : U.WarmedH s₂.vm := hW₂
    have hs₂ : s₂ = ((({ U with heap := s₂.heap, slotsUsed := s₂.slotsUsed } : State).setVm s₂.vm).setTop g).pushFrame (.throwing q) := by
      refine e3.trans ?_
      rw [hf₂, State.calling_eq h.top, State.setFrames_setFrames, State.pushFrame, State.frames_setTop _ hr', State.setTop_of_frames _ hr', State.setFrames_setFrames, hr]
      rfl
    have hsame : U.sameButNew ({ U with heap := s₂.heap, slotsUsed := s₂.slotsUsed } : State) L mc ms := by
      refine ⟨?_, q2, q3, q4, q5, q6⟩
      obtain ⟨t, ht, -⟩ := State.frames_cons hr
      show ({ U with heap := s₂.heap, slotsUsed := s₂.slotsUsed } : State) = { U.setFrames U.frames with heap := s₂.heap, slotsUsed := s₂.slotsUsed }
      rw [State.setFrames_self ht]
    subst hg
    refine Or.inr ⟨q, ⟨(({ U with heap := s₂.heap, slotsUsed := s₂.slotsUsed } : State).setVm s₂.vm), Ls ++ L, c0 + mc, s0 + ms⟩,
      ⟨X.admits, X.cas, X.clock, X.frames, X.room, X.hears, X.method, X.code, (X.here.setHeapUsed s₂.heap s₂.slotsUsed).setVm hW'.alike, X.tail, State.WarmedH.trans X.warmed hW', X.limits, X.bytes, X.same.trans (hsame.setVm s.vm)⟩,
      ⟨g, mk, s₂, L, E, ce, rfl, rfl, hx, hce, hcv, hcl, rfl, hL, rfl, rfl⟩, ?_⟩
    show Steps p.tables e below _ (((({ U with heap := s₂.heap, slotsUsed := s₂.slotsUsed } : State).setVm s₂.vm).setTop g).pushFrame (.throwing q))
    rw [← hs₂]
    exact hsteps
end Payer
section Calls
variable {p : Program} {l : Launch} {e : Env} {R : Room} {s : State} {m : MethodId} {args : Array Value} {below : List Frame} {meth : Method} {c : Code} {T : State} {locs : List Loc} {cells slots : Nat}
theorem vx_callV (X : Stand p l e R s m args below meth c T locs cells slots) (hexec : p.tables.exec = Jvm.exec) {own C : String} {index : Nat} {y : MethodName} {bytes : ByteArray} {maxL : Nat} {ret : Option FieldType}
    (hown : s.vm.findClass own = some m.cls) (hlink : (Cond.methodLink own index y).before args s = true) (hinst : (Cond.instanceMethod y).before args s = true) (hsel : (Cond.selects C y y).before args s = true)
    (hcode : (Cond.code y bytes maxL ret).before args s = true) (hy : y.cls ≠ "java/lang/invoke/MethodHandle" ∧ y.cls ≠ "java/lang/invoke/VarHandle")
    {W9 : Nat} {Pre : Pt → Array Value → Prop} {Post : Pt → Array Value → Option Value → Pt → Prop} {PostX : Pt → Array Value → Addr → Pt → Prop} (hK : vx_Back l R p e below s args y 3 W9 Pre Post PostX)
    {b : Addr} {cellB : Cell} (hcell : T.heap[b]? = some cellB) (hobj : cellB.vm.isStatics = false) (hcls : s.vm.findClass C = some cellB.cls)
    {g : JFrame} (hg : g.method = m) (hsize : g.locals.size = c.maxLocals) {argsL rest : List Value} (hlen : ∀ sig, parseMethodDescriptor y.desc = some sig → argsL.length = sig.parameters.length)
    (hstack : g.stack = argsL.reverse ++ .ref b :: rest) (hW : 2 * g.monitorRoom + (rest.map fun v => v.category).sum ≤ W9) (hdg : decode c.code g.pc = .ok (.invokevirtual index, 3))
    (hpre : ∀ vm₁, s.WarmedH vm₁ → Pre ⟨T.setVm vm₁, locs, cells, slots⟩ (Value.ref b :: argsL).toArray) :
    (∃ (v : Option Value) (vm₁ : Vm) (B : Pt), s.WarmedH vm₁ ∧ Stand p l e R s m args below meth c B.U B.locs B.cells B.slots ∧ Post ⟨T.setVm vm₁, locs, cells, slots⟩ (Value.ref b :: argsL).toArray v B ∧
      ∀ target, Steps p.tables e below (B.U.setTop { g with pc := g.pc + 3, stack := v.toList ++ rest }) target → Steps p.tables e below (T.setTop g) target) ∨
    (∃ (q : Addr) (vm₁ : Vm) (B : Pt), s.WarmedH vm₁ ∧ Stand p l e R s m args below meth c B.U B.locs B.cells B.slots ∧ PostX ⟨T.setVm vm₁, locs, cells, slots⟩ (Value.ref b :: argsL).toArray q B ∧
      Steps p.tables e below (T.setTop g) ((B.U.setTop { g with stack := rest }).pushFrame (.throwing q))) := by
  obtain ⟨mk, methM, hnamed, hmethM, hstM, habM⟩ := Cond.instanceMethod_spec hinst
  obtain ⟨methM', cM, hmethM', -, -, -, -, -, -, hsigM⟩ := Cond.code_spec hnamed hcode
  cases hmethM.symm.trans hmethM'
  obtain ⟨c2, r2, m2, q1, q2, q3, q4, kP, hkP, hkPi⟩ := Cond.selects_spec hsel
  cases hcls.symm.trans q1
  cases (State.methodFound?_of_named hnamed hy).symm.trans q2
  cases hnamed.symm.trans q3
  have hselP : selectMethod e.platform s.vm cellB.cls mk = .method mk := by rw [Launch.admits_selectMethod X.admits]; exact q4
  obtain ⟨vm₁, X₁, hstep₁⟩ := X.invokevirtual hexec hown hlink hnamed hmethM hstM hkP hkPi hy (a := b) (cell := cellB) hcell
    (fun z h => by rw [h] at hobj; cases hobj) hselP hmethM habM hkP hkPi (g := g) hg (argsL := argsL) (rest := rest) (hlen _ hsigM) hstack hdg
  rcases hK m meth c ⟨T.setVm vm₁, locs, cells, slots⟩ { g with stack := rest } (.invokevirtual index) mk (Value.ref b :: argsL).toArray X₁ hg hsize hdg hW (X₁.named hnamed) (hpre vm₁ X₁.warmed) with ⟨v, B, X', hpost, hsteps⟩ | ⟨q, B, X', hpost, hsteps⟩
  · exact Or.inl ⟨v, vm₁, B, X₁.warmed, X', hpost, fun target h => hstep₁ _ fun acts => by rw [doInvoke_state]; exact hsteps.trans h⟩
  · exact Or.inr ⟨q, vm₁, B, X₁.warmed, X', hpost, hstep₁ _ fun acts => by rw [doInvoke_state]; exact hsteps⟩
theorem vx_callS (X : Stand p l e R s m args below meth c T locs cells slots) (hexec : p.tables.exec = Jvm.exec) {own : String} {index : Nat} {y : MethodName} {bytes : ByteArray} {maxL : Nat} {ret : Option FieldType}
    (hown : s.vm.findClass own = some m.cls) (hlink : (Cond.methodLink own index y).before args s = true) (hstat : (Cond.static y).before args s = true) (hinit : (Cond.initialized y.cls).before args s = true)
    (hcode : (Cond.code y bytes maxL ret).before args s = true) (hy : y.cls ≠ "java/lang/invoke/MethodHandle" ∧ y.cls ≠ "java/lang/invoke/VarHandle")
    {W9 : Nat} {Pre : Pt → Array Value → Prop} {Post : Pt → Array Value → Option Value → Pt → Prop} {PostX : Pt → Array Value → Addr → Pt → Prop} (hK : vx_Back l R p e below s args y 3 W9 Pre Post PostX)
    {g : JFrame} (hg : g.method = m) (hsize : g.locals.size = c.maxLocals) {argsL rest : List Value} (hlen : ∀ sig, parseMethodDescriptor y.desc = some sig → argsL.length = sig.parameters.length)
    (hstack : g.stack = argsL.reverse ++ rest) (hW : 2 * g.monitorRoom + (rest.map fun v => v.category).sum ≤ W9) (hdg : decode c.code g.pc = .ok (.invokestatic index, 3))
    (hpre : ∀ vm₁, s.WarmedH vm₁ → Pre ⟨T.setVm vm₁, locs, cells, slots⟩ argsL.toArray) :
    (∃ (v : Option Value) (vm₁ : Vm) (B : Pt), s.WarmedH vm₁ ∧ Stand p l e R s m args below meth c B.U B.locs B.cells B.slots ∧ Post ⟨T.setVm vm₁, locs, cells, slots⟩ argsL.toArray v B ∧
      ∀ target, Steps p.tables e below (B.U.setTop { g with pc := g.pc + 3, stack := v.toList ++ rest }) target → Steps p.tables e below (T.setTop g) target) ∨
    (∃ (q : Addr) (vm₁ : Vm) (B : Pt), s.WarmedH vm₁ ∧ Stand p l e R s m args below meth c B.U B.locs B.cells B.slots ∧ PostX ⟨T.setVm vm₁, locs, cells, slots⟩ argsL.toArray q B ∧
      Steps p.tables e below (T.setTop g) ((B.U.setTop { g with stack := rest }).pushFrame (.throwing q))) := by
  obtain ⟨mk, hnamed⟩ := Cond.code_named hcode
  obtain ⟨methM, cM, hmethM, -, -, -, -, -, -, hsigM⟩ := Cond.code_spec hnamed hcode
  have hstatic : methM.isStatic = true := Cond.static_spec hnamed hmethM hstat
  obtain ⟨kP, hkP, -⟩ := className_of_methodNamed hnamed
  have hinitP : kP.init = .initialized := Cond.initialized_spec (findClass_of_methodNamed hnamed) hkP hinit
  obtain ⟨vm₁, X₁, hstep₁⟩ := X.invokestatic hexec hown hlink hnamed hmethM hstatic hkP hinitP hy (g := g) hg (argsL := argsL) (rest := rest) (hlen _ hsigM) hstack hdg
  rcases hK m meth c ⟨T.setVm vm₁, locs, cells, slots⟩ { g with stack := rest } (.invokestatic index) mk argsL.toArray X₁ hg hsize hdg hW (X₁.named hnamed) (hpre vm₁ X₁.warmed) with ⟨v, B, X', hpost, hsteps⟩ | ⟨q, B, X', hpost, hsteps⟩
  · exact Or.inl ⟨v, vm₁, B, X₁.warmed, X', hpost, fun target h => hstep₁ _ fun acts => by rw [doInvoke_state]; exact hsteps.trans h⟩
  · exact Or.inr ⟨q, vm₁, B, X₁.warmed, X', hpost, hstep₁ _ fun acts => by rw [doInvoke_state]; exact hsteps⟩
end Calls
theorem vx_cls {s : State} {T : State} {vm₁ : Vm} {E : String} {k : ClassId} (hW : s.WarmedH vm₁) (h : (T.setVm vm₁).vm.findClass E = some k) : s.vm.findClass E = some k := by
  have h1 : vm₁.findClass E = some k := h
  rw [hW.alike.findClass] at h1
  exact h1
/-- the method's frame g, with q thrown over it -/
def vx_W (p : Program) (l : Launch) (e : Env) (R : Room) (s : State) (m : MethodId) (args : Array Value) (below : List Frame) (meth : Method) (c : Code) (H : Heap) (locs : List Loc) (cells slots : Nat) (Q : State → Prop) (g : JFrame) (q : Addr) : Prop :=
  ∀ T : State, T.heap = H → Stand p l e R s m args below meth c T locs cells slots → ∃ t, Steps p.tables e below ((T.setTop g).pushFrame (.throwing q)) t ∧ Q t
def vx_Run (p : Program) (l : Launch) (e : Env) (R : Room) (s : State) (m : MethodId) (args : Array Value) (below : List Frame) (meth : Method) (c : Code) (H : Heap) (locs : List Loc) (cells slots mc ms : Nat) (g : JFrame) (rest : List Value) (Qa : State → Outcome → State → Prop) (XC : String → State → State → Prop) (free : Addr → Prop) : Prop :=
  ∀ T : State, T.heap = H → Stand p l e R s m args below meth c T locs cells slots →
    (∃ (v : Option Value) (st₀ t T' : State) (L : List Loc), st₀.heap = H ∧ Stand p l e R s m args below meth c T' (locs ++ L) (cells + mc) (slots + ms) ∧ (∀ q ∈ L, free q.base) ∧ T'.heap = t.heap ∧ T'.vm = t.vm ∧ Qa st₀ (.returned v) t ∧
      Goes p e below T g T' { g with pc := g.pc + 3, stack := v.toList ++ rest }) ∨
    (∃ (q : Addr) (st₀ t T' : State) (L : List Loc) (E : String) (ce : Cell), st₀.heap = H ∧ Stand p l e R s m args below meth c T' (locs ++ L) (cells + mc) (slots + ms) ∧ (∀ z ∈ L, free z.base) ∧ T'.heap = t.heap ∧ T'.vm = t.vm ∧ XC E st₀ t ∧ t.heap[q]? = some ce ∧ ce.vm = .none ∧ s.vm.findClass E = some ce.cls ∧
      Steps p.tables e below (T.setTop g) ((T'.setTop { g with stack := rest }).pushFrame (.throwing q)))
def vx_X {S : Type} (px : S → Prop) (B : String → S → State → Prop) (A : Nat → Prop) : String → State → State → Prop := fun E st t => ∃ u : S, px u ∧ B E u t ∧ va_F A st t
section Runs
variable {p : Program} {l : Launch} {e : Env} {R : Room} {s : State} {m : MethodId} {args : Array Value} {below : List Frame} {meth : Method} {c : Code} {H : Heap} {locs : List Loc} {cells slots : Nat}
variable {y : MethodName} {bytes cc : ByteArray} {maxL nL mc ms n index : Nat} {ret : Option FieldType} {ws : List Cond} {rm : Room} {Pc : Array Value → State → Prop} {Qc : Array Value → State → Outcome → State → Prop} {XC : String → State → State → Prop} {free : Addr → Prop} {Ts : List Cond} {own C : String} {b : Addr} {As rest : List Value} {g : JFrame}
theorem vx_callBack (cb : CallB R s args own index y bytes maxL ret ws rm mc ms n) (hM : vx_Met l y ws rm Pc Qc XC mc ms free) (hbl : FrameBlind Pc) : vx_Back l R p e below s args y 3 8 (PreOf R mc ms Pc) (PostOf Qc mc ms free) (vx_Post XC mc ms free) := by
  obtain ⟨hrc, hrs, hfr, hlo, hws, hcw, -, hini, -⟩ := cb
  exact vx_back (bytes := bytes) (maxL := maxL) (ret := ret) hM hbl hrc hrs hfr hlo hws hcw (fun a' U hW => word_at hW (Or.inl (by first | rfl | simp [Cond.onTables, Cond.keeps, Cond.steady])) hini)
theorem vx_runV (S : CallFix p m c cc nL s args Ts own) (hM : vx_Met l y ws rm Pc Qc XC mc ms free) (cw : CallW R s args own C index y bytes maxL ret ws rm mc ms n) (hp : PreV s H C b Pc As)
    (hg : g.method = m) (hn : As.length = n) (hsize : g.locals.size = nL) (hstack : g.stack = As.reverse ++ .ref b :: rest) (hW : 2 * g.monitorRoom + (rest.map fun v => v.category).sum ≤ 8) (hdg : decode cc g.pc = .ok (.invokevirtual index, 3)) (hf : cells + mc ≤ R.cells ∧ slots + ms ≤ R.slots) :
    vx_Run p l e R s m args below meth c H locs cells slots mc ms g rest (Qc (Value.ref b :: As).toArray) XC free := by
  have hK : vx_Back l R p e below s args y 3 8 (PreOf R mc ms Pc) (PostOf Qc mc ms free) (vx_Post XC mc ms free) := vx_callBack cw.1 hM hp.1
  obtain ⟨⟨-, -, -, -, -, -, hcode, -, hy, hlen, hl⟩, hin, hse⟩ := cw
  obtain ⟨hx, hb, hml, ho, -⟩ := S
  obtain ⟨-, ⟨cellB, hcB, hoB, hclB⟩, hPc⟩ := hp
  intro T hT X
  rcases vx_callV X hx (C := C) (bytes := bytes) (maxL := maxL) (ret := ret) ho hl hin hse hcode hy hK (by rw [hT]; exact hcB) hoB hclB hg (hsize.trans hml.symm) (argsL := As) (rest := rest) (fun sig h => hn.trans (hlen sig h)) hstack hW (by rw [hb]; exact hdg)
    (fun vm₁ hW₁ => ⟨hf.1, hf.2, hPc (T.setVm vm₁) hT hW₁⟩) with ⟨v, vm₁, ⟨U', l2, c2, s2⟩, hW₁, X', ⟨g', mk, t, L, e1, e2, hq, h1, hL, h2, h3⟩, st⟩ | ⟨q, vm₁, ⟨U', l2, c2, s2⟩, hW₁, X', ⟨g', mk, t, L, E, ce, e1, e2, hq, hce, hcv, hcl, h1, hL, h2, h3⟩, st⟩
  · dsimp only [Pt.U, Pt.locs, Pt.cells, Pt.slots] at X' e1 e2 h1 h2 h3 st
    subst h1; subst h2; subst h3
    exact Or.inl ⟨v, (T.setVm vm₁).calling g' mk (Value.ref b :: As).toArray, t, U', L, hT, X', hL, e1, e2, hq, st⟩
  · dsimp only [Pt.U, Pt.locs, Pt.cells, Pt.slots] at X' e1 e2 h1 h2 h3 st hcl
    subst h1; subst h2; subst h3
    exact Or.inr ⟨q, (T.setVm vm₁).calling g' mk (Value.ref b :: As).toArray, t, U', L, E, ce, hT, X', hL, e1, e2, hq, hce, hcv, vx_cls hW₁ hcl, st⟩
theorem vx_runS (S : CallFix p m c cc nL s args Ts own) (hM : vx_Met l y ws rm Pc Qc XC mc ms free) (cw : CallB R s args own index y bytes maxL ret ws rm mc ms n ∧ (Cond.static y).before args s = true) (hp : PreS s H Pc As)
    (hg : g.method = m) (hn : As.length = n) (hsize : g.locals.size = nL) (hstack : g.stack = As.reverse ++ rest) (hW : 2 * g.monitorRoom + (rest.map fun v => v.category).sum ≤ 8) (hdg : decode cc g.pc = .ok (.invokestatic index, 3)) (hf : cells + mc ≤ R.cells ∧ slots + ms ≤ R.slots) :
    vx_Run p l e R s m args below meth c H locs cells slots mc ms g rest (Qc As.toArray) XC free := by
  have hK : vx_Back l R p e below s args y 3 8 (PreOf R mc ms Pc) (PostOf Qc mc ms free) (vx_Post XC mc ms free) := vx_callBack cw.1 hM hp.1
  obtain ⟨⟨-, -, -, -, -, -, hcode, hini, hy, hlen, hl⟩, hstt⟩ := cw
  obtain ⟨hx, hb, hml, ho, -⟩ := S
  intro T hT X
  rcases vx_callS X hx (bytes := bytes) (maxL := maxL) (ret := ret) ho hl hstt hini hcode hy hK hg (hsize.trans hml.symm) (argsL := As) (rest := rest) (fun sig h => hn.trans (hlen sig h)) hstack hW (by rw [hb]; exact hdg)
    (fun vm₁ hW₁ => ⟨hf.1, hf.2, hp.2 (T.setVm vm₁) hT hW₁⟩) with ⟨v, vm₁, ⟨U', l2, c2, s2⟩, hW₁, X', ⟨g', mk, t, L, e1, e2, hq, h1, hL, h2, h3⟩, st⟩ | ⟨q, vm₁, ⟨U', l2, c2, s2⟩, hW₁, X', ⟨g', mk, t, L, E, ce, e1, e2, hq, hce, hcv, hcl, h1, hL, h2, h3⟩, st⟩
  · dsimp only [Pt.U, Pt.locs, Pt.cells, Pt.slots] at X' e1 e2 h1 h2 h3 st
    subst h1; subst h2; subst h3
    exact Or.inl ⟨v, (T.setVm vm₁).calling g' mk As.toArray, t, U', L, hT, X', hL, e1, e2, hq, st⟩
  · dsimp only [Pt.U, Pt.locs, Pt.cells, Pt.slots] at X' e1 e2 h1 h2 h3 st hcl
    subst h1; subst h2; subst h3
    exact Or.inr ⟨q, (T.setVm vm₁).calling g' mk As.toArray, t, U', L, E, ce, hT, X', hL, e1, e2, hq, hce, hcv, vx_cls hW₁ hcl, st⟩
end Runs
section Rows
variable {p : Program} {l : Launch} {e : Env} {R : Room} {s : State} {m : MethodId} {args : Array Value} {below : List Frame} {meth : Method} {c : Code} {H : Heap} {locs : List Loc} {cells slots : Nat} {Q : State → Prop}
variable {mc ms : Nat} {free : Addr → Prop} {A0 A1 : Nat → Prop} {H0 : Heap} {a : Array Value} {pc : Nat} {ls : Array Slot} {st0 rest : List Value}
theorem vx_keep {st₀ t T' : State} {L : List Loc} (h0 : st₀.heap = H) (e1 : T'.heap = t.heap) (hS : va_S A0 H0 H locs) (hA : ∀ q, q < H.size → A1 q → A0 q) (hf : ∀ q, free q → A0 q) (hL : ∀ q ∈ L, free q.base) (hF : va_F A1 st₀ t) :
    H.size ≤ T'.heap.size ∧ (∀ q : Nat, q < H.size → ¬ A1 q → T'.heap[q]? = H[q]?) ∧ va_S A0 H0 T'.heap (locs ++ L) := by
  obtain ⟨hz, hk⟩ := hF
  rw [h0] at hz hk
  exact ⟨by rw [e1]; exact hz, fun q h1 h2 => by rw [e1]; exact hk q h1 h2,
    ⟨Nat.le_trans hS.1 (by rw [e1]; exact hz), fun q h1 h2 => by rw [e1, hk q (Nat.lt_of_lt_of_le h1 hS.1) (fun z => h2 (hA q (Nat.lt_of_lt_of_le h1 hS.1) z))]; exact hS.2.1 q h1 h2, fun q hq => by
      rcases List.mem_append.mp hq with h | h
      · exact hS.2.2 q h
      · exact hf _ (hL q h)⟩⟩
theorem vx_calli {S SX : Type} {post : Int32 → S → Prop} {px : SX → Prop} {B : S → State → Prop} {BX : String → SX → State → Prop} {AX : Nat → Prop} (hr : vx_Run p l e R s m args below meth c H locs cells slots mc ms (F0 m pc ls st0) rest (va_Qi post B A1 a) (vx_X px BX AX) free) (hS : va_S A0 H0 H locs) (hA : ∀ q, q < H.size → A1 q → A0 q) (hf : ∀ q, free q → A0 q) (hAX : ∀ q, q < H.size → AX q → A0 q)
    (kx : ∀ (E : String) (ce : Cell) (q9 : Addr) (u : SX) (t : State) (H1 : Heap) (locs1 : List Loc), t.heap = H1 → s.vm.Alike t.vm → px u → BX E u t → H.size ≤ H1.size → (∀ q : Nat, q < H.size → ¬ AX q → H1[q]? = H[q]?) → va_S A0 H0 H1 locs1 → H1[q9]? = some ce → ce.vm = .none → s.vm.findClass E = some ce.cls → vx_W p l e R s m args below meth c H1 locs1 (cells + mc) (slots + ms) Q (F0 m pc ls rest) q9)
    (kk : ∀ (r : Int32) (u : S) (t : State) (H1 : Heap) (locs1 : List Loc), t.heap = H1 → s.vm.Alike t.vm → post r u → B u t → H.size ≤ H1.size → (∀ q : Nat, q < H.size → ¬ A1 q → H1[q]? = H[q]?) → va_S A0 H0 H1 locs1 → W p l e R s m args below meth c H1 locs1 (cells + mc) (slots + ms) Q (F0 m (pc + 3) ls (.int r :: rest))) : W p l e R s m args below meth c H locs cells slots Q (F0 m pc ls st0) := by
  intro T hT X
  rcases hr T hT X with ⟨v, st₀, t, T', L, h0, X', hL, e1, e2, ⟨⟨r, u, hv, hp, hb⟩, hF⟩, st⟩ | ⟨q, st₀, t, T', L, E, ce, h0, X', hL, e1, e2, ⟨u, hp, hb, hF⟩, hce, hcv, hcl, st⟩
  · cases hv
    obtain ⟨k1, k2, k3⟩ := vx_keep h0 e1 hS hA hf hL hF
    obtain ⟨t2, a1, b1⟩ := kk r u t T'.heap (locs ++ L) e1.symm (by rw [← e2]; exact X'.warmed.alike) hp hb k1 k2 k3 T' rfl X'
    exact ⟨t2, st t2 a1, b1⟩
  · obtain ⟨k1, k2, k3⟩ := vx_keep h0 e1 hS hAX hf hL hF
    obtain ⟨t2, a1, b1⟩ := kx E ce q u t T'.heap (locs ++ L) e1.symm (by rw [← e2]; exact X'.warmed.alike) hp hb k1 k2 k3 (by rw [e1]; exact hce) hcv hcl T' rfl X'
    exact ⟨t2, st.trans a1, b1⟩
theorem vx_calll {S SX : Type} {post : Int64 → S → Prop} {px : SX → Prop} {B : S → State → Prop} {BX : String → SX → State → Prop} {AX : Nat → Prop} (hr : vx_Run p l e R s m args below meth c H locs cells slots mc ms (F0 m pc ls st0) rest (va_Ql post B A1 a) (vx_X px BX AX) free) (hS : va_S A0 H0 H locs) (hA : ∀ q, q < H.size → A1 q → A0 q) (hf : ∀ q, free q → A0 q) (hAX : ∀ q, q < H.size → AX q → A0 q)
    (kx : ∀ (E : String) (ce : Cell) (q9 : Addr) (u : SX) (t : State) (H1 : Heap) (locs1 : List Loc), t.heap = H1 → s.vm.Alike t.vm → px u → BX E u t → H.size ≤ H1.size → (∀ q : Nat, q < H.size → ¬ AX q → H1[q]? = H[q]?) → va_S A0 H0 H1 locs1 → H1[q9]? = some ce → ce.vm = .none → s.vm.findClass E = some ce.cls → vx_W p l e R s m args below meth c H1 locs1 (cells + mc) (slots + ms) Q (F0 m pc ls rest) q9)
    (kk : ∀ (r : Int64) (u : S) (t : State) (H1 : Heap) (locs1 : List Loc), t.heap = H1 → s.vm.Alike t.vm → post r u → B u t → H.size ≤ H1.size → (∀ q : Nat, q < H.size → ¬ A1 q → H1[q]? = H[q]?) → va_S A0 H0 H1 locs1 → W p l e R s m args below meth c H1 locs1 (cells + mc) (slots + ms) Q (F0 m (pc + 3) ls (.long r :: rest))) : W p l e R s m args below meth c H locs cells slots Q (F0 m pc ls st0) := by
  intro T hT X
  rcases hr T hT X with ⟨v, st₀, t, T', L, h0, X', hL, e1, e2, ⟨⟨r, u, hv, hp, hb⟩, hF⟩, st⟩ | ⟨q, st₀, t, T', L, E, ce, h0, X', hL, e1, e2, ⟨u, hp, hb, hF⟩, hce, hcv, hcl, st⟩
  · cases hv
    obtain ⟨k1, k2, k3⟩ := vx_keep h0 e1 hS hA hf hL hF
    obtain ⟨t2, a1, b1⟩ := kk r u t T'.heap (locs ++ L) e1.symm (by rw [← e2]; exact X'.warmed.alike) hp hb k1 k2 k3 T' rfl X'
    exact ⟨t2, st t2 a1, b1⟩
  · obtain ⟨k1, k2, k3⟩ := vx_keep h0 e1 hS hAX hf hL hF
    obtain ⟨t2, a1, b1⟩ := kx E ce q u t T'.heap (locs ++ L) e1.symm (by rw [← e2]; exact X'.warmed.alike) hp hb k1 k2 k3 (by rw [e1]; exact hce) hcv hcl T' rfl X'
    exact ⟨t2, st.trans a1, b1⟩
theorem vx_callf {S SX : Type} {post : UInt32 → S → Prop} {px : SX → Prop} {B : S → State → Prop} {BX : String → SX → State → Prop} {AX : Nat → Prop} (hr : vx_Run p l e R s m args below meth c H locs cells slots mc ms (F0 m pc ls st0) rest (va_Qf post B A1 a) (vx_X px BX AX) free) (hS : va_S A0 H0 H locs) (hA : ∀ q, q < H.size → A1 q → A0 q) (hf : ∀ q, free q → A0 q) (hAX : ∀ q, q < H.size → AX q → A0 q)
    (kx : ∀ (E : String) (ce : Cell) (q9 : Addr) (u : SX) (t : State) (H1 : Heap) (locs1 : List Loc), t.heap = H1 → s.vm.Alike t.vm → px u → BX E u t → H.size ≤ H1.size → (∀ q : Nat, q < H.size → ¬ AX q → H1[q]? = H[q]?) → va_S A0 H0 H1 locs1 → H1[q9]? = some ce → ce.vm = .none → s.vm.findClass E = some ce.cls → vx_W p l e R s m args below meth c H1 locs1 (cells + mc) (slots + ms) Q (F0 m pc ls rest) q9)
    (kk : ∀ (r : UInt32) (u : S) (t : State) (H1 : Heap) (locs1 : List Loc), t.heap = H1 → s.vm.Alike t.vm → post r u → B u t → H.size ≤ H1.size → (∀ q : Nat, q < H.size → ¬ A1 q → H1[q]? = H[q]?) → va_S A0 H0 H1 locs1 → W p l e R s m args below meth c H1 locs1 (cells + mc) (slots + ms) Q (F0 m (pc + 3) ls (.float r :: rest))) : W p l e R s m args below meth c H locs cells slots Q (F0 m pc ls st0) := by
  intro T hT X
  rcases hr T hT X with ⟨v, st₀, t, T', L, h0, X', hL, e1, e2, ⟨⟨r, u, hv, hp, hb⟩, hF⟩, st⟩ | ⟨q, st₀, t, T', L, E, ce, h0, X', hL, e1, e2, ⟨u, hp, hb, hF⟩, hce, hcv, hcl, st⟩
  · cases hv
    obtain ⟨k1, k2, k3⟩ := vx_keep h0 e1 hS hA hf hL hF
    obtain ⟨t2, a1, b1⟩ := kk r u t T'.heap (locs ++ L) e1.symm (by rw [← e2]; exact X'.warmed.alike) hp hb k1 k2 k3 T' rfl X'
    exact ⟨t2, st t2 a1, b1⟩
  · obtain ⟨k1, k2, k3⟩ := vx_keep h0 e1 hS hAX hf hL hF
    obtain ⟨t2, a1, b1⟩ := kx E ce q u t T'.heap (locs ++ L) e1.symm (by rw [← e2]; exact X'.warmed.alike) hp hb k1 k2 k3 (by rw [e1]; exact hce) hcv hcl T' rfl X'
    exact ⟨t2, st.trans a1, b1⟩
theorem vx_calld {S SX : Type} {post : UInt64 → S → Prop} {px : SX → Prop} {B : S → State → Prop} {BX : String → SX → State → Prop} {AX : Nat → Prop} (hr : vx_Run p l e R s m args below meth c H locs cells slots mc ms (F0 m pc ls st0) rest (va_Qd post B A1 a) (vx_X px BX AX) free) (hS : va_S A0 H0 H locs) (hA : ∀ q, q < H.size → A1 q → A0 q) (hf : ∀ q, free q → A0 q) (hAX : ∀ q, q < H.size → AX q → A0 q)
    (kx : ∀ (E : String) (ce : Cell) (q9 : Addr) (u : SX) (t : State) (H1 : Heap) (locs1 : List Loc), t.heap = H1 → s.vm.Alike t.vm → px u → BX E u t → H.size ≤ H1.size → (∀ q : Nat, q < H.size → ¬ AX q → H1[q]? = H[q]?) → va_S A0 H0 H1 locs1 → H1[q9]? = some ce → ce.vm = .none → s.vm.findClass E = some ce.cls → vx_W p l e R s m args below meth c H1 locs1 (cells + mc) (slots + ms) Q (F0 m pc ls rest) q9)
    (kk : ∀ (r : UInt64) (u : S) (t : State) (H1 : Heap) (locs1 : List Loc), t.heap = H1 → s.vm.Alike t.vm → post r u → B u t → H.size ≤ H1.size → (∀ q : Nat, q < H.size → ¬ A1 q → H1[q]? = H[q]?) → va_S A0 H0 H1 locs1 → W p l e R s m args below meth c H1 locs1 (cells + mc) (slots + ms) Q (F0 m (pc + 3) ls (.double r :: rest))) : W p l e R s m args below meth c H locs cells slots Q (F0 m pc ls st0) := by
  intro T hT X
  rcases hr T hT X with ⟨v, st₀, t, T', L, h0, X', hL, e1, e2, ⟨⟨r, u, hv, hp, hb⟩, hF⟩, st⟩ | ⟨q, st₀, t, T', L, E, ce, h0, X', hL, e1, e2, ⟨u, hp, hb, hF⟩, hce, hcv, hcl, st⟩
  · cases hv
    obtain ⟨k1, k2, k3⟩ := vx_keep h0 e1 hS hA hf hL hF
    obtain ⟨t2, a1, b1⟩ := kk r u t T'.heap (locs ++ L) e1.symm (by rw [← e2]; exact X'.warmed.alike) hp hb k1 k2 k3 T' rfl X'
    exact ⟨t2, st t2 a1, b1⟩
  · obtain ⟨k1, k2, k3⟩ := vx_keep h0 e1 hS hAX hf hL hF
    obtain ⟨t2, a1, b1⟩ := kx E ce q u t T'.heap (locs ++ L) e1.symm (by rw [← e2]; exact X'.warmed.alike) hp hb k1 k2 k3 (by rw [e1]; exact hce) hcv hcl T' rfl X'
    exact ⟨t2, st.trans a1, b1⟩
theorem vx_callv {S SX : Type} {post : S → Prop} {px : SX → Prop} {B : S → State → Prop} {BX : String → SX → State → Prop} {AX : Nat → Prop} (hr : vx_Run p l e R s m args below meth c H locs cells slots mc ms (F0 m pc ls st0) rest (va_Qv post B A1 a) (vx_X px BX AX) free) (hS : va_S A0 H0 H locs) (hA : ∀ q, q < H.size → A1 q → A0 q) (hf : ∀ q, free q → A0 q) (hAX : ∀ q, q < H.size → AX q → A0 q)
    (kx : ∀ (E : String) (ce : Cell) (q9 : Addr) (u : SX) (t : State) (H1 : Heap) (locs1 : List Loc), t.heap = H1 → s.vm.Alike t.vm → px u → BX E u t → H.size ≤ H1.size → (∀ q : Nat, q < H.size → ¬ AX q → H1[q]? = H[q]?) → va_S A0 H0 H1 locs1 → H1[q9]? = some ce → ce.vm = .none → s.vm.findClass E = some ce.cls → vx_W p l e R s m args below meth c H1 locs1 (cells + mc) (slots + ms) Q (F0 m pc ls rest) q9)
    (kk : ∀ (u : S) (t : State) (H1 : Heap) (locs1 : List Loc), t.heap = H1 → s.vm.Alike t.vm → post u → B u t → H.size ≤ H1.size → (∀ q : Nat, q < H.size → ¬ A1 q → H1[q]? = H[q]?) → va_S A0 H0 H1 locs1 → W p l e R s m args below meth c H1 locs1 (cells + mc) (slots + ms) Q (F0 m (pc + 3) ls (rest))) : W p l e R s m args below meth c H locs cells slots Q (F0 m pc ls st0) := by
  intro T hT X
  rcases hr T hT X with ⟨v, st₀, t, T', L, h0, X', hL, e1, e2, ⟨⟨u, hv, hp, hb⟩, hF⟩, st⟩ | ⟨q, st₀, t, T', L, E, ce, h0, X', hL, e1, e2, ⟨u, hp, hb, hF⟩, hce, hcv, hcl, st⟩
  · cases hv
    obtain ⟨k1, k2, k3⟩ := vx_keep h0 e1 hS hA hf hL hF
    obtain ⟨t2, a1, b1⟩ := kk u t T'.heap (locs ++ L) e1.symm (by rw [← e2]; exact X'.warmed.alike) hp hb k1 k2 k3 T' rfl X'
    exact ⟨t2, st t2 a1, b1⟩
  · obtain ⟨k1, k2, k3⟩ := vx_keep h0 e1 hS hAX hf hL hF
    obtain ⟨t2, a1, b1⟩ := kx E ce q u t T'.heap (locs ++ L) e1.symm (by rw [← e2]; exact X'.warmed.alike) hp hb k1 k2 k3 (by rw [e1]; exact hce) hcv hcl T' rfl X'
    exact ⟨t2, st.trans a1, b1⟩
/-- caught by the row x of this method's table; the rows ahead don't take it -/
theorem vx_catch {own name : String} {E : String} {ce : Cell} {q : Addr} (hown : s.vm.findClass own = some m.cls) (pre : List ExceptionTableEntry) (x : ExceptionTableEntry) (suf : List ExceptionTableEntry) (hsplit : c.exceptionTable.toList = pre ++ x :: suf)
    (hpass : ∀ z ∈ pre, covers z pc = false ∨ (z.catchType ≠ 0 ∧ ∃ nm : String, (Cond.classLink own z.catchType nm).before args s = true ∧ va_Nc E nm s)) (hx : covers x pc = true) (h0 : x.catchType ≠ 0)
    (hlink : (Cond.classLink own x.catchType name).before args s = true) (hcast : (Cond.castable E name).before args s = true) (hcell : H[q]? = some ce) (hv : ce.vm = .none) (hcl : s.vm.findClass E = some ce.cls)
    (kk : W p l e R s m args below meth c H locs cells slots Q (F0 m x.handlerPc ls [.ref q])) : vx_W p l e R s m args below meth c H locs cells slots Q (F0 m pc ls rest) q := by
  intro T hT X
  have hpl : e.platform.magicAccessors = ({} : Platform).magicAccessors := by rw [X.admits.platform]
  obtain ⟨c3, c4, hc3, hc4, hasg⟩ := Cond.castable_spec hcast
  cases Option.some.inj (hc3.symm.trans hcl)
  obtain ⟨c5, hc5, hcl5⟩ := Cond.classLink_spec hown hlink e.platform hpl
  cases Option.some.inj (hc4.symm.trans hc5)
  obtain ⟨vm', X', st⟩ := X.thenCaughtThrough q (g := F0 m pc ls rest) rfl (Steps.refl _) (by rw [hT]; exact hcell) (by rw [hv]; rfl) (by obtain ⟨k9, h9, -⟩ := Vm.findClass_spec hcl; exact ⟨k9, h9⟩) pre x suf hsplit
    (fun z hz => by
      rcases hpass z hz with h | ⟨hz0, nm, hl1, hn1⟩
      · exact Or.inl h
      · obtain ⟨c6, hc6, hcl6⟩ := Cond.classLink_spec hown hl1 e.platform hpl
        obtain ⟨a8, b8, h1, h2, h3⟩ := hn1
        cases Option.some.inj (h1.symm.trans hcl)
        cases Option.some.inj (h2.symm.trans hc6)
        exact Or.inr ⟨hz0, _, hcl6, h3⟩) hx (Or.inr ⟨h0, c4, hcl5, hasg⟩)
  obtain ⟨t, a1, b1⟩ := kk (T.setVm vm') hT X'
  exact ⟨t, st.trans a1, b1⟩
end Rows
section Ends
variable {p : Program} {l : Launch} {e : Env} {R : Room} {s : State} {m : MethodId} {args : Array Value} {below : List Frame} {meth : Method} {c : Code} {H : Heap} {locs : List Loc} {cells slots : Nat} {Q : State → Prop}
variable {mc ms : Nat} {free : Addr → Prop} {A0 A1 : Nat → Prop} {H0 : Heap} {a : Array Value} {ls : Array Slot} {st0 rest : List Value}
variable {Qc : Array Value → State → Outcome → State → Prop} {XC : String → State → State → Prop}
/-- what a body that may throw owes at its end -/
def vx_MQ (below : List Frame) (Qc : Array Value → State → Outcome → State → Prop) (XC : String → State → State → Prop) (a : Array Value) (s : State) (mc ms : Nat) (free : Addr → Prop) : State → Prop := fun t =>
  ∃ o, t.status = .running ∧ Ended t below o ∧ vx_Q Qc XC mc ms free a s o t
theorem vx_ret {g : JFrame} {mc ms : Nat} (k : W p l e R s m args below meth c H locs cells slots (MQ below Qc args s mc ms free) g) : W p l e R s m args below meth c H locs cells slots (vx_MQ below Qc XC args s mc ms free) g := by
  intro T hT X
  obtain ⟨t, a1, o, b1, b2, b3, b4⟩ := k T hT X
  exact ⟨t, a1, o, b1, b2, Or.inl ⟨b3, b4⟩⟩
/-- not caught here: it goes on to the caller -/
theorem vx_widen {g : JFrame} {q : Addr} {k n : Nat} (h1 : cells ≤ k) (h2 : slots ≤ n) (kk : vx_W p l e R s m args below meth c H locs k n Q g q) : vx_W p l e R s m args below meth c H locs cells slots Q g q := fun T hT X => kk T hT (stand_widen X h1 h2)
theorem vx_out {pc : Nat} {E : String} {ce : Cell} {q : Addr} {mc ms : Nat} (hout : ∀ x ∈ c.exceptionTable.toList, covers x pc = false) (hlocks : meth.locks = false) (hcell : H[q]? = some ce) (hv : ce.vm = .none) (hcl : s.vm.findClass E = some ce.cls)
    (hx : ∀ t : State, t.heap = H → s.vm.Alike t.vm → XC E s t) (hf : ∀ z ∈ locs, free z.base) (hc : cells ≤ mc) (hs : slots ≤ ms) :
    vx_W p l e R s m args below meth c H locs cells slots (vx_MQ below Qc XC args s mc ms free) (F0 m pc ls rest) q := by
  intro T hT X
  obtain ⟨st1, hrun, hend, hW, hsm⟩ := X.leaveThrown q (g := F0 m pc ls rest) rfl rfl rfl hout hlocks
  have hcell9 : (T.setFrames (.throwing q :: below)).heap[q]? = some ce := by
    show T.heap[q]? = some ce
    rw [hT]; exact hcell
  exact ⟨_, st1, .threw q, hrun, hend, Or.inr ⟨q, rfl, E, ce, locs, hx _ hT hW.alike, hcell9, hv, hcl, hW, hsm.mono hc hs, hf⟩⟩
theorem vx_frame {U : State} {k n : Nat} (h : s.sameButNew ({ U with vm := s.vm } : State) locs k n) : s.heap.size ≤ U.heap.size ∧ ∀ q : Nat, q < s.heap.size → (∀ z ∈ locs, z.base ≠ q) → U.heap[q]? = s.heap[q]? := by
  obtain ⟨-, h2, -, -, -, h6⟩ := h
  refine ⟨h2, fun q hq hz => ?_⟩
  obtain ⟨c9, e1, e2, e3, e4⟩ := h6 q _ (Array.getElem?_eq_getElem hq)
  have hs : c9.slots = (s.heap[q]).slots := Array.ext_getElem? fun i => e4 i fun hm => hz _ hm rfl
  have h9 : c9 = s.heap[q] := by
    rw [hs] at e2
    exact e2
  have e5 : U.heap[q]? = some c9 := e1
  rw [e5, h9, Array.getElem?_eq_getElem hq]
/-- the words of a throw but the four that speak of the heap -/
def vx_no (w : Cond) : Bool := decide (w ≠ .isRef (.static Bundle.tN "UNASSIGNED_STACK" Bundle.steD)) && decide (w ≠ .isRef (.static Bundle.tN "SUPPRESSED_SENTINEL" Bundle.listD)) && decide (w ≠ .laysStatic Bundle.tN "UNASSIGNED_STACK" Bundle.steD) && decide (w ≠ .laysStatic Bundle.tN "SUPPRESSED_SENTINEL" Bundle.listD)
def vx_at0 (own : String) (ic : Nat) (X : String) (names : List String) : List Cond := (Bundle.ownAtoms0 own ic X names).filter vx_no
def vx_atS (own : String) (ic : Nat) (X : String) (names : List String) : List Cond := (Bundle.ownAtoms own ic X names).filter vx_no
/-- a word that the tables alone decide, or a good one -/
def vx_ot (w : Cond) : Bool := w.onTables || goodWord w
theorem vx_ot_at {args a' : Array Value} {s U : State} {w : Cond} (hW : s.WarmedH U.vm) (hvm : s.vm = U.vm) (hg : vx_ot w = true) (h : w.before args s = true) : w.before a' U = true := by
  simp only [vx_ot, Bool.or_eq_true] at hg
  rcases hg with hg | hg
  · exact va_tabs hg hvm h
  · exact word_at hW (good_of_word hg) h
/-- a list's words: the good ones out of the method's own list, the others by premises of their own -/
theorem vx_hat {args : Array Value} {s : State} {L B : List Cond} (h1 : ∀ w ∈ L.filter goodWord, w.before args s = true) (h2 : ∀ w ∈ L.filter (fun w => !goodWord w), w ∈ B) (h3 : ∀ w ∈ B, w.before args s = true) : ∀ w ∈ L, w.before args s = true := by
  intro w hw
  by_cases g : goodWord w = true
  · exact h1 w (List.mem_filter.mpr ⟨hw, g⟩)
  · refine h3 w (h2 w (List.mem_filter.mpr ⟨hw, ?_⟩))
    show (!goodWord w) = true
    cases hgw : goodWord w
    · rfl
    · exact absurd hgw g
theorem vx_c {args : Array Value} {s : State} {w : Cond} {B : List Cond} (h : w.before args s = true) (t : ∀ w ∈ B, w.before args s = true) : ∀ w' ∈ w :: B, w'.before args s = true := fun w' h' => (List.mem_cons.mp h').elim (fun e => by rw [e]; exact h) (t w')
theorem vx_n {args : Array Value} {s : State} : ∀ w ∈ ([] : List Cond), w.before args s = true := fun _ h => nomatch h
theorem vx_own {args : Array Value} {s : State} {L : List Cond} (h1 : ∀ w ∈ L.filter vx_no, w.before args s = true)
    (hU : (Cond.isRef (.static Bundle.tN "UNASSIGNED_STACK" Bundle.steD)).before args s = true) (hN : (Cond.isRef (.static Bundle.tN "SUPPRESSED_SENTINEL" Bundle.listD)).before args s = true)
    (lU : (Cond.laysStatic Bundle.tN "UNASSIGNED_STACK" Bundle.steD).before args s = true) (lN : (Cond.laysStatic Bundle.tN "SUPPRESSED_SENTINEL" Bundle.listD).before args s = true) : ∀ w ∈ L, w.before args s = true := by
  intro w hw
  by_cases e1 : w = .isRef (.static Bundle.tN "UNASSIGNED_STACK" Bundle.steD)
  · rw [e1]; exact hU
  · by_cases e2 : w = .isRef (.static Bundle.tN "SUPPRESSED_SENTINEL" Bundle.listD)
    · rw [e2]; exact hN
    · by_cases e3 : w = .laysStatic Bundle.tN "UNASSIGNED_STACK" Bundle.steD
      · rw [e3]; exact lU
      · by_cases e4 : w = .laysStatic Bundle.tN "SUPPRESSED_SENTINEL" Bundle.listD
        · rw [e4]; exact lN
        · exact h1 w (List.mem_filter.mpr ⟨hw, by unfold vx_no; rw [decide_eq_true e1, decide_eq_true e2, decide_eq_true e3, decide_eq_true e4]; rfl⟩)
/-- where a static field lies, its class's statics cell in H -/
def vx_L (C n d : String) (A : Nat → Prop) (U : State) (H : Heap) : Prop := ∃ (c : ClassId) (k : Class) (i : Nat) (f : Field) (a : Nat) (cell : Cell), U.vm.findClass C = some c ∧ U.fieldFound? C n d = some (c, k, i, f) ∧ f.isStatic = true ∧ k.statics = some a ∧ H[a]? = some cell ∧ cell.vm.isStatics = true ∧ cell.cls = c ∧ f.slot < cell.slots.size ∧ k.staticTypes[f.slot]? = some f.type ∧ ¬ A a
theorem vx_L.moved {C n d : String} {A : Nat → Prop} {u U : State} {H : Heap} (hvm : u.vm.Alike U.vm) (h : vx_L C n d A u H) : vx_L C n d A U H := by
  obtain ⟨c, k, i, f, a, cell, h1, h2, h3, h4, h5, h6, h7, h8, h9, h10⟩ := h
  obtain ⟨k', hi', he⟩ := State.fieldFound?_setVm hvm h2
  exact ⟨c, k', i, f, a, cell, by rw [hvm.findClass]; exact h1, hi', h3, by rw [he]; exact h4, h5, h6, h7, h8, by rw [he]; exact h9, h10⟩
theorem vx_L.kept {C n d : String} {A : Nat → Prop} {U : State} {H H1 : Heap} (h : vx_L C n d A U H) (hq : ∀ a : Nat, a < H.size → ¬ A a → H1[a]? = H[a]?) : vx_L C n d A U H1 := by
  obtain ⟨c, k, i, f, a, cell, h1, h2, h3, h4, h5, h6, h7, h8, h9, h10⟩ := h
  exact ⟨c, k, i, f, a, cell, h1, h2, h3, h4, by rw [hq a (Array.getElem?_eq_some_iff.mp h5).1 h10]; exact h5, h6, h7, h8, h9, h10⟩
theorem vx_L.narrow {C n d : String} {A B : Nat → Prop} {U : State} {H : Heap} (h : vx_L C n d A U H) (hAB : ∀ q, B q → A q) : vx_L C n d B U H := by
  obtain ⟨c, k, i, f, a, cell, h1, h2, h3, h4, h5, h6, h7, h8, h9, h10⟩ := h
  exact ⟨c, k, i, f, a, cell, h1, h2, h3, h4, h5, h6, h7, h8, h9, fun z => h10 (hAB _ z)⟩
theorem vx_L.word {C n d : String} {A : Nat → Prop} {s : State} {args : Array Value} (h : vx_L C n d A s s.heap) : (Cond.laysStatic C n d).before args s = true := by
  obtain ⟨c, k, i, f, a, cell, h1, h2, h3, h4, h5, h6, h7, h8, h9, -⟩ := h
  show (Cond.laysStatic C n d).holds args s none s [] = true
  exact Cond.laysStatic_of h1 h2 h3 h4 h5 h6 h7 h8 h9
/-- .. and what it holds: null or some reference -/
def vx_Zq (C n d : String) (A : Nat → Prop) (U : State) (H : Heap) : Prop := va_Zq C n d A U H ∧ vx_L C n d A U H
theorem vx_Zq.moved {C n d : String} {A : Nat → Prop} {u U : State} {H : Heap} (hvm : u.vm.Alike U.vm) (h : vx_Zq C n d A u H) : vx_Zq C n d A U H := ⟨va_Zq.moved hvm h.1, vx_L.moved hvm h.2⟩
theorem vx_Zq.kept {C n d : String} {A : Nat → Prop} {U : State} {H H1 : Heap} (h : vx_Zq C n d A U H) (hq : ∀ a : Nat, a < H.size → ¬ A a → H1[a]? = H[a]?) : vx_Zq C n d A U H1 := ⟨va_Zq.kept h.1 hq, vx_L.kept h.2 hq⟩
theorem vx_Zq.narrow {C n d : String} {A B : Nat → Prop} {U : State} {H : Heap} (h : vx_Zq C n d A U H) (hAB : ∀ q, B q → A q) : vx_Zq C n d B U H := ⟨va_Zq.narrow h.1 hAB, vx_L.narrow h.2 hAB⟩
theorem vx_Zqof {args : Array Value} {s : State} {C n d : String} {A : Nat → Prop} (hl : (Cond.laysStatic C n d).before args s = true) (hini : (Cond.initialized C).before args s = true) (h : (Cond.isRef (.static C n d)).before args s = true) (hA : ∀ a : Nat, a < s.heap.size → ¬ A a) : vx_Zq C n d A s s.heap := by
  refine ⟨va_Zqof hl hini h hA, ?_⟩
  obtain ⟨c, k, i, f, a, cell, h1, h2, h3, h4, h5, h6, h7, h8, h9⟩ := Cond.laysStatic_spec hl
  exact ⟨c, k, i, f, a, cell, h1, h2, h3, h4, h5, h6, h7, h8, h9, hA a (Array.getElem?_eq_some_iff.mp h5).1⟩
theorem vx_isRef {C n d : String} {v : Value} {A : Nat → Prop} {s : State} {args : Array Value} (h : va_Z C n d v A s s.heap) (hv : v.isRef = true) : (Cond.isRef (.static C n d)).before args s = true := by
  obtain ⟨cf, kf, fi, f, a, cell, h1, h2, h3, h4, h5, h6, h7, -⟩ := h
  have he : (Term.static C n d).eval args s none [] s = some v := by
    simp [Term.eval, State.fieldNamed?, h1, h2, h4, h5, h6, h7]
  simp only [Cond.before, Cond.holds, Cond.value, he]
  cases v <;> simp_all [Value.isRef]
theorem vx_isRefq {C n d : String} {A : Nat → Prop} {s : State} {args : Array Value} (h : va_Zq C n d A s s.heap) : (Cond.isRef (.static C n d)).before args s = true := by
  rcases h with h | ⟨t, h⟩
  · exact vx_isRef h rfl
  · exact vx_isRef h rfl
/-- the same frame, seen from here: as if the method were called anew in this heap -/
theorem vx_rebase {T : State} (X : Stand p l e R s m args below meth c T locs cells slots) {R' : Room} (hf : R'.frames ≤ R.frames) (hl : R'.locals ≤ R.locals) (hc : cells + R'.cells ≤ R.cells) (hs : slots + R'.slots ≤ R.slots) :
    Stand p l e R' ((T.setVm s.vm).setFrames (.invoking m args :: below)) m args below meth c T [] 0 0 := by
  have htop : (T.setVm s.vm).topJava?.isSome := X.here.top
  have hF : ((T.setVm s.vm).setFrames (.invoking m args :: below)).frames = .invoking m args :: below := State.frames_setFrames _ (State.cur_lt_of_top htop)
  obtain ⟨g₀, hg0⟩ := Option.isSome_iff_exists.mp htop
  obtain ⟨r, hr⟩ := State.topJava?_eq_some.mp hg0
  have hl9 : e.platform.stackLimits (T.setVm s.vm).me = e.platform.stackLimits s.me := X.limits
  have hb9 : (T.setVm s.vm).me.stackBytes = s.me.stackBytes := X.bytes
  refine ⟨X.admits, X.cas, X.clock, hF, ?_, X.hears, X.method, X.code, X.here, X.tail, X.warmed, ?_, ?_, ?_⟩
  · have h := X.room
    have hU : ((T.setVm s.vm).setFrames (.invoking m args :: below)).localsInUse = s.localsInUse := by
      rw [State.localsInUse_invoking hF (meth := meth) (c := c) X.method X.code, State.localsInUse_invoking X.frames X.method X.code]
    simp only [State.hasRoom, Bool.and_eq_true, decide_eq_true_eq] at h ⊢
    obtain ⟨⟨⟨⟨h1, h2, h3, h4, h5, h6⟩, h7⟩, h8⟩, h9⟩ := h
    rw [X.frames, List.length_cons] at h2 h3
    have q1 := X.heapSize
    have q2 := X.used
    simp only [hF, hU, List.length_cons, State.stackLimits_setFrames, State.stackBytes_setFrames, hl9, hb9]
    refine ⟨⟨⟨⟨by omega, by omega, by omega, by omega, by omega, h6⟩, ?_⟩, ?_⟩, X.book⟩
    · show T.heap.size + R'.cells ≤ e.platform.maxCells
      omega
    · show T.slotsUsed + R'.slots ≤ e.platform.maxSlots
      omega
  · rw [State.stackLimits_setFrames]; rfl
  · rw [State.stackBytes_setFrames]; rfl
  · refine ⟨?_, Nat.le_refl _, Nat.le_refl _, ?_, ?_, fun a c9 h9 => ⟨c9, h9, rfl, rfl, fun _ _ => rfl⟩⟩
    · obtain ⟨t, ht, -⟩ := State.frames_cons hr
      show T.setVm s.vm = { ((T.setVm s.vm).setFrames (.invoking m args :: below)).setFrames (T.setVm s.vm).frames with heap := T.heap, slotsUsed := T.slotsUsed }
      rw [State.setFrames_setFrames, State.setFrames_self ht]
      rfl
    · show T.slotsUsed = T.slotsUsed + ((T.heap.toList.drop T.heap.size).map (·.slots.size)).sum
      rw [List.drop_eq_nil_of_le (Nat.le_of_eq Array.length_toList)]
      rfl
    · show ((T.heap.toList.drop T.heap.size).map (·.slots.size)).sum ≤ 0
      rw [List.drop_eq_nil_of_le (Nat.le_of_eq Array.length_toList)]
      exact Nat.le_refl _
/-- 'throw new E()': new; dup; invokespecial; athrow -/
theorem vx_throw0 {cc : ByteArray} {pc : Nat} (hexec : p.tables.exec = Jvm.exec) (hb : c.code = cc) (hl : l.stackTraces = false) {own cls : String} {names : List String} {ik ic mc ms : Nat} {A : Nat → Prop}
    (hown : s.vm.findClass own = some m.cls) (hcls : Bundle.fit cls = true) (hnames : ∀ n ∈ names, Bundle.fit n = true)
    (hk : (Cond.classLink own ik cls).before args s = true) (hini : (Cond.initialized cls).before args s = true) (hat : ∀ w ∈ vx_at0 own ic cls names, w.before args s = true)
    (hgood : ∀ w ∈ Cond.classLink own ik cls :: Cond.initialized cls :: vx_at0 own ic cls names, vx_ot w = true)
    (hU : vx_Zq Bundle.tN "UNASSIGNED_STACK" Bundle.steD A s s.heap) (hN : vx_Zq Bundle.tN "SUPPRESSED_SENTINEL" Bundle.listD A s s.heap) (hS : va_S A s.heap H locs) (hsize : ls.size = c.maxLocals)
    (d0 : decode cc pc = .ok (.new ik, 3)) (d3 : decode cc (pc + 3) = .ok (.dup, 1)) (d4 : decode cc (pc + 4) = .ok (.invokespecial ic, 3)) (d7 : decode cc (pc + 7) = .ok (.athrow, 1))
    (hout : ∀ x ∈ c.exceptionTable.toList, covers x (pc + 7) = false)
    (hRframes : names.length + 3 < R.frames) (hRlocals : (rest.map fun v => v.category).sum + (13 * (names.length + 1) + 42) ≤ R.locals) (hRcells : cells + 1 ≤ R.cells) (hRslots : slots + 6 ≤ R.slots) (hlocks : meth.locks = false)
    (hx : ∀ t : State, s.vm.Alike t.vm → H.size ≤ t.heap.size → (∀ q : Nat, q < H.size → t.heap[q]? = H[q]?) → XC cls s t)
    (hf : ∀ z ∈ locs, free z.base) (hc : cells + 1 ≤ mc) (hs : slots + 6 ≤ ms) :
    W p l e R s m args below meth c H locs cells slots (vx_MQ below Qc XC args s mc ms free) (F0 m pc ls rest) := by
  intro T hT X
  have htr : e.platform.stackTraces = false := (show e.platform.stackTraces = l.stackTraces by rw [X.admits.platform]).trans hl
  have Y := vx_rebase X (R' := { frames := R.frames, locals := R.locals, cells := 1, slots := 6 }) (Nat.le_refl _) (Nat.le_refl _) hRcells hRslots
  obtain ⟨s', hA⟩ : ∃ z, z = (T.setVm s.vm).setFrames (.invoking m args :: below) := ⟨_, rfl⟩
  rw [← hA] at Y
  have hvm : s'.vm = s.vm := by rw [hA]; rfl
  have hhp : s'.heap = H := by rw [hA]; exact hT
  have hW0 : s.WarmedH s'.vm := by rw [hvm]; exact State.WarmedH.refl s
  have hat' : ∀ w ∈ vx_at0 own ic cls names, w.before args s' = true := fun w hw => vx_ot_at hW0 hvm.symm (hgood w (List.mem_cons_of_mem _ (List.mem_cons_of_mem _ hw))) (hat w hw)
  have hk' : (Cond.classLink own ik cls).before args s' = true := vx_ot_at hW0 hvm.symm (hgood _ List.mem_cons_self) hk
  have hini' : (Cond.initialized cls).before args s' = true := vx_ot_at hW0 hvm.symm (hgood _ (List.mem_cons_of_mem _ List.mem_cons_self)) hini
  have hU' : vx_Zq Bundle.tN "UNASSIGNED_STACK" Bundle.steD A s' s'.heap := by rw [hhp]; exact vx_Zq.moved hW0.alike (hU.kept hS.2.1)
  have hN' : vx_Zq Bundle.tN "SUPPRESSED_SENTINEL" Bundle.listD A s' s'.heap := by rw [hhp]; exact vx_Zq.moved hW0.alike (hN.kept hS.2.1)
  have h : ∀ w ∈ Bundle.ownAtoms0 own ic cls names, w.before args s' = true := vx_own hat' (vx_isRefq hU'.1) (vx_isRefq hN'.1) hU'.2.word hN'.2.word
  have hown' : s'.vm.findClass own = some m.cls := by rw [hvm]; exact hown
  have hins : (Cond.instantiable cls 6).before args s' = true := h _ (by simp [Bundle.ownAtoms0])
  obtain ⟨vm₁, cX, kX, hfX, hkX, -, -, X₁, st1⟩ := Y.newCold hexec (own := own) (C := cls) (index := ik) (n := 6) hown' hk' hins hini'
    (g := F0 m pc ls rest) rfl (by rw [hb]; exact d0) (Nat.le_refl _) (Nat.le_refl _)
  generalize hT1 : (T.setVm vm₁).pushCell { cls := cX, slots := kX.instanceTypes.map defaultValue, vm := .none } = T1 at X₁ st1
  have hcat : (Value.ref T.heap.size).category = 1 := rfl
  have hcellA : T1.heap[T.heap.size]? = some (freshCell cX kX) := by rw [← hT1]; exact State.heap_pushCell_size _ _
  have d3' : decode c.code (pc + 3) = .ok (.dup, 1) := by rw [hb]; exact d3
  obtain ⟨U, hsteps, hrun, hend, hW, hsame, ce, hce, hO⟩ := X₁.ctorThrow0 hexec htr (own := own) (cls := cls) (names := names) (ic := ic) hown' hcls hnames h (fun x hx => nomatch hx) hfX hkX hcellA (by rw [hhp, hT]; exact Nat.le_refl _)
    (g := { method := m, pc := pc + 4, locals := ls, stack := .ref T.heap.size :: .ref T.heap.size :: rest, locked := none }) rfl hsize rfl rfl (rest := rest) rfl
    (by rw [hb]; exact d4) (by rw [hb]; exact d7) hout hRframes (by simp only [List.map_cons, List.sum_cons, hcat]; omega) hlocks
  obtain ⟨f1, f2⟩ := vx_frame hsame
  rw [hhp] at f1 f2
  have hWs : s.WarmedH U.vm := State.WarmedH.trans hW0 hW
  have hcl : s.vm.findClass cls = some ce.cls := by
    have h9 := hO.cls
    rw [hvm] at h9
    exact h9
  have hall : s.sameButNew ({ U with vm := s.vm } : State) locs mc ms := by
    subst hA
    obtain ⟨e1, e2⟩ := hsame
    rw [State.setFrames_setFrames] at e1
    have h2 : (T.setVm s.vm).sameButNew ({ U with vm := s.vm } : State) [] (0 + 1) (0 + 6) := ⟨e1, e2⟩
    have h3 := X.same.trans h2
    rw [List.append_nil] at h3
    exact h3.mono hc hs
  refine ⟨U, ?_, .threw T.heap.size, hrun, hend, Or.inr ⟨T.heap.size, rfl, cls, ce, locs, hx U hWs.alike f1 (fun q hq => f2 q hq (fun z hz => nomatch hz)), hce, hO.vm, hcl, hWs, hall, hf⟩⟩
  refine st1 _ ?_
  show Steps p.tables e below (T1.setTop { method := m, pc := pc + 3, locals := ls, stack := .ref T.heap.size :: rest, locked := none }) _
  jvm_step X₁.here [X₁.here.top, hexec, d3', Value.category]
  exact hsteps
/-- 'throw new E("text")': new; dup; ldc; invokespecial; athrow -/
theorem vx_throwS {cc : ByteArray} {pc : Nat} (hexec : p.tables.exec = Jvm.exec) (hb : c.code = cc) (hl : l.stackTraces = false) {own cls text : String} {names : List String} {ik is ic mc ms sa : Nat} {A : Nat → Prop}
    (hown : s.vm.findClass own = some m.cls) (hcls : Bundle.fit cls = true) (hnames : ∀ n ∈ names, Bundle.fit n = true)
    (hk : (Cond.classLink own ik cls).before args s = true) (hini : (Cond.initialized cls).before args s = true) (hstr : vk_R own is text sa s) (hat : ∀ w ∈ vx_atS own ic cls names, w.before args s = true)
    (hgood : ∀ w ∈ Cond.classLink own ik cls :: Cond.initialized cls :: vx_atS own ic cls names, vx_ot w = true)
    (hU : vx_Zq Bundle.tN "UNASSIGNED_STACK" Bundle.steD A s s.heap) (hN : vx_Zq Bundle.tN "SUPPRESSED_SENTINEL" Bundle.listD A s s.heap) (hS : va_S A s.heap H locs) (hsize : ls.size = c.maxLocals)
    (d0 : decode cc pc = .ok (.new ik, 3)) (d3 : decode cc (pc + 3) = .ok (.dup, 1)) (d4 : decode cc (pc + 4) = .ok (.ldc is, 2)) (d6 : decode cc (pc + 6) = .ok (.invokespecial ic, 3)) (d9 : decode cc (pc + 9) = .ok (.athrow, 1))
    (hout : ∀ x ∈ c.exceptionTable.toList, covers x (pc + 9) = false)
    (hRframes : names.length + 3 < R.frames) (hRlocals : (rest.map fun v => v.category).sum + (13 * (names.length + 1) + 43) ≤ R.locals) (hRcells : cells + 1 ≤ R.cells) (hRslots : slots + 6 ≤ R.slots) (hlocks : meth.locks = false)
    (hx : ∀ t : State, s.vm.Alike t.vm → H.size ≤ t.heap.size → (∀ q : Nat, q < H.size → t.heap[q]? = H[q]?) → XC cls s t)
    (hf : ∀ z ∈ locs, free z.base) (hc : cells + 1 ≤ mc) (hs : slots + 6 ≤ ms) :
    W p l e R s m args below meth c H locs cells slots (vx_MQ below Qc XC args s mc ms free) (F0 m pc ls rest) := by
  intro T hT X
  have htr : e.platform.stackTraces = false := (show e.platform.stackTraces = l.stackTraces by rw [X.admits.platform]).trans hl
  have Y := vx_rebase X (R' := { frames := R.frames, locals := R.locals, cells := 1, slots := 6 }) (Nat.le_refl _) (Nat.le_refl _) hRcells hRslots
  obtain ⟨s', hA⟩ : ∃ z, z = (T.setVm s.vm).setFrames (.invoking m args :: below) := ⟨_, rfl⟩
  rw [← hA] at Y
  have hvm : s'.vm = s.vm := by rw [hA]; rfl
  have hhp : s'.heap = H := by rw [hA]; exact hT
  have hW0 : s.WarmedH s'.vm := by rw [hvm]; exact State.WarmedH.refl s
  have hat' : ∀ w ∈ vx_atS own ic cls names, w.before args s' = true := fun w hw => vx_ot_at hW0 hvm.symm (hgood w (List.mem_cons_of_mem _ (List.mem_cons_of_mem _ hw))) (hat w hw)
  have hk' : (Cond.classLink own ik cls).before args s' = true := vx_ot_at hW0 hvm.symm (hgood _ List.mem_cons_self) hk
  have hini' : (Cond.initialized cls).before args s' = true := vx_ot_at hW0 hvm.symm (hgood _ (List.mem_cons_of_mem _ List.mem_cons_self)) hini
  have hU' : vx_Zq Bundle.tN "UNASSIGNED_STACK" Bundle.steD A s' s'.heap := by rw [hhp]; exact vx_Zq.moved hW0.alike (hU.kept hS.2.1)
  have hN' : vx_Zq Bundle.tN "SUPPRESSED_SENTINEL" Bundle.listD A s' s'.heap := by rw [hhp]; exact vx_Zq.moved hW0.alike (hN.kept hS.2.1)
  have h : ∀ w ∈ Bundle.ownAtoms own ic cls names, w.before args s' = true := vx_own hat' (vx_isRefq hU'.1) (vx_isRefq hN'.1) hU'.2.word hN'.2.word
  have hown' : s'.vm.findClass own = some m.cls := by rw [hvm]; exact hown
  have hins : (Cond.instantiable cls 6).before args s' = true := h _ (by simp [Bundle.ownAtoms])
  obtain ⟨vm₁, cX, kX, hfX, hkX, -, -, X₁, st1⟩ := Y.newCold hexec (own := own) (C := cls) (index := ik) (n := 6) hown' hk' hins hini'
    (g := F0 m pc ls rest) rfl (by rw [hb]; exact d0) (Nat.le_refl _) (Nat.le_refl _)
  generalize hT1 : (T.setVm vm₁).pushCell { cls := cX, slots := kX.instanceTypes.map defaultValue, vm := .none } = T1 at X₁ st1
  have hcat : (Value.ref T.heap.size).category = 1 := rfl
  have hcellA : T1.heap[T.heap.size]? = some (freshCell cX kX) := by rw [← hT1]; exact State.heap_pushCell_size _ _
  have d3' : decode c.code (pc + 3) = .ok (.dup, 1) := by rw [hb]; exact d3
  have d4' : decode c.code (pc + 4) = .ok (.ldc is, 2) := by rw [hb]; exact d4
  have hstr' : vk_R own is text sa s' := vk_R.warm hW0 hstr
  obtain ⟨U, hsteps, hrun, hend, hW, hsame, ce, hce, hO⟩ := X₁.ctorThrowS hexec htr (own := own) (cls := cls) (names := names) (ic := ic) hown' hcls hnames h (fun x hx => nomatch hx) hfX hkX hcellA (by rw [hhp, hT]; exact Nat.le_refl _) (msg := .ref sa) rfl
    (g := { method := m, pc := pc + 6, locals := ls, stack := .ref sa :: .ref T.heap.size :: .ref T.heap.size :: rest, locked := none }) rfl hsize rfl rfl (rest := rest) rfl
    (by rw [hb]; exact d6) (by rw [hb]; exact d9) hout hRframes (by simp only [List.map_cons, List.sum_cons, hcat]; omega) hlocks
  obtain ⟨f1, f2⟩ := vx_frame hsame
  rw [hhp] at f1 f2
  have hWs : s.WarmedH U.vm := State.WarmedH.trans hW0 hW
  have hcl : s.vm.findClass cls = some ce.cls := by
    have h9 := hO.cls
    rw [hvm] at h9
    exact h9
  have hall : s.sameButNew ({ U with vm := s.vm } : State) locs mc ms := by
    subst hA
    obtain ⟨e1, e2⟩ := hsame
    rw [State.setFrames_setFrames] at e1
    have h2 : (T.setVm s.vm).sameButNew ({ U with vm := s.vm } : State) [] (0 + 1) (0 + 6) := ⟨e1, e2⟩
    have h3 := X.same.trans h2
    rw [List.append_nil] at h3
    exact h3.mono hc hs
  refine ⟨U, ?_, .threw T.heap.size, hrun, hend, Or.inr ⟨T.heap.size, rfl, cls, ce, locs, hx U hWs.alike f1 (fun q hq => f2 q hq (fun z hz => nomatch hz)), hce, hO.vm, hcl, hWs, hall, hf⟩⟩
  refine st1 _ ?_
  show Steps p.tables e below (T1.setTop { method := m, pc := pc + 3, locals := ls, stack := .ref T.heap.size :: rest, locked := none }) _
  jvm_step X₁.here [X₁.here.top, hexec, d3', Value.category]
  exact X₁.ldcString hexec (own := own) (text := text) (index := is) (a := sa) hown' hstr'.1 hstr'.2
    (g := { method := m, pc := pc + 4, locals := ls, stack := .ref T.heap.size :: .ref T.heap.size :: rest, locked := none }) rfl d4' _ hsteps
/-- 'throw new E("text")', the text by a wide index -/
theorem vx_throwSW {cc : ByteArray} {pc : Nat} (hexec : p.tables.exec = Jvm.exec) (hb : c.code = cc) (hl : l.stackTraces = false) {own cls text : String} {names : List String} {ik is ic mc ms sa : Nat} {A : Nat → Prop}
    (hown : s.vm.findClass own = some m.cls) (hcls : Bundle.fit cls = true) (hnames : ∀ n ∈ names, Bundle.fit n = true)
    (hk : (Cond.classLink own ik cls).before args s = true) (hini : (Cond.initialized cls).before args s = true) (hstr : vk_R own is text sa s) (hat : ∀ w ∈ vx_atS own ic cls names, w.before args s = true)
    (hgood : ∀ w ∈ Cond.classLink own ik cls :: Cond.initialized cls :: vx_atS own ic cls names, vx_ot w = true)
    (hU : vx_Zq Bundle.tN "UNASSIGNED_STACK" Bundle.steD A s s.heap) (hN : vx_Zq Bundle.tN "SUPPRESSED_SENTINEL" Bundle.listD A s s.heap) (hS : va_S A s.heap H locs) (hsize : ls.size = c.maxLocals)
    (d0 : decode cc pc = .ok (.new ik, 3)) (d3 : decode cc (pc + 3) = .ok (.dup, 1)) (d4 : decode cc (pc + 4) = .ok (.ldc_w is, 3)) (d7 : decode cc (pc + 7) = .ok (.invokespecial ic, 3)) (d10 : decode cc (pc + 10) = .ok (.athrow, 1))
    (hout : ∀ x ∈ c.exceptionTable.toList, covers x (pc + 10) = false)
    (hRframes : names.length + 3 < R.frames) (hRlocals : (rest.map fun v => v.category).sum + (13 * (names.length + 1) + 43) ≤ R.locals) (hRcells : cells + 1 ≤ R.cells) (hRslots : slots + 6 ≤ R.slots) (hlocks : meth.locks = false)
    (hx : ∀ t : State, s.vm.Alike t.vm → H.size ≤ t.heap.size → (∀ q : Nat, q < H.size → t.heap[q]? = H[q]?) → XC cls s t)
    (hf : ∀ z ∈ locs, free z.base) (hc : cells + 1 ≤ mc) (hs : slots + 6 ≤ ms) :
    W p l e R s m args below meth c H locs cells slots (vx_MQ below Qc XC args s mc ms free) (F0 m pc ls rest) := by
  intro T hT X
  have htr : e.platform.stackTraces = false := (show e.platform.stackTraces = l.stackTraces by rw [X.admits.platform]).trans hl
  have Y := vx_rebase X (R' := { frames := R.frames, locals := R.locals, cells := 1, slots := 6 }) (Nat.le_refl _) (Nat.le_refl _) hRcells hRslots
  obtain ⟨s', hA⟩ : ∃ z, z = (T.setVm s.vm).setFrames (.invoking m args :: below) := ⟨_, rfl⟩
  rw [← hA] at Y
  have hvm : s'.vm = s.vm := by rw [hA]; rfl
  have hhp : s'.heap = H := by rw [hA]; exact hT
  have hW0 : s.WarmedH s'.vm := by rw [hvm]; exact State.WarmedH.refl s
  have hat' : ∀ w ∈ vx_atS own ic cls names, w.before args s' = true := fun w hw => vx_ot_at hW0 hvm.symm (hgood w (List.mem_cons_of_mem _ (List.mem_cons_of_mem _ hw))) (hat w hw)
  have hk' : (Cond.classLink own ik cls).before args s' = true := vx_ot_at hW0 hvm.symm (hgood _ List.mem_cons_self) hk
  have hini' : (Cond.initialized cls).before args s' = true := vx_ot_at hW0 hvm.symm (hgood _ (List.mem_cons_of_mem _ List.mem_cons_self)) hini
  have hU' : vx_Zq Bundle.tN "UNASSIGNED_STACK" Bundle.steD A s' s'.heap := by rw [hhp]; exact vx_Zq.moved hW0.alike (hU.kept hS.2.1)
  have hN' : vx_Zq Bundle.tN "SUPPRESSED_SENTINEL" Bundle.listD A s' s'.heap := by rw [hhp]; exact vx_Zq.moved hW0.alike (hN.kept hS.2.1)
  have h : ∀ w ∈ Bundle.ownAtoms own ic cls names, w.before args s' = true := vx_own hat' (vx_isRefq hU'.1) (vx_isRefq hN'.1) hU'.2.word hN'.2.word
  have hown' : s'.vm.findClass own = some m.cls := by rw [hvm]; exact hown
  have hins : (Cond.instantiable cls 6).before args s' = true := h _ (by simp [Bundle.ownAtoms])
  obtain ⟨vm₁, cX, kX, hfX, hkX, -, -, X₁, st1⟩ := Y.newCold hexec (own := own) (C := cls) (index := ik) (n := 6) hown' hk' hins hini'
    (g := F0 m pc ls rest) rfl (by rw [hb]; exact d0) (Nat.le_refl _) (Nat.le_refl _)
  generalize hT1 : (T.setVm vm₁).pushCell { cls := cX, slots := kX.instanceTypes.map defaultValue, vm := .none } = T1 at X₁ st1
  have hcat : (Value.ref T.heap.size).category = 1 := rfl
  have hcellA : T1.heap[T.heap.size]? = some (freshCell cX kX) := by rw [← hT1]; exact State.heap_pushCell_size _ _
  have d3' : decode c.code (pc + 3) = .ok (.dup, 1) := by rw [hb]; exact d3
  have d4' : decode c.code (pc + 4) = .ok (.ldc_w is, 3) := by rw [hb]; exact d4
  have hstr' : vk_R own is text sa s' := vk_R.warm hW0 hstr
  obtain ⟨U, hsteps, hrun, hend, hW, hsame, ce, hce, hO⟩ := X₁.ctorThrowS hexec htr (own := own) (cls := cls) (names := names) (ic := ic) hown' hcls hnames h (fun x hx => nomatch hx) hfX hkX hcellA (by rw [hhp, hT]; exact Nat.le_refl _) (msg := .ref sa) rfl
    (g := { method := m, pc := pc + 7, locals := ls, stack := .ref sa :: .ref T.heap.size :: .ref T.heap.size :: rest, locked := none }) rfl hsize rfl rfl (rest := rest) rfl
    (by rw [hb]; exact d7) (by rw [hb]; exact d10) hout hRframes (by simp only [List.map_cons, List.sum_cons, hcat]; omega) hlocks
  obtain ⟨f1, f2⟩ := vx_frame hsame
  rw [hhp] at f1 f2
  have hWs : s.WarmedH U.vm := State.WarmedH.trans hW0 hW
  have hcl : s.vm.findClass cls = some ce.cls := by
    have h9 := hO.cls
    rw [hvm] at h9
    exact h9
  have hall : s.sameButNew ({ U with vm := s.vm } : State) locs mc ms := by
    subst hA
    obtain ⟨e1, e2⟩ := hsame
    rw [State.setFrames_setFrames] at e1
    have h2 : (T.setVm s.vm).sameButNew ({ U with vm := s.vm } : State) [] (0 + 1) (0 + 6) := ⟨e1, e2⟩
    have h3 := X.same.trans h2
    rw [List.append_nil] at h3
    exact h3.mono hc hs
  refine ⟨U, ?_, .threw T.heap.size, hrun, hend, Or.inr ⟨T.heap.size, rfl, cls, ce, locs, hx U hWs.alike f1 (fun q hq => f2 q hq (fun z hz => nomatch hz)), hce, hO.vm, hcl, hWs, hall, hf⟩⟩
  refine st1 _ ?_
  show Steps p.tables e below (T1.setTop { method := m, pc := pc + 3, locals := ls, stack := .ref T.heap.size :: rest, locked := none }) _
  jvm_step X₁.here [X₁.here.top, hexec, d3', Value.category]
  exact X₁.ldcStringW hexec (own := own) (text := text) (index := is) (a := sa) hown' hstr'.1 hstr'.2
    (g := { method := m, pc := pc + 4, locals := ls, stack := .ref T.heap.size :: .ref T.heap.size :: rest, locked := none }) rfl d4' _ hsteps
end Ends
section Bodies
variable {l : Launch}
theorem vx_ofW {y : MethodName} {ws ws' : List Cond} {rm : Room} {Pc : Array Value → State → Prop} {Qc : Array Value → State → Outcome → State → Prop} {XC : String → State → State → Prop} {mc ms : Nat} {free : Addr → Prop} {cc : ByteArray} {maxL : Nat} {ret : Option FieldType}
    (hy : plainName y.cls = true) (hw : ws = Cond.code y cc maxL ret :: ws')
    (body : ∀ p e s m args below meth c s₁, BodyLoose p l y (headSpec ws rm) cc maxL ret e s m args below meth c s₁ → c.maxLocals = maxL → (∀ x ∈ c.exceptionTable.toList, False) → Pc args s →
      W p l e (headSpec ws rm).room s m args below meth c s.heap [] 0 0 (vx_MQ below Qc XC args s mc ms free) (entryFrame m args maxL)) : vx_Met l y ws rm Pc Qc XC mc ms free := by
  refine MetFree.of_bodyS (code := cc) (maxLocals := maxL) (ret := ret) hy ?_ ?_
  · intro args s m h hn
    obtain ⟨meth, c, h1, h2, h3, h4, h5, h6, -, -⟩ := Cond.code_spec hn (atoms_spec (ws := ws) h _ (by rw [hw]; exact List.mem_cons_self))
    exact ⟨meth, c, h1, h2, h3, h4, h5, h6⟩
  · intro p e s m args below meth c s₁ B hml hP _
    have hh0 : s₁.heap = s.heap := by rw [B.state]; rfl
    have ht : ∀ x ∈ c.exceptionTable.toList, False := by
      obtain ⟨meth9, c9, h1, h2, -, -, -, -, h7, -⟩ := Cond.code_spec B.named (atoms_spec (ws := ws) B.pre _ (by rw [hw]; exact List.mem_cons_self))
      cases Option.some.inj (h1.symm.trans B.method)
      cases Option.some.inj (h2.symm.trans (Stand.of_body B).code)
      intro x hx
      rw [Array.isEmpty_iff.mp h7] at hx
      cases hx
    obtain ⟨t, a1, o, b1, b2, b3⟩ := body p e s m args below meth c s₁ B hml ht hP s₁ hh0 (Stand.of_body B)
    exact ⟨t, o, a1, b1, b2, b3⟩
/-- the table of a body with handlers -/
theorem vx_table {p : Program} {x y : MethodName} {S : Spec} {cc bytes : ByteArray} {maxL maxL' : Nat} {ret ret' : Option FieldType} {e : Env} {s s₁ : State} {m : MethodId} {args : Array Value} {below : List Frame} {meth : Method} {c : Code} {hh : List (Nat × Nat × Nat × Nat)}
    (B : BodyLoose p l y S cc maxL ret e s m args below meth c s₁) (h : (Cond.codeWith y bytes maxL' ret' hh).before args s = true) : c.exceptionTable.toList = tableOf hh := by
  obtain ⟨m9, meth9, c9, hn9, h1, h2, -, -, h6, -⟩ := Cond.codeWith_spec h
  cases Option.some.inj (hn9.symm.trans B.named)
  cases Option.some.inj (h1.symm.trans B.method)
  cases Option.some.inj (h2.symm.trans (Stand.of_body B).code)
  rw [← h6, table_eq]
end Bodies
end VXA
/-! ===== END ===== -/
/-! ===== BEGIN a static call of a method with an exception table ===== -/
section VXS
variable {p : Program} {l : Launch} {e : Env} {R : Room} {s : State} {m : MethodId} {args : Array Value} {below : List Frame} {meth : Method} {c : Code} {T : State} {H : Heap} {locs : List Loc} {cells slots : Nat}
abbrev vx_CSW (R : Room) (s : State) (args : Array Value) (own : String) (index : Nat) (y : MethodName) (bytes : ByteArray) (maxL : Nat) (ret : Option FieldType) (hh : List (Nat × Nat × Nat × Nat)) (ws : List Cond) (rm : Room) (mc ms n : Nat) : Prop :=
  (rm.cells = mc ∧ rm.slots = ms ∧ rm.frames + 1 ≤ R.frames ∧ 8 + (maxL + 11) + rm.locals ≤ R.locals ∧ (∀ w ∈ ws, ∀ (a' : Array Value) (U : State), s.WarmedH U.vm → w.before a' U = true) ∧ Cond.codeWith y bytes maxL ret hh ∈ ws) ∧
  (Cond.codeWith y bytes maxL ret hh).before args s = true ∧ (Cond.initialized y.cls).before args s = true ∧ (y.cls ≠ "java/lang/invoke/MethodHandle" ∧ y.cls ≠ "java/lang/invoke/VarHandle") ∧
  (∀ sig, parseMethodDescriptor y.desc = some sig → n = sig.parameters.length) ∧ (Cond.methodLink own index y).before args s = true ∧ (Cond.static y).before args s = true
theorem vx_cwSW {own : String} {index maxL mc ms : Nat} {y : MethodName} {bytes : ByteArray} {ret : Option FieldType} {hh : List (Nat × Nat × Nat × Nat)} {Ts ws ws' : List Cond} {rm : Room} (n : Nat) (ht : ∀ w ∈ Ts, w.before args s = true) (hT : GoodIn Ts (va_wsS own index y ws)) (hw : ws = Cond.codeWith y bytes maxL ret hh :: ws') (hrc : rm.cells = mc) (hrs : rm.slots = ms)
    (hd : y.cls ≠ "java/lang/invoke/MethodHandle" ∧ y.cls ≠ "java/lang/invoke/VarHandle" ∧ (parseMethodDescriptor y.desc).map (fun d => d.parameters.length) = some n) (hR : rm.frames + 1 ≤ R.frames ∧ 8 + (maxL + 11) + rm.locals ≤ R.locals) :
    vx_CSW R s args own index y bytes maxL ret hh ws rm mc ms n := by
  have ok : ∀ w ∈ va_wsS own index y ws, w.before args s = true := fun w h => ht w (hT w h).1
  have hG : GoodIn Ts ws := fun w h => hT w (by unfold va_wsS; exact List.mem_append_right _ h)
  have hc : Cond.codeWith y bytes maxL ret hh ∈ ws := by rw [hw]; exact List.mem_cons_self
  refine ⟨⟨hrc, hrs, hR.1, hR.2, pay_in ht hG, hc⟩, ht _ (hG _ hc).1, ok _ (by simp [va_wsS]), ⟨hd.1, hd.2.1⟩, fun sig h => ?_, ok _ (by simp [va_wsS]), ok _ (by simp [va_wsS])⟩
  have h2 := hd.2.2
  rw [h] at h2
  exact (Option.some.inj h2).symm
theorem vx_callSW (X : Stand p l e R s m args below meth c T locs cells slots) (hexec : p.tables.exec = Jvm.exec) {own : String} {index : Nat} {y : MethodName} {bytes : ByteArray} {maxL : Nat} {ret : Option FieldType} {hh : List (Nat × Nat × Nat × Nat)}
    (hown : s.vm.findClass own = some m.cls) (hlink : (Cond.methodLink own index y).before args s = true) (hstat : (Cond.static y).before args s = true) (hinit : (Cond.initialized y.cls).before args s = true)
    (hcode : (Cond.codeWith y bytes maxL ret hh).before args s = true) (hy : y.cls ≠ "java/lang/invoke/MethodHandle" ∧ y.cls ≠ "java/lang/invoke/VarHandle")
    {W9 : Nat} {Pre : Pt → Array Value → Prop} {Post : Pt → Array Value → Option Value → Pt → Prop} (hK : Back l R p e below s args y 3 W9 Pre Post)
    {g : JFrame} (hg : g.method = m) (hsize : g.locals.size = c.maxLocals) {argsL rest : List Value} (hlen : ∀ sig, parseMethodDescriptor y.desc = some sig → argsL.length = sig.parameters.length)
    (hstack : g.stack = argsL.reverse ++ rest) (hW : 2 * g.monitorRoom + (rest.map fun v => v.category).sum ≤ W9) (hdg : decode c.code g.pc = .ok (.invokestatic index, 3))
    (hpre : ∀ vm₁, s.WarmedH vm₁ → Pre ⟨T.setVm vm₁, locs, cells, slots⟩ argsL.toArray) :
    ∃ (v : Option Value) (vm₁ : Vm) (B : Pt), s.WarmedH vm₁ ∧ Stand p l e R s m args below meth c B.U B.locs B.cells B.slots ∧ Post ⟨T.setVm vm₁, locs, cells, slots⟩ argsL.toArray v B ∧
      ∀ target, Steps p.tables e below (B.U.setTop { g with pc := g.pc + 3, stack := v.toList ++ rest }) target → Steps p.tables e below (T.setTop g) target := by
  obtain ⟨mk, methM, cM, hnamed, hmethM, -, -, -, -, -, -, hsigM⟩ := Cond.codeWith_spec hcode
  have hstatic : methM.isStatic = true := Cond.static_spec hnamed hmethM hstat
  obtain ⟨kP, hkP, -⟩ := className_of_methodNamed hnamed
  have hinitP : kP.init = .initialized := Cond.initialized_spec (findClass_of_methodNamed hnamed) hkP hinit
  obtain ⟨vm₁, X₁, hstep₁⟩ := X.invokestatic hexec hown hlink hnamed hmethM hstatic hkP hinitP hy (g := g) hg (argsL := argsL) (rest := rest) (hlen _ hsigM) hstack hdg
  obtain ⟨v, B, X', hpost, hsteps⟩ := hK m meth c ⟨T.setVm vm₁, locs, cells, slots⟩ { g with stack := rest } (.invokestatic index) mk argsL.toArray X₁ hg hsize hdg hW (X₁.named hnamed) (hpre vm₁ X₁.warmed)
  exact ⟨v, vm₁, B, X₁.warmed, X', hpost, fun target h => hstep₁ _ fun acts => by rw [doInvoke_state]; exact hsteps.trans h⟩
theorem vx_runSW {y : MethodName} {bytes cc : ByteArray} {maxL nL mc ms n index : Nat} {ret : Option FieldType} {hh : List (Nat × Nat × Nat × Nat)} {ws : List Cond} {rm : Room} {Pc : Array Value → State → Prop} {Qc : Array Value → State → Outcome → State → Prop} {free : Addr → Prop} {Ts : List Cond} {own : String} {As rest : List Value} {g : JFrame}
    (S : CallFix p m c cc nL s args Ts own) (hM : Met l y ws rm Pc Qc mc ms free) (cw : vx_CSW R s args own index y bytes maxL ret hh ws rm mc ms n) (hp : PreS s H Pc As)
    (hg : g.method = m) (hn : As.length = n) (hsize : g.locals.size = nL) (hstack : g.stack = As.reverse ++ rest) (hW : 2 * g.monitorRoom + (rest.map fun v => v.category).sum ≤ 8) (hdg : decode cc g.pc = .ok (.invokestatic index, 3)) (hf : cells + mc ≤ R.cells ∧ slots + ms ≤ R.slots) :
    va_Run p l e R s m args below meth c H locs cells slots mc ms g rest (Qc As.toArray) (free) := by
  obtain ⟨⟨hrc, hrs, hfr, hlo, hws, hcw⟩, hcode, hini, hy, hlen, hl, hstt⟩ := cw
  have hK : Back l R p e below s args y 3 8 (PreOf R mc ms Pc) (PostOf Qc mc ms free) := va_backW (hh := hh) (bytes := bytes) (maxL := maxL) (ret := ret) hM hp.1 hrc hrs hfr hlo hws hcw (fun a' U hW => word_at hW (Or.inl (by first | rfl | simp [Cond.onTables, Cond.keeps, Cond.steady])) hini)
  obtain ⟨hx, hb, hml, ho, -⟩ := S
  intro T hT X
  obtain ⟨v, vm₁, ⟨U', l2, c2, s2⟩, hW₁, X', ⟨g', mk, t, L, e1, e2, hq, h1, hL, h2, h3⟩, st⟩ := vx_callSW X hx (hh := hh) (bytes := bytes) (maxL := maxL) (ret := ret) ho hl hstt hini hcode hy hK hg (hsize.trans hml.symm) (argsL := As) (rest := rest) (fun sig h => hn.trans (hlen sig h)) hstack hW (by rw [hb]; exact hdg)
    (fun vm₁ hW₁ => ⟨hf.1, hf.2, hp.2 (T.setVm vm₁) hT hW₁⟩)
  dsimp only [Pt.U, Pt.locs, Pt.cells, Pt.slots] at X' e1 e2 h1 h2 h3 st
  subst h1; subst h2; subst h3
  exact ⟨v, (T.setVm vm₁).calling g' mk As.toArray, t, U', L, hT, X', hL, e1, e2, hq, st⟩
/-- not caught here, past rows that name other classes: it goes on to the caller -/
theorem vx_outP {p : Program} {l : Launch} {e : Env} {R : Room} {s : State} {m : MethodId} {args : Array Value} {below : List Frame} {meth : Method} {c : Code} {H : Heap} {locs : List Loc} {cells slots : Nat} {free : Addr → Prop} {ls : Array Slot} {rest : List Value} {Qc : Array Value → State → Outcome → State → Prop} {XC : String → State → State → Prop}
    {pc : Nat} {own E : String} {ce : Cell} {q : Addr} {mc ms : Nat} (hown : s.vm.findClass own = some m.cls) (hlocks : meth.locks = false)
    (hpass : ∀ z ∈ c.exceptionTable.toList, covers z pc = false ∨ (z.catchType ≠ 0 ∧ ∃ nm : String, (Cond.classLink own z.catchType nm).before args s = true ∧ va_Nc E nm s)) (hcell : H[q]? = some ce) (hv : ce.vm = .none) (hcl : s.vm.findClass E = some ce.cls)
    (hx : ∀ t : State, t.heap = H → s.vm.Alike t.vm → XC E s t) (hf : ∀ z ∈ locs, free z.base) (hc : cells ≤ mc) (hs : slots ≤ ms) :
    vx_W p l e R s m args below meth c H locs cells slots (vx_MQ below Qc XC args s mc ms free) (F0 m pc ls rest) q := by
  intro T hT X
  have hpl : e.platform.magicAccessors = ({} : Platform).magicAccessors := by rw [X.admits.platform]
  obtain ⟨vm', hW', X', st⟩ := X.outThrough hlocks q (g := F0 m pc ls rest) rfl rfl rfl (cell := ce) (by rw [hT]; exact hcell) (by rw [hv]; rfl)
    (by obtain ⟨k9, h9, -⟩ := Vm.findClass_spec hcl; exact ⟨k9, h9⟩) (fun z hz => by
      rcases hpass z hz with h | ⟨hz0, nm, hl1, hn1⟩
      · exact Or.inl h
      · obtain ⟨c6, hc6, hcl6⟩ := Cond.classLink_spec hown hl1 e.platform hpl
        obtain ⟨a8, b8, h1, h2, h3⟩ := hn1
        cases Option.some.inj (h1.symm.trans hcl)
        cases Option.some.inj (h2.symm.trans hc6)
        exact Or.inr ⟨hz0, _, hcl6, h3⟩)
  obtain ⟨g₀, hfr⟩ := X'.frames_eq
  have hcell9 : ((T.setVm vm').setFrames (.throwing q :: below)).heap[q]? = some ce := by
    show T.heap[q]? = some ce
    rw [hT]; exact hcell
  have hend : Ended ((T.setVm vm').setFrames (.throwing q :: below)) below (.threw q) := State.frames_setFrames _ (State.cur_lt_of_frames hfr)
  refine ⟨(T.setVm vm').setFrames (.throwing q :: below), ?_, .threw q, X'.here.running, hend, Or.inr ⟨q, rfl, E, ce, locs, hx _ hT (X'.ends _).1.alike, hcell9, hv, hcl, (X'.ends _).1, (X'.ends _).2.mono hc hs, hf⟩⟩
  rw [X.pushThrowing_eq]
  exact st
/-- a thing of a world lies in the heap -/
theorem vx_lt {D : va_G} {cl : List vw_C} {ws : va_W} {H1 : Heap} (h : va_P D cl ws H1) {k : Nat} {q : Nat × va_E} (hk : ws[k]? = some q) : q.1 < H1.size := (h k q hk).lt
end VXS
/-! ===== END ===== -/
/-! ===== BEGIN methods with a table of their own: called by a name, returning or throwing ===== -/
section VXH
/-! vx_backW, vx_callVX, vx_callSX, vx_callVW, vx_runVW, vx_runVX, vx_runSX, vx_ofWH follow the same proofs as their sisters above (Free/Laws.lean, Shelf42/LK1.lean); vx_outP calls Shelf42/NT130.lean (outThrough). -/
section
variable {l : Launch} {R : Room} {p : Program} {e : Env} {below : List Frame} {s : State} {sargs : Array Value} {y : MethodName} {len W9 : Nat}
theorem vx_backW {ws : List Cond} {rm : Room} {Pc : Array Value → State → Prop} {Qc : Array Value → State → Outcome → State → Prop} {XC : String → State → State → Prop} {mc ms : Nat} {free : Addr → Prop} {bytes : ByteArray} {maxL : Nat} {ret : Option FieldType} {hh : List (Nat × Nat × Nat × Nat)}
    (hM : vx_Met l y ws rm Pc Qc XC mc ms free) (hblind : FrameBlind Pc) (hrc : rm.cells = mc) (hrs : rm.slots = ms)
    (hframes : rm.frames + 1 ≤ R.frames) (hlocals : W9 + (maxL + 11) + rm.locals ≤ R.locals)
    (hws : ∀ w ∈ ws, ∀ a' U, s.WarmedH U.vm → w.before a' U = true) (hcode : Cond.codeWith y bytes maxL ret hh ∈ ws) (hinit : ∀ a' U, s.WarmedH U.vm → (Cond.initialized y.cls).before a' U = true) :
    vx_Back l R p e below s sargs y len W9 (PreOf R mc ms Pc) (PostOf Qc mc ms free) (vx_Post XC mc ms free) := by
  intro m meth c A g ig mk a X hg hsize hdg hW hn hp
  have h1 : (headSpec ws rm).pre.before a A.U = true := atoms_intro fun w hw => hws w hw _ _ X.warmed
  have h2 : (Cond.codeWith y bytes maxL ret hh).before a A.U = true := hws _ hcode _ _ X.warmed
  have h3 : (Cond.initialized y.cls).before a A.U = true := hinit _ _ X.warmed
  have h4 : A.cells + (headSpec ws rm).room.cells ≤ R.cells := by rw [show (headSpec ws rm).room.cells = mc from hrc]; exact hp.1
  have h5 : A.slots + (headSpec ws rm).room.slots ≤ R.slots := by rw [show (headSpec ws rm).room.slots = ms from hrs]; exact hp.2.1
  have hPc : Pc a (A.U.calling g mk a) := hblind _ _ _ _ hp.2.2
  obtain ⟨U, Ls, c0, s0⟩ := A
  dsimp only [Pt.U, Pt.locs, Pt.cells, Pt.slots] at h1 h2 h3 h4 h5 X hn hPc ⊢
  obtain ⟨m9, methY, cY, hn9, hmY, hcY, -, hlY, -⟩ := Cond.codeWith_spec h2
  cases Option.some.inj (hn9.symm.trans hn)
  obtain ⟨kY, hkY, -⟩ := className_of_methodNamed hn
  have hinitY : kY.init = .initialized := Cond.initialized_spec (findClass_of_methodNamed hn) hkY h3
  have h : At U g.method c below := by rw [hg]; exact X.here
  have hlocals9 : W9 + (maxL + 11) + (headSpec ws rm).room.locals ≤ R.locals := hlocals
  have happ : (headSpec ws rm).appliesLoose y e.platform (U.calling g mk a) = true :=
    Spec.appliesLoose_calling (g := g) h hdg hn hkY hinitY
      (X.room_calling (g := g) (R' := (headSpec ws rm).room) hsize hmY hcY hframes (by rw [hlY]; omega) h4 h5) h1
  obtain ⟨mid, hmid⟩ := h.above
  have hfr : (U.setTop g).frames = (.java g :: mid) ++ below := by rw [State.frames_setTop' g h.top, hmid]; rfl
  obtain ⟨o, s₂, hsteps, -, hend, hq⟩ := Steps.callFree hM p X.admits X.cas X.clock (acts := []) hfr happ hPc trivial
  have hq' : vx_Q Qc XC mc ms free a (U.calling g mk a) o s₂ := hq
  rw [State.frames_setTop' g h.top] at hend
  obtain ⟨g₀, hg0⟩ := Option.isSome_iff_exists.mp h.top
  obtain ⟨r, hr⟩ := State.topJava?_eq_some.mp hg0
  have hr' : (({ U with heap := s₂.heap, slotsUsed := s₂.slotsUsed } : State).setVm s₂.vm).frames = .java g₀ :: r := hr
  rcases hq' with ⟨hqc, L, hfe, hL⟩ | ⟨q, rfl, E, ce, L, hx, hce, hcv, hcl, hW₂, hsm, hL⟩
  · obtain ⟨⟨v, rfl⟩, hW₂, e2, q2, q3, q4, q5, q6⟩ := id hfe
    have e3 : s₂ = ({ (U.calling g mk a).setFrames s₂.frames with heap := s₂.heap, slotsUsed := s₂.slotsUsed } : State).setVm s₂.vm := by
      have : s₂ = ({ s₂ with vm := (U.calling g mk a).vm } : State).setVm s₂.vm := rfl
      rw [e2] at this
      exact this
    obtain ⟨c₂, i₂, len₂, hc₂, hd₂, hf₂⟩ := hend
    have hW' : U.WarmedH s₂.vm := hW₂
    have hcc : c₂ = c := by
      have h1 : s₂.code? g.method = U.code? g.method := by
        rw [State.code?_eq, State.code?_eq, hW'.alike.method?]
      exact Option.some.inj (hc₂.symm.trans (h1.trans h.code))
    subst hcc
    have hlen : len₂ = len := by rw [hdg] at hd₂; cases hd₂; rfl
    subst hlen
    have hs₂ : s₂ = (({ U with heap := s₂.heap, slotsUsed := s₂.slotsUsed } : State).setVm s₂.vm).setTop { g with pc := g.pc + len₂, stack := v.toList ++ g.stack } := by
      refine e3.trans ?_
      rw [hf₂, State.calling_eq h.top, State.setFrames_setFrames, State.setTop_of_frames _ hr', hr]
      rfl
    have hsame : U.sameButNew ({ U with heap := s₂.heap, slotsUsed := s₂.slotsUsed } : State) L mc ms := by
      refine ⟨?_, q2, q3, q4, q5, q6⟩
      obtain ⟨t, ht, -⟩ := State.frames_cons hr
      show ({ U with heap := s₂.heap, slotsUsed := s₂.slotsUsed } : State) = { U.setFrames U.frames with heap := s₂.heap, slotsUsed := s₂.slotsUsed }
      rw [State.setFrames_self ht]
    subst hg
    refine Or.inl ⟨v, ⟨(({ U with heap := s₂.heap, slotsUsed := s₂.slotsUsed } : State).setVm s₂.vm), Ls ++ L, c0 + mc, s0 + ms⟩,
      ⟨X.admits, X.cas, X.clock, X.frames, X.room, X.hears, X.method, X.code, (X.here.setHeapUsed s₂.heap s₂.slotsUsed).setVm hW'.alike, X.tail, State.WarmedH.trans X.warmed hW', X.limits, X.bytes, X.same.trans (hsame.setVm s.vm)⟩,
      ⟨g, mk, s₂, L, rfl, rfl, hqc, rfl, hL, rfl, rfl⟩, ?_⟩
    show Steps p.tables e below _ ((({ U with heap := s₂.heap, slotsUsed := s₂.slotsUsed } : State).setVm s₂.vm).setTop { g with pc := g.pc + len₂, stack := v.toList ++ g.stack })
    rw [← hs₂]
    exact hsteps
  · obtain ⟨e2, q2, q3, q4, q5, q6⟩ := id hsm
    have e3 : s₂ = ({ (U.calling g mk a).setFrames s₂.frames with heap := s₂.heap, slotsUsed := s₂.slotsUsed } : State).setVm s₂.vm := by
      have : s₂ = ({ s₂ with vm := (U.calling g mk a).vm } : State).setVm s₂.vm := rfl
      rw [e2] at this
      exact this
    have hf₂ : s₂.frames = .throwing q :: .java g :: U.frames.tail := hend
    have hW' : U.WarmedH s₂.vm := hW₂
    have hs₂ : s₂ = ((({ U with heap := s₂.heap, slotsUsed := s₂.slotsUsed } : State).setVm s₂.vm).setTop g).pushFrame (.throwing q) := by
      refine e3.trans ?_
      rw [hf₂, State.calling_eq h.top, State.setFrames_setFrames, State.pushFrame, State.frames_setTop _ hr', State.setTop_of_frames _ hr', State.setFrames_setFrames, hr]
      rfl
    have hsame : U.sameButNew ({ U with heap := s₂.heap, slotsUsed := s₂.slotsUsed } : State) L mc ms := by
      refine ⟨?_, q2, q3, q4, q5, q6⟩
      obtain ⟨t, ht, -⟩ := State.frames_cons hr
      show ({ U with heap := s₂.heap, slotsUsed := s₂.slotsUsed } : State) = { U.setFrames U.frames with heap := s₂.heap, slotsUsed := s₂.slotsUsed }
      rw [State.setFrames_self ht]
    subst hg
    refine Or.inr ⟨q, ⟨(({ U with heap := s₂.heap, slotsUsed := s₂.slotsUsed } : State).setVm s₂.vm), Ls ++ L, c0 + mc, s0 + ms⟩,
      ⟨X.admits, X.cas, X.clock, X.frames, X.room, X.hears, X.method, X.code, (X.here.setHeapUsed s₂.heap s₂.slotsUsed).setVm hW'.alike, X.tail, State.WarmedH.trans X.warmed hW', X.limits, X.bytes, X.same.trans (hsame.setVm s.vm)⟩,
      ⟨g, mk, s₂, L, E, ce, rfl, rfl, hx, hce, hcv, hcl, rfl, hL, rfl, rfl⟩, ?_⟩
    show Steps p.tables e below _ (((({ U with heap := s₂.heap, slotsUsed := s₂.slotsUsed } : State).setVm s₂.vm).setTop g).pushFrame (.throwing q))
    rw [← hs₂]
    exact hsteps
end
variable {p : Program} {l : Launch} {e : Env} {R : Room} {s : State} {m : MethodId} {args : Array Value} {below : List Frame} {meth : Method} {c : Code} {T : State} {H : Heap} {locs : List Loc} {cells slots : Nat}
theorem vx_callVX (X : Stand p l e R s m args below meth c T locs cells slots) (hexec : p.tables.exec = Jvm.exec) {own C : String} {index : Nat} {y : MethodName} {bytes : ByteArray} {maxL : Nat} {ret : Option FieldType} {hh : List (Nat × Nat × Nat × Nat)}
    (hown : s.vm.findClass own = some m.cls) (hlink : (Cond.methodLink own index y).before args s = true) (hinst : (Cond.instanceMethod y).before args s = true) (hsel : (Cond.selects C y y).before args s = true)
    (hcode : (Cond.codeWith y bytes maxL ret hh).before args s = true) (hy : y.cls ≠ "java/lang/invoke/MethodHandle" ∧ y.cls ≠ "java/lang/invoke/VarHandle")
    {W9 : Nat} {Pre : Pt → Array Value → Prop} {Post : Pt → Array Value → Option Value → Pt → Prop} {PostX : Pt → Array Value → Addr → Pt → Prop} (hK : vx_Back l R p e below s args y 3 W9 Pre Post PostX)
    {b : Addr} {cellB : Cell} (hcell : T.heap[b]? = some cellB) (hobj : cellB.vm.isStatics = false) (hcls : s.vm.findClass C = some cellB.cls)
    {g : JFrame} (hg : g.method = m) (hsize : g.locals.size = c.maxLocals) {argsL rest : List Value} (hlen : ∀ sig, parseMethodDescriptor y.desc = some sig → argsL.length = sig.parameters.length)
    (hstack : g.stack = argsL.reverse ++ .ref b :: rest) (hW : 2 * g.monitorRoom + (rest.map fun v => v.category).sum ≤ W9) (hdg : decode c.code g.pc = .ok (.invokevirtual index, 3))
    (hpre : ∀ vm₁, s.WarmedH vm₁ → Pre ⟨T.setVm vm₁, locs, cells, slots⟩ (Value.ref b :: argsL).toArray) :
    (∃ (v : Option Value) (vm₁ : Vm) (B : Pt), s.WarmedH vm₁ ∧ Stand p l e R s m args below meth c B.U B.locs B.cells B.slots ∧ Post ⟨T.setVm vm₁, locs, cells, slots⟩ (Value.ref b :: argsL).toArray v B ∧
      ∀ target, Steps p.tables e below (B.U.setTop { g with pc := g.pc + 3, stack := v.toList ++ rest }) target → Steps p.tables e below (T.setTop g) target) ∨
    (∃ (q : Addr) (vm₁ : Vm) (B : Pt), s.WarmedH vm₁ ∧ Stand p l e R s m args below meth c B.U B.locs B.cells B.slots ∧ PostX ⟨T.setVm vm₁, locs, cells, slots⟩ (Value.ref b :: argsL).toArray q B ∧
      Steps p.tables e below (T.setTop g) ((B.U.setTop { g with stack := rest }).pushFrame (.throwing q))) := by
  obtain ⟨mk, methM, hnamed, hmethM, hstM, habM⟩ := Cond.instanceMethod_spec hinst
  obtain ⟨m8, methM', cM, hn8, hmethM', -, -, -, -, -, -, hsigM⟩ := Cond.codeWith_spec hcode
  cases Option.some.inj (hn8.symm.trans hnamed)
  cases hmethM.symm.trans hmethM'
  obtain ⟨c2, r2, m2, q1, q2, q3, q4, kP, hkP, hkPi⟩ := Cond.selects_spec hsel
  cases hcls.symm.trans q1
  cases (State.methodFound?_of_named hnamed hy).symm.trans q2
  cases hnamed.symm.trans q3
  have hselP : selectMethod e.platform s.vm cellB.cls mk = .method mk := by rw [Launch.admits_selectMethod X.admits]; exact q4
  obtain ⟨vm₁, X₁, hstep₁⟩ := X.invokevirtual hexec hown hlink hnamed hmethM hstM hkP hkPi hy (a := b) (cell := cellB) hcell
    (fun z h => by rw [h] at hobj; cases hobj) hselP hmethM habM hkP hkPi (g := g) hg (argsL := argsL) (rest := rest) (hlen _ hsigM) hstack hdg
  rcases hK m meth c ⟨T.setVm vm₁, locs, cells, slots⟩ { g with stack := rest } (.invokevirtual index) mk (Value.ref b :: argsL).toArray X₁ hg hsize hdg hW (X₁.named hnamed) (hpre vm₁ X₁.warmed) with ⟨v, B, X', hpost, hsteps⟩ | ⟨q, B, X', hpost, hsteps⟩
  · exact Or.inl ⟨v, vm₁, B, X₁.warmed, X', hpost, fun target h => hstep₁ _ fun acts => by rw [doInvoke_state]; exact hsteps.trans h⟩
  · exact Or.inr ⟨q, vm₁, B, X₁.warmed, X', hpost, hstep₁ _ fun acts => by rw [doInvoke_state]; exact hsteps⟩
theorem vx_callSX (X : Stand p l e R s m args below meth c T locs cells slots) (hexec : p.tables.exec = Jvm.exec) {own : String} {index : Nat} {y : MethodName} {bytes : ByteArray} {maxL : Nat} {ret : Option FieldType} {hh : List (Nat × Nat × Nat × Nat)}
    (hown : s.vm.findClass own = some m.cls) (hlink : (Cond.methodLink own index y).before args s = true) (hstat : (Cond.static y).before args s = true) (hinit : (Cond.initialized y.cls).before args s = true)
    (hcode : (Cond.codeWith y bytes maxL ret hh).before args s = true) (hy : y.cls ≠ "java/lang/invoke/MethodHandle" ∧ y.cls ≠ "java/lang/invoke/VarHandle")
    {W9 : Nat} {Pre : Pt → Array Value → Prop} {Post : Pt → Array Value → Option Value → Pt → Prop} {PostX : Pt → Array Value → Addr → Pt → Prop} (hK : vx_Back l R p e below s args y 3 W9 Pre Post PostX)
    {g : JFrame} (hg : g.method = m) (hsize : g.locals.size = c.maxLocals) {argsL rest : List Value} (hlen : ∀ sig, parseMethodDescriptor y.desc = some sig → argsL.length = sig.parameters.length)
    (hstack : g.stack = argsL.reverse ++ rest) (hW : 2 * g.monitorRoom + (rest.map fun v => v.category).sum ≤ W9) (hdg : decode c.code g.pc = .ok (.invokestatic index, 3))
    (hpre : ∀ vm₁, s.WarmedH vm₁ → Pre ⟨T.setVm vm₁, locs, cells, slots⟩ argsL.toArray) :
    (∃ (v : Option Value) (vm₁ : Vm) (B : Pt), s.WarmedH vm₁ ∧ Stand p l e R s m args below meth c B.U B.locs B.cells B.slots ∧ Post ⟨T.setVm vm₁, locs, cells, slots⟩ argsL.toArray v B ∧
      ∀ target, Steps p.tables e below (B.U.setTop { g with pc := g.pc + 3, stack := v.toList ++ rest }) target → Steps p.tables e below (T.setTop g) target) ∨
    (∃ (q : Addr) (vm₁ : Vm) (B : Pt), s.WarmedH vm₁ ∧ Stand p l e R s m args below meth c B.U B.locs B.cells B.slots ∧ PostX ⟨T.setVm vm₁, locs, cells, slots⟩ argsL.toArray q B ∧
      Steps p.tables e below (T.setTop g) ((B.U.setTop { g with stack := rest }).pushFrame (.throwing q))) := by
  obtain ⟨mk, methM, cM, hnamed, hmethM, -, -, -, -, -, -, hsigM⟩ := Cond.codeWith_spec hcode
  have hstatic : methM.isStatic = true := Cond.static_spec hnamed hmethM hstat
  obtain ⟨kP, hkP, -⟩ := className_of_methodNamed hnamed
  have hinitP : kP.init = .initialized := Cond.initialized_spec (findClass_of_methodNamed hnamed) hkP hinit
  obtain ⟨vm₁, X₁, hstep₁⟩ := X.invokestatic hexec hown hlink hnamed hmethM hstatic hkP hinitP hy (g := g) hg (argsL := argsL) (rest := rest) (hlen _ hsigM) hstack hdg
  rcases hK m meth c ⟨T.setVm vm₁, locs, cells, slots⟩ { g with stack := rest } (.invokestatic index) mk argsL.toArray X₁ hg hsize hdg hW (X₁.named hnamed) (hpre vm₁ X₁.warmed) with ⟨v, B, X', hpost, hsteps⟩ | ⟨q, B, X', hpost, hsteps⟩
  · exact Or.inl ⟨v, vm₁, B, X₁.warmed, X', hpost, fun target h => hstep₁ _ fun acts => by rw [doInvoke_state]; exact hsteps.trans h⟩
  · exact Or.inr ⟨q, vm₁, B, X₁.warmed, X', hpost, hstep₁ _ fun acts => by rw [doInvoke_state]; exact hsteps⟩
theorem vx_callVW (X : Stand p l e R s m args below meth c T locs cells slots) (hexec : p.tables.exec = Jvm.exec) {own C : String} {index : Nat} {y : MethodName} {bytes : ByteArray} {maxL : Nat} {ret : Option FieldType} {hh : List (Nat × Nat × Nat × Nat)}
    (hown : s.vm.findClass own = some m.cls) (hlink : (Cond.methodLink own index y).before args s = true) (hinst : (Cond.instanceMethod y).before args s = true) (hsel : (Cond.selects C y y).before args s = true)
    (hcode : (Cond.codeWith y bytes maxL ret hh).before args s = true) (hy : y.cls ≠ "java/lang/invoke/MethodHandle" ∧ y.cls ≠ "java/lang/invoke/VarHandle")
    {W9 : Nat} {Pre : Pt → Array Value → Prop} {Post : Pt → Array Value → Option Value → Pt → Prop} (hK : Back l R p e below s args y 3 W9 Pre Post)
    {b : Addr} {cellB : Cell} (hcell : T.heap[b]? = some cellB) (hobj : cellB.vm.isStatics = false) (hcls : s.vm.findClass C = some cellB.cls)
    {g : JFrame} (hg : g.method = m) (hsize : g.locals.size = c.maxLocals) {argsL rest : List Value} (hlen : ∀ sig, parseMethodDescriptor y.desc = some sig → argsL.length = sig.parameters.length)
    (hstack : g.stack = argsL.reverse ++ .ref b :: rest) (hW : 2 * g.monitorRoom + (rest.map fun v => v.category).sum ≤ W9) (hdg : decode c.code g.pc = .ok (.invokevirtual index, 3))
    (hpre : ∀ vm₁, s.WarmedH vm₁ → Pre ⟨T.setVm vm₁, locs, cells, slots⟩ (Value.ref b :: argsL).toArray) :
    ∃ (v : Option Value) (vm₁ : Vm) (B : Pt), s.WarmedH vm₁ ∧ Stand p l e R s m args below meth c B.U B.locs B.cells B.slots ∧ Post ⟨T.setVm vm₁, locs, cells, slots⟩ (Value.ref b :: argsL).toArray v B ∧
      ∀ target, Steps p.tables e below (B.U.setTop { g with pc := g.pc + 3, stack := v.toList ++ rest }) target → Steps p.tables e below (T.setTop g) target := by
  obtain ⟨mk, methM, hnamed, hmethM, hstM, habM⟩ := Cond.instanceMethod_spec hinst
  obtain ⟨m8, methM', cM, hn8, hmethM', -, -, -, -, -, -, hsigM⟩ := Cond.codeWith_spec hcode
  cases Option.some.inj (hn8.symm.trans hnamed)
  cases hmethM.symm.trans hmethM'
  obtain ⟨c2, r2, m2, q1, q2, q3, q4, kP, hkP, hkPi⟩ := Cond.selects_spec hsel
  cases hcls.symm.trans q1
  cases (State.methodFound?_of_named hnamed hy).symm.trans q2
  cases hnamed.symm.trans q3
  have hselP : selectMethod e.platform s.vm cellB.cls mk = .method mk := by rw [Launch.admits_selectMethod X.admits]; exact q4
  obtain ⟨vm₁, X₁, hstep₁⟩ := X.invokevirtual hexec hown hlink hnamed hmethM hstM hkP hkPi hy (a := b) (cell := cellB) hcell
    (fun z h => by rw [h] at hobj; cases hobj) hselP hmethM habM hkP hkPi (g := g) hg (argsL := argsL) (rest := rest) (hlen _ hsigM) hstack hdg
  obtain ⟨v, B, X', hpost, hsteps⟩ := hK m meth c ⟨T.setVm vm₁, locs, cells, slots⟩ { g with stack := rest } (.invokevirtual index) mk (Value.ref b :: argsL).toArray X₁ hg hsize hdg hW (X₁.named hnamed) (hpre vm₁ X₁.warmed)
  exact ⟨v, vm₁, B, X₁.warmed, X', hpost, fun target h => hstep₁ _ fun acts => by rw [doInvoke_state]; exact hsteps.trans h⟩
abbrev vx_CVW (R : Room) (s : State) (args : Array Value) (own C : String) (index : Nat) (y : MethodName) (bytes : ByteArray) (maxL : Nat) (ret : Option FieldType) (hh : List (Nat × Nat × Nat × Nat)) (ws : List Cond) (rm : Room) (mc ms n : Nat) : Prop :=
  (rm.cells = mc ∧ rm.slots = ms ∧ rm.frames + 1 ≤ R.frames ∧ 8 + (maxL + 11) + rm.locals ≤ R.locals ∧ (∀ w ∈ ws, ∀ (a' : Array Value) (U : State), s.WarmedH U.vm → w.before a' U = true) ∧ Cond.codeWith y bytes maxL ret hh ∈ ws) ∧
  (Cond.codeWith y bytes maxL ret hh).before args s = true ∧ (Cond.initialized y.cls).before args s = true ∧ (y.cls ≠ "java/lang/invoke/MethodHandle" ∧ y.cls ≠ "java/lang/invoke/VarHandle") ∧
  (∀ sig, parseMethodDescriptor y.desc = some sig → n = sig.parameters.length) ∧ (Cond.methodLink own index y).before args s = true ∧ (Cond.instanceMethod y).before args s = true ∧ (Cond.selects C y y).before args s = true
theorem vx_cwVW {own C : String} {index maxL mc ms : Nat} {y : MethodName} {bytes : ByteArray} {ret : Option FieldType} {hh : List (Nat × Nat × Nat × Nat)} {Ts ws ws' : List Cond} {rm : Room} (n : Nat) (ht : ∀ w ∈ Ts, w.before args s = true) (hT : GoodIn Ts (wsV own index C y ws)) (hw : ws = Cond.codeWith y bytes maxL ret hh :: ws') (hrc : rm.cells = mc) (hrs : rm.slots = ms)
    (hd : y.cls = C ∧ y.cls ≠ "java/lang/invoke/MethodHandle" ∧ y.cls ≠ "java/lang/invoke/VarHandle" ∧ (parseMethodDescriptor y.desc).map (fun d => d.parameters.length) = some n) (hR : rm.frames + 1 ≤ R.frames ∧ 8 + (maxL + 11) + rm.locals ≤ R.locals) :
    vx_CVW R s args own C index y bytes maxL ret hh ws rm mc ms n := by
  obtain ⟨hC, hd⟩ := hd
  subst hC
  have ok : ∀ w ∈ wsV own index y.cls y ws, w.before args s = true := fun w h => ht w (hT w h).1
  have hG : GoodIn Ts ws := fun w h => hT w (by unfold wsV; exact List.mem_append_right _ h)
  have hc : Cond.codeWith y bytes maxL ret hh ∈ ws := by rw [hw]; exact List.mem_cons_self
  refine ⟨⟨hrc, hrs, hR.1, hR.2, pay_in ht hG, hc⟩, ht _ (hG _ hc).1, ok _ (by simp [wsV]), ⟨hd.1, hd.2.1⟩, fun sig h => ?_, ok _ (by simp [wsV]), ok _ (by simp [wsV]), ok _ (by simp [wsV])⟩
  have h2 := hd.2.2
  rw [h] at h2
  exact (Option.some.inj h2).symm
theorem vx_runVW {y : MethodName} {bytes cc : ByteArray} {maxL nL mc ms n index : Nat} {ret : Option FieldType} {hh : List (Nat × Nat × Nat × Nat)} {ws : List Cond} {rm : Room} {Pc : Array Value → State → Prop} {Qc : Array Value → State → Outcome → State → Prop} {free : Addr → Prop} {Ts : List Cond} {own C : String} {b : Addr} {As rest : List Value} {g : JFrame}
    (S : CallFix p m c cc nL s args Ts own) (hM : Met l y ws rm Pc Qc mc ms free) (cw : vx_CVW R s args own C index y bytes maxL ret hh ws rm mc ms n) (hp : PreV s H C b Pc As)
    (hg : g.method = m) (hn : As.length = n) (hsize : g.locals.size = nL) (hstack : g.stack = As.reverse ++ .ref b :: rest) (hW : 2 * g.monitorRoom + (rest.map fun v => v.category).sum ≤ 8) (hdg : decode cc g.pc = .ok (.invokevirtual index, 3)) (hf : cells + mc ≤ R.cells ∧ slots + ms ≤ R.slots) :
    va_Run p l e R s m args below meth c H locs cells slots mc ms g rest (Qc (Value.ref b :: As).toArray) free := by
  obtain ⟨⟨hrc, hrs, hfr, hlo, hws, hcw⟩, hcode, hini, hy, hlen, hl, hin, hse⟩ := cw
  have hK : Back l R p e below s args y 3 8 (PreOf R mc ms Pc) (PostOf Qc mc ms free) := va_backW (hh := hh) (bytes := bytes) (maxL := maxL) (ret := ret) hM hp.1 hrc hrs hfr hlo hws hcw (fun a' U hW => word_at hW (Or.inl (by first | rfl | simp [Cond.onTables, Cond.keeps, Cond.steady])) hini)
  obtain ⟨hx, hb, hml, ho, -⟩ := S
  obtain ⟨-, ⟨cellB, hcB, hoB, hclB⟩, hPc⟩ := hp
  intro T hT X
  obtain ⟨v, vm₁, ⟨U', l2, c2, s2⟩, hW₁, X', ⟨g', mk, t, L, e1, e2, hq, h1, hL, h2, h3⟩, st⟩ := vx_callVW X hx (C := C) (hh := hh) (bytes := bytes) (maxL := maxL) (ret := ret) ho hl hin hse hcode hy hK (by rw [hT]; exact hcB) hoB hclB hg (hsize.trans hml.symm) (argsL := As) (rest := rest) (fun sig h => hn.trans (hlen sig h)) hstack hW (by rw [hb]; exact hdg)
    (fun vm₁ hW₁ => ⟨hf.1, hf.2, hPc (T.setVm vm₁) hT hW₁⟩)
  dsimp only [Pt.U, Pt.locs, Pt.cells, Pt.slots] at X' e1 e2 h1 h2 h3 st
  subst h1; subst h2; subst h3
  exact ⟨v, (T.setVm vm₁).calling g' mk (Value.ref b :: As).toArray, t, U', L, hT, X', hL, e1, e2, hq, st⟩
section
variable {y : MethodName} {bytes cc : ByteArray} {maxL nL mc ms n index : Nat} {ret : Option FieldType} {ws : List Cond} {rm : Room} {Pc : Array Value → State → Prop} {Qc : Array Value → State → Outcome → State → Prop} {XC : String → State → State → Prop} {free : Addr → Prop} {Ts : List Cond} {own C : String} {b : Addr} {As rest : List Value} {g : JFrame}
theorem vx_runVX {hh : List (Nat × Nat × Nat × Nat)} (S : CallFix p m c cc nL s args Ts own) (hM : vx_Met l y ws rm Pc Qc XC mc ms free) (cw : vx_CVW R s args own C index y bytes maxL ret hh ws rm mc ms n) (hp : PreV s H C b Pc As)
    (hg : g.method = m) (hn : As.length = n) (hsize : g.locals.size = nL) (hstack : g.stack = As.reverse ++ .ref b :: rest) (hW : 2 * g.monitorRoom + (rest.map fun v => v.category).sum ≤ 8) (hdg : decode cc g.pc = .ok (.invokevirtual index, 3)) (hf : cells + mc ≤ R.cells ∧ slots + ms ≤ R.slots) :
    vx_Run p l e R s m args below meth c H locs cells slots mc ms g rest (Qc (Value.ref b :: As).toArray) XC free := by
  obtain ⟨⟨hrc, hrs, hfr, hlo, hws, hcw⟩, hcode, hini, hy, hlen, hl, hin, hse⟩ := cw
  have hK : vx_Back l R p e below s args y 3 8 (PreOf R mc ms Pc) (PostOf Qc mc ms free) (vx_Post XC mc ms free) := vx_backW (hh := hh) (bytes := bytes) (maxL := maxL) (ret := ret) hM hp.1 hrc hrs hfr hlo hws hcw (fun a' U hW => word_at hW (Or.inl (by first | rfl | simp [Cond.onTables, Cond.keeps, Cond.steady])) hini)
  obtain ⟨hx, hb, hml, ho, -⟩ := S
  obtain ⟨-, ⟨cellB, hcB, hoB, hclB⟩, hPc⟩ := hp
  intro T hT X
  rcases vx_callVX X hx (C := C) (hh := hh) (bytes := bytes) (maxL := maxL) (ret := ret) ho hl hin hse hcode hy hK (by rw [hT]; exact hcB) hoB hclB hg (hsize.trans hml.symm) (argsL := As) (rest := rest) (fun sig h => hn.trans (hlen sig h)) hstack hW (by rw [hb]; exact hdg)
    (fun vm₁ hW₁ => ⟨hf.1, hf.2, hPc (T.setVm vm₁) hT hW₁⟩) with ⟨v, vm₁, ⟨U', l2, c2, s2⟩, hW₁, X', ⟨g', mk, t, L, e1, e2, hq, h1, hL, h2, h3⟩, st⟩ | ⟨q, vm₁, ⟨U', l2, c2, s2⟩, hW₁, X', ⟨g', mk, t, L, E, ce, e1, e2, hq, hce, hcv, hcl, h1, hL, h2, h3⟩, st⟩
  · dsimp only [Pt.U, Pt.locs, Pt.cells, Pt.slots] at X' e1 e2 h1 h2 h3 st
    subst h1; subst h2; subst h3
    exact Or.inl ⟨v, (T.setVm vm₁).calling g' mk (Value.ref b :: As).toArray, t, U', L, hT, X', hL, e1, e2, hq, st⟩
  · dsimp only [Pt.U, Pt.locs, Pt.cells, Pt.slots] at X' e1 e2 h1 h2 h3 st hcl
    subst h1; subst h2; subst h3
    exact Or.inr ⟨q, (T.setVm vm₁).calling g' mk (Value.ref b :: As).toArray, t, U', L, E, ce, hT, X', hL, e1, e2, hq, hce, hcv, vx_cls hW₁ hcl, st⟩
theorem vx_runSX {hh : List (Nat × Nat × Nat × Nat)} (S : CallFix p m c cc nL s args Ts own) (hM : vx_Met l y ws rm Pc Qc XC mc ms free) (cw : vx_CSW R s args own index y bytes maxL ret hh ws rm mc ms n) (hp : PreS s H Pc As)
    (hg : g.method = m) (hn : As.length = n) (hsize : g.locals.size = nL) (hstack : g.stack = As.reverse ++ rest) (hW : 2 * g.monitorRoom + (rest.map fun v => v.category).sum ≤ 8) (hdg : decode cc g.pc = .ok (.invokestatic index, 3)) (hf : cells + mc ≤ R.cells ∧ slots + ms ≤ R.slots) :
    vx_Run p l e R s m args below meth c H locs cells slots mc ms g rest (Qc As.toArray) XC free := by
  obtain ⟨⟨hrc, hrs, hfr, hlo, hws, hcw⟩, hcode, hini, hy, hlen, hl, hstt⟩ := cw
  have hK : vx_Back l R p e below s args y 3 8 (PreOf R mc ms Pc) (PostOf Qc mc ms free) (vx_Post XC mc ms free) := vx_backW (hh := hh) (bytes := bytes) (maxL := maxL) (ret := ret) hM hp.1 hrc hrs hfr hlo hws hcw (fun a' U hW => word_at hW (Or.inl (by first | rfl | simp [Cond.onTables, Cond.keeps, Cond.steady])) hini)
  obtain ⟨hx, hb, hml, ho, -⟩ := S
  intro T hT X
  rcases vx_callSX X hx (hh := hh) (bytes := bytes) (maxL := maxL) (ret := ret) ho hl hstt hini hcode hy hK hg (hsize.trans hml.symm) (argsL := As) (rest := rest) (fun sig h => hn.trans (hlen sig h)) hstack hW (by rw [hb]; exact hdg)
    (fun vm₁ hW₁ => ⟨hf.1, hf.2, hp.2 (T.setVm vm₁) hT hW₁⟩) with ⟨v, vm₁, ⟨U', l2, c2, s2⟩, hW₁, X', ⟨g', mk, t, L, e1, e2, hq, h1, hL, h2, h3⟩, st⟩ | ⟨q, vm₁, ⟨U', l2, c2, s2⟩, hW₁, X', ⟨g', mk, t, L, E, ce, e1, e2, hq, hce, hcv, hcl, h1, hL, h2, h3⟩, st⟩
  · dsimp only [Pt.U, Pt.locs, Pt.cells, Pt.slots] at X' e1 e2 h1 h2 h3 st
    subst h1; subst h2; subst h3
    exact Or.inl ⟨v, (T.setVm vm₁).calling g' mk As.toArray, t, U', L, hT, X', hL, e1, e2, hq, st⟩
  · dsimp only [Pt.U, Pt.locs, Pt.cells, Pt.slots] at X' e1 e2 h1 h2 h3 st hcl
    subst h1; subst h2; subst h3
    exact Or.inr ⟨q, (T.setVm vm₁).calling g' mk As.toArray, t, U', L, E, ce, hT, X', hL, e1, e2, hq, hce, hcv, vx_cls hW₁ hcl, st⟩
end
end VXH
theorem vx_ofWH {l : Launch} {y : MethodName} {ws ws' : List Cond} {rm : Room} {Pc : Array Value → State → Prop} {Qc : Array Value → State → Outcome → State → Prop} {XC : String → State → State → Prop} {mc ms : Nat} {free : Addr → Prop} {cc : ByteArray} {maxL : Nat} {ret : Option FieldType} {hh : List (Nat × Nat × Nat × Nat)}
    (hy : plainName y.cls = true) (hw : ws = Cond.codeWith y cc maxL ret hh :: ws')
    (body : ∀ p e s m args below meth c s₁, BodyLoose p l y (headSpec ws rm) cc maxL ret e s m args below meth c s₁ → c.maxLocals = maxL → Pc args s →
      W p l e (headSpec ws rm).room s m args below meth c s.heap [] 0 0 (vx_MQ below Qc XC args s mc ms free) (entryFrame m args maxL)) : vx_Met l y ws rm Pc Qc XC mc ms free := by
  refine MetFree.of_bodyS (code := cc) (maxLocals := maxL) (ret := ret) hy ?_ ?_
  · intro args s m h hn
    obtain ⟨m9, meth, c, hn9, h1, h2, h3, h4, -, h5, h6, -⟩ := Cond.codeWith_spec (atoms_spec (ws := ws) h _ (by rw [hw]; exact List.mem_cons_self))
    cases hn.symm.trans hn9
    exact ⟨meth, c, h1, h2, h3, h4, h5, h6⟩
  · intro p e s m args below meth c s₁ B hml hP _
    have hh0 : s₁.heap = s.heap := by rw [B.state]; rfl
    obtain ⟨t, a1, o, b1, b2, b3⟩ := body p e s m args below meth c s₁ B hml hP s₁ hh0 (Stand.of_body B)
    exact ⟨t, o, a1, b1, b2, b3⟩
/-! ===== END ===== -/
end
section
def RX0 : String := "Spritehall$Actor"
def TX0 : u_T := fun k => match k with
  | 0 => ("Spritehall$Actor", "number", "I", true)
  | 1 => ("Spritehall$Actor", "side", "I", true)
  | 2 => ("Spritehall$Actor", "links", "Ljava/util/ArrayList;", true)
  | 3 => ("Spritehall$Actor", "handle", "I", false)
  | 4 => ("Spritehall$Actor", "cell", "I", false)
  | 5 => ("Spritehall$Actor", "way", "I", false)
  | 6 => ("Spritehall$Actor", "lives", "I", false)
  | 7 => ("Spritehall$Actor", "root", "Z", false)
  | 8 => ("Spritehall$Actor", "held", "Z", false)
  | _ => ("Spritehall$Actor", "lostAtMarking", "Z", false)
def tyX0 : Nat → FieldType := fun k => match k with
  | 0 => .int
  | 1 => .int
  | 2 => .object "java/util/ArrayList"
  | 3 => .int
  | 4 => .int
  | 5 => .int
  | 6 => .int
  | 7 => .boolean
  | 8 => .boolean
  | _ => .boolean
abbrev wsX00 : List Cond := u_ws RX0 TX0 10
theorem nmX0 : ∀ a, a < 10 → ∀ b, b < 10 → a ≠ b → (TX0 a).2.1 ≠ (TX0 b).2.1 := by decide +kernel
theorem tyX0_ok : ∀ k, k < 10 → parseFieldDescriptor (TX0 k).2.2.1 = some (tyX0 k) := by decide +kernel
abbrev cX0_init : ByteArray := prog_2_method_1_code
def yX0_init : MethodName := ⟨RX0, "<init>", "(IIIII)V"⟩
abbrev cX0_countedLinksTo : ByteArray := prog_2_method_2_code
def yX0_countedLinksTo : MethodName := ⟨RX0, "countedLinksTo", "(LSpritehall$Actor;)I"⟩
abbrev cX0_holdOthers : ByteArray := prog_2_method_3_code
def yX0_holdOthers : MethodName := ⟨RX0, "holdOthers", "()Z"⟩
abbrev cX0_move : ByteArray := prog_2_method_4_code
def yX0_move : MethodName := ⟨RX0, "move", "()V"⟩
def RX1 : String := "Spritehall$Link"
def TX1 : u_T := fun k => match k with
  | 0 => ("Spritehall$Link", "other", "LSpritehall$Actor;", true)
  | _ => ("Spritehall$Link", "kind", "I", true)
def tyX1 : Nat → FieldType := fun k => match k with
  | 0 => .object "Spritehall$Actor"
  | _ => .int
abbrev wsX10 : List Cond := u_ws RX1 TX1 2
theorem nmX1 : ∀ a, a < 2 → ∀ b, b < 2 → a ≠ b → (TX1 a).2.1 ≠ (TX1 b).2.1 := by decide +kernel
theorem tyX1_ok : ∀ k, k < 2 → parseFieldDescriptor (TX1 k).2.2.1 = some (tyX1 k) := by decide +kernel
abbrev cX1_init : ByteArray := prog_3_method_1_code
def yX1_init : MethodName := ⟨RX1, "<init>", "(LSpritehall$Actor;I)V"⟩
def RX2 : String := "Spritehall$Slots"
def TX2 : u_T := fun k => match k with
  | 0 => ("Spritehall$Slots", "lying", "[LSpritehall$Actor;", true)
  | 1 => ("Spritehall$Slots", "ages", "[I", true)
  | _ => ("Spritehall$Slots", "next", "I", false)
def tyX2 : Nat → FieldType := fun k => match k with
  | 0 => .array (.object "Spritehall$Actor")
  | 1 => .array .int
  | _ => .int
abbrev wsX20 : List Cond := u_ws RX2 TX2 3
theorem nmX2 : ∀ a, a < 3 → ∀ b, b < 3 → a ≠ b → (TX2 a).2.1 ≠ (TX2 b).2.1 := by decide +kernel
theorem tyX2_ok : ∀ k, k < 3 → parseFieldDescriptor (TX2 k).2.2.1 = some (tyX2 k) := by decide +kernel
abbrev cX2_init : ByteArray := prog_4_method_1_code
def yX2_init : MethodName := ⟨RX2, "<init>", "()V"⟩
abbrev cX2_countFree : ByteArray := prog_4_method_2_code
def yX2_countFree : MethodName := ⟨RX2, "countFree", "()I"⟩
abbrev cX2_settle : ByteArray := prog_4_method_3_code
def yX2_settle : MethodName := ⟨RX2, "settle", "(LSpritehall$Actor;)V"⟩
abbrev cX2_sweepAll : ByteArray := prog_4_method_4_code
def yX2_sweepAll : MethodName := ⟨RX2, "sweepAll", "()I"⟩
abbrev cX2_goOn : ByteArray := prog_4_method_5_code
def yX2_goOn : MethodName := ⟨RX2, "goOn", "(I)V"⟩
abbrev cX2_takeStep : ByteArray := prog_4_method_6_code
def yX2_takeStep : MethodName := ⟨RX2, "takeStep", "()V"⟩
abbrev cX2_mark : ByteArray := prog_4_method_7_code
def yX2_mark : MethodName := ⟨RX2, "mark", "()V"⟩
abbrev cX2_lookAt : ByteArray := prog_4_method_8_code
def yX2_lookAt : MethodName := ⟨RX2, "lookAt", "(I)V"⟩
def RX3 : String := "Spritehall$Sound"
def TX3 : u_T := fun k => match k with
  | 0 => ("Spritehall$Sound", "maker", "LSpritehall$Actor;", true)
  | _ => ("Spritehall$Sound", "madeAt", "I", true)
def tyX3 : Nat → FieldType := fun k => match k with
  | 0 => .object "Spritehall$Actor"
  | _ => .int
abbrev wsX30 : List Cond := u_ws RX3 TX3 2
theorem nmX3 : ∀ a, a < 2 → ∀ b, b < 2 → a ≠ b → (TX3 a).2.1 ≠ (TX3 b).2.1 := by decide +kernel
theorem tyX3_ok : ∀ k, k < 2 → parseFieldDescriptor (TX3 k).2.2.1 = some (tyX3 k) := by decide +kernel
abbrev cX3_init : ByteArray := prog_5_method_1_code
def yX3_init : MethodName := ⟨RX3, "<init>", "(LSpritehall$Actor;I)V"⟩
def RX4 : String := "Spritehall$Wave"
def TX4 : u_T := fun k => match k with
  | 0 => ("Spritehall$Wave", "frame", "I", true)
  | 1 => ("Spritehall$Wave", "cell", "I", true)
  | 2 => ("Spritehall$Wave", "way", "I", true)
  | 3 => ("Spritehall$Wave", "side", "I", true)
  | _ => ("Spritehall$Wave", "lives", "I", true)
def tyX4 : Nat → FieldType := fun k => match k with
  | 0 => .int
  | 1 => .int
  | 2 => .int
  | 3 => .int
  | _ => .int
abbrev wsX40 : List Cond := u_ws RX4 TX4 5
theorem nmX4 : ∀ a, a < 5 → ∀ b, b < 5 → a ≠ b → (TX4 a).2.1 ≠ (TX4 b).2.1 := by decide +kernel
theorem tyX4_ok : ∀ k, k < 5 → parseFieldDescriptor (TX4 k).2.2.1 = some (tyX4 k) := by decide +kernel
abbrev cX4_init : ByteArray := prog_6_method_1_code
def yX4_init : MethodName := ⟨RX4, "<init>", "(IIIII)V"⟩
def RX5 : String := "Spritehall"
def TX5 : u_T := fun k => match k with
  | 0 => ("Spritehall", "actors", "Ljava/util/ArrayList;", true)
  | 1 => ("Spritehall", "slots", "LSpritehall$Slots;", true)
  | 2 => ("Spritehall", "waves", "Ljava/util/ArrayList;", true)
  | 3 => ("Spritehall", "sounds", "Ljava/util/ArrayList;", true)
  | 4 => ("Spritehall", "framesRun", "I", false)
  | _ => ("Spritehall", "ear", "I", false)
def tyX5 : Nat → FieldType := fun k => match k with
  | 0 => .object "java/util/ArrayList"
  | 1 => .object "Spritehall$Slots"
  | 2 => .object "java/util/ArrayList"
  | 3 => .object "java/util/ArrayList"
  | 4 => .int
  | _ => .int
abbrev wsX50 : List Cond := u_ws RX5 TX5 6
theorem nmX5 : ∀ a, a < 6 → ∀ b, b < 6 → a ≠ b → (TX5 a).2.1 ≠ (TX5 b).2.1 := by decide +kernel
theorem tyX5_ok : ∀ k, k < 6 → parseFieldDescriptor (TX5 k).2.2.1 = some (tyX5 k) := by decide +kernel
abbrev cX5_init : ByteArray := prog_1_method_1_code
def yX5_init : MethodName := ⟨RX5, "<init>", "()V"⟩
abbrev cX5_spawn : ByteArray := prog_1_method_2_code
def yX5_spawn : MethodName := ⟨RX5, "spawn", "(IIIII)I"⟩
abbrev cX5_unroot : ByteArray := prog_1_method_3_code
def yX5_unroot : MethodName := ⟨RX5, "unroot", "(I)I"⟩
abbrev cX5_tie : ByteArray := prog_1_method_4_code
def yX5_tie : MethodName := ⟨RX5, "tie", "(III)I"⟩
abbrev cX5_untie : ByteArray := prog_1_method_5_code
def yX5_untie : MethodName := ⟨RX5, "untie", "(II)I"⟩
abbrev cX5_isHeld : ByteArray := prog_1_method_6_code
def yX5_isHeld : MethodName := ⟨RX5, "isHeld", "(I)Z"⟩
abbrev cX5_held : ByteArray := prog_1_method_7_code
def yX5_held : MethodName := ⟨RX5, "held", "()I"⟩
abbrev cX5_number : ByteArray := prog_1_method_8_code
def yX5_number : MethodName := ⟨RX5, "number", "(I)I"⟩
abbrev cX5_cell : ByteArray := prog_1_method_9_code
def yX5_cell : MethodName := ⟨RX5, "cell", "(I)I"⟩
abbrev cX5_lives : ByteArray := prog_1_method_10_code
def yX5_lives : MethodName := ⟨RX5, "lives", "(I)I"⟩
abbrev cX5_linkAt : ByteArray := prog_1_method_11_code
def yX5_linkAt : MethodName := ⟨RX5, "linkAt", "(II)I"⟩
abbrev cX5_count : ByteArray := prog_1_method_12_code
def yX5_count : MethodName := ⟨RX5, "count", "(I)I"⟩
abbrev cX5_wave : ByteArray := prog_1_method_13_code
def yX5_wave : MethodName := ⟨RX5, "wave", "(IIIII)I"⟩
abbrev cX5_frame : ByteArray := prog_1_method_14_code
def yX5_frame : MethodName := ⟨RX5, "frame", "(I)I"⟩
abbrev cX5_frames : ByteArray := prog_1_method_15_code
def yX5_frames : MethodName := ⟨RX5, "frames", "()I"⟩
abbrev cX5_sweep : ByteArray := prog_1_method_16_code
def yX5_sweep : MethodName := ⟨RX5, "sweep", "()I"⟩
abbrev cX5_free : ByteArray := prog_1_method_17_code
def yX5_free : MethodName := ⟨RX5, "free", "()I"⟩
abbrev cX5_age : ByteArray := prog_1_method_18_code
def yX5_age : MethodName := ⟨RX5, "age", "(I)I"⟩
abbrev cX5_sum : ByteArray := prog_1_method_19_code
def yX5_sum : MethodName := ⟨RX5, "sum", "()I"⟩
abbrev cX5_sumByReplay : ByteArray := prog_1_method_20_code
def yX5_sumByReplay : MethodName := ⟨RX5, "sumByReplay", "()I"⟩
abbrev cX5_listen : ByteArray := prog_1_method_21_code
def yX5_listen : MethodName := ⟨RX5, "listen", "(I)I"⟩
abbrev cX5_sound : ByteArray := prog_1_method_22_code
def yX5_sound : MethodName := ⟨RX5, "sound", "(I)I"⟩
abbrev cX5_heard : ByteArray := prog_1_method_23_code
def yX5_heard : MethodName := ⟨RX5, "heard", "()I"⟩
abbrev cX5_isCell : ByteArray := prog_1_method_24_code
def yX5_isCell : MethodName := ⟨RX5, "isCell", "(I)Z"⟩
abbrev cX5_areTraits : ByteArray := prog_1_method_25_code
def yX5_areTraits : MethodName := ⟨RX5, "areTraits", "(IIII)Z"⟩
abbrev cX5_findHeld : ByteArray := prog_1_method_26_code
def yX5_findHeld : MethodName := ⟨RX5, "findHeld", "(I)LSpritehall$Actor;"⟩
abbrev cX5_heldActor : ByteArray := prog_1_method_27_code
def yX5_heldActor : MethodName := ⟨RX5, "heldActor", "(I)LSpritehall$Actor;"⟩
abbrev cX5_countHeld : ByteArray := prog_1_method_28_code
def yX5_countHeld : MethodName := ⟨RX5, "countHeld", "()I"⟩
abbrev cX5_sumOfHeld : ByteArray := prog_1_method_29_code
def yX5_sumOfHeld : MethodName := ⟨RX5, "sumOfHeld", "()I"⟩
abbrev cX5_hasRoomForOne : ByteArray := prog_1_method_30_code
def yX5_hasRoomForOne : MethodName := ⟨RX5, "hasRoomForOne", "()Z"⟩
abbrev cX5_enter : ByteArray := prog_1_method_31_code
def yX5_enter : MethodName := ⟨RX5, "enter", "(LSpritehall$Actor;)LSpritehall$Actor;"⟩
abbrev cX5_noteHeld : ByteArray := prog_1_method_32_code
def yX5_noteHeld : MethodName := ⟨RX5, "noteHeld", "()V"⟩
abbrev cX5_holdLinked : ByteArray := prog_1_method_33_code
def yX5_holdLinked : MethodName := ⟨RX5, "holdLinked", "()Z"⟩
abbrev cX5_runWaves : ByteArray := prog_1_method_34_code
def yX5_runWaves : MethodName := ⟨RX5, "runWaves", "()V"⟩
abbrev cX5_moveHeld : ByteArray := prog_1_method_35_code
def yX5_moveHeld : MethodName := ⟨RX5, "moveHeld", "()V"⟩
abbrev cX5_hitInCells : ByteArray := prog_1_method_36_code
def yX5_hitInCells : MethodName := ⟨RX5, "hitInCells", "()V"⟩
abbrev cX5_isHeldIn : ByteArray := prog_1_method_37_code
def yX5_isHeldIn : MethodName := ⟨RX5, "isHeldIn", "(II)Z"⟩
abbrev cX5_hitAllIn : ByteArray := prog_1_method_38_code
def yX5_hitAllIn : MethodName := ⟨RX5, "hitAllIn", "(I)V"⟩
abbrev cX5_nearestSound : ByteArray := prog_1_method_39_code
def yX5_nearestSound : MethodName := ⟨RX5, "nearestSound", "(I)I"⟩
abbrev cX5_canBeHeard : ByteArray := prog_1_method_40_code
def yX5_canBeHeard : MethodName := ⟨RX5, "canBeHeard", "(LSpritehall$Sound;)Z"⟩
def RJx145de : String := "java/io/Serializable"
def RJx8e188 : String := "java/lang/Cloneable"
def RJxab1ab : String := "java/lang/Iterable"
def RJ9 : String := "java/lang/Math"
abbrev cJ9_abs_0f7a4 : ByteArray := prog_16_method_59_code
def yJ9_abs_0f7a4 : MethodName := ⟨RJ9, "abs", "(I)I"⟩
abbrev cJ9_max_7cf53 : ByteArray := prog_16_method_65_code
def yJ9_max_7cf53 : MethodName := ⟨RJ9, "max", "(II)I"⟩
abbrev cJ9_min_7cf53 : ByteArray := prog_16_method_69_code
def yJ9_min_7cf53 : MethodName := ⟨RJ9, "min", "(II)I"⟩
def RJ0 : String := "java/lang/String"
def RJ10 : String := "java/lang/System"
def RJxa1e45 : String := "java/util/AbstractCollection"
abbrev cJxa1e45_init_da8c8 : ByteArray := prog_21_method_1_code
def yJxa1e45_init_da8c8 : MethodName := ⟨RJxa1e45, "<init>", "()V"⟩
def RJxc12de : String := "java/util/AbstractList"
abbrev cJxc12de_init_da8c8 : ByteArray := prog_22_method_1_code
def yJxc12de_init_da8c8 : MethodName := ⟨RJxc12de, "<init>", "()V"⟩
def RJx4a65c : String := "java/util/ArrayList"
def TJx4a65c : u_T := fun k => match k with
  | 0 => ("java/util/AbstractList", "modCount", "I", false)
  | 1 => ("java/util/ArrayList", "elementData", "[Ljava/lang/Object;", false)
  | _ => ("java/util/ArrayList", "size", "I", false)
def tyJx4a65c : Nat → FieldType := fun k => match k with
  | 0 => .int
  | 1 => .array (.object "java/lang/Object")
  | _ => .int
abbrev wsJx4a65c0 : List Cond := u_ws RJx4a65c TJx4a65c 3
theorem nmJx4a65c : ∀ a, a < 3 → ∀ b, b < 3 → a ≠ b → (TJx4a65c a).2.1 ≠ (TJx4a65c b).2.1 := by decide +kernel
theorem tyJx4a65c_ok : ∀ k, k < 3 → parseFieldDescriptor (TJx4a65c k).2.2.1 = some (tyJx4a65c k) := by decide +kernel
abbrev cJx4a65c_init_da8c8 : ByteArray := prog_23_method_2_code
def yJx4a65c_init_da8c8 : MethodName := ⟨RJx4a65c, "<init>", "()V"⟩
abbrev cJx4a65c_grow_92f84 : ByteArray := prog_23_method_6_code
def yJx4a65c_grow_92f84 : MethodName := ⟨RJx4a65c, "grow", "(I)[Ljava/lang/Object;"⟩
abbrev cJx4a65c_grow_d5877 : ByteArray := prog_23_method_7_code
def yJx4a65c_grow_d5877 : MethodName := ⟨RJx4a65c, "grow", "()[Ljava/lang/Object;"⟩
abbrev cJx4a65c_size_8abf5 : ByteArray := prog_23_method_8_code
def yJx4a65c_size_8abf5 : MethodName := ⟨RJx4a65c, "size", "()I"⟩
abbrev cJx4a65c_elementData_915e3 : ByteArray := prog_23_method_18_code
def yJx4a65c_elementData_915e3 : MethodName := ⟨RJx4a65c, "elementData", "(I)Ljava/lang/Object;"⟩
abbrev cJx4a65c_get_915e3 : ByteArray := prog_23_method_20_code
def yJx4a65c_get_915e3 : MethodName := ⟨RJx4a65c, "get", "(I)Ljava/lang/Object;"⟩
abbrev cJx4a65c_add_72be8 : ByteArray := prog_23_method_24_code
def yJx4a65c_add_72be8 : MethodName := ⟨RJx4a65c, "add", "(Ljava/lang/Object;[Ljava/lang/Object;I)V"⟩
abbrev cJx4a65c_add_9ea2d : ByteArray := prog_23_method_25_code
def yJx4a65c_add_9ea2d : MethodName := ⟨RJx4a65c, "add", "(Ljava/lang/Object;)Z"⟩
abbrev cJx4a65c_remove_915e3 : ByteArray := prog_23_method_29_code
def yJx4a65c_remove_915e3 : MethodName := ⟨RJx4a65c, "remove", "(I)Ljava/lang/Object;"⟩
abbrev cJx4a65c_fastRemove_b59b0 : ByteArray := prog_23_method_39_code
def yJx4a65c_fastRemove_b59b0 : MethodName := ⟨RJx4a65c, "fastRemove", "([Ljava/lang/Object;I)V"⟩
def RJ7 : String := "java/util/Arrays"
abbrev cJ7_copyOf_1904c : ByteArray := prog_24_method_119_code
def yJ7_copyOf_1904c : MethodName := ⟨RJ7, "copyOf", "([Ljava/lang/Object;I)[Ljava/lang/Object;"⟩
abbrev cJ7_copyOf_6403c : ByteArray := prog_24_method_120_code
def yJ7_copyOf_6403c : MethodName := ⟨RJ7, "copyOf", "([Ljava/lang/Object;ILjava/lang/Class;)[Ljava/lang/Object;"⟩
def RJx5ef63 : String := "java/util/Collection"
def RJxbd725 : String := "java/util/List"
def RJ15 : String := "java/util/Objects"
abbrev cJ15_checkIndex_7cf53 : ByteArray := prog_27_method_17_code
def yJ15_checkIndex_7cf53 : MethodName := ⟨RJ15, "checkIndex", "(II)I"⟩
def RJxf0a74 : String := "java/util/RandomAccess"
def RJxa66e6 : String := "java/util/SequencedCollection"
def RJ8 : String := "jdk/internal/util/ArraysSupport"
abbrev cJ8_newLength_cabcc : ByteArray := prog_30_method_27_code
def yJ8_newLength_cabcc : MethodName := ⟨RJ8, "newLength", "(III)I"⟩
abbrev cJ8_hugeLength_7cf53 : ByteArray := prog_30_method_28_code
def yJ8_hugeLength_7cf53 : MethodName := ⟨RJ8, "hugeLength", "(II)I"⟩
def RJ3 : String := "jdk/internal/util/Preconditions"
abbrev cJ3_checkIndex_8e157 : ByteArray := prog_31_method_11_code
def yJ3_checkIndex_8e157 : MethodName := ⟨RJ3, "checkIndex", "(IILjava/util/function/BiFunction;)I"⟩
def RL : String := "SpritehallLaw"
abbrev cL_act : ByteArray := method_2_code
def yL_act : MethodName := ⟨RL, "act", "(LSpritehall;IIII)I"⟩
abbrev cL_come : ByteArray := method_3_code
def yL_come : MethodName := ⟨RL, "come", "(LSpritehall;ZIIIII)I"⟩
abbrev cL_refuses : ByteArray := method_4_code
def yL_refuses : MethodName := ⟨RL, "refuses", "(LSpritehall;II)Z"⟩
abbrev cL_links : ByteArray := method_5_code
def yL_links : MethodName := ⟨RL, "links", "()Z"⟩
abbrev cL_frames : ByteArray := method_6_code
def yL_frames : MethodName := ⟨RL, "frames", "()Z"⟩
abbrev cL_crowds : ByteArray := method_7_code
def yL_crowds : MethodName := ⟨RL, "crowds", "()Z"⟩
abbrev cL_law : ByteArray := code
def yL_law : MethodName := ⟨RL, "law", "([I)Z"⟩
abbrev RX6 : String := RX5
abbrev TX6 : u_T := TX5
abbrev tyX6 : Nat → FieldType := tyX5
abbrev vwCl : List vw_C := [(RJx4a65c, TJx4a65c, 3), (RX0, TX0, 10), (RX1, TX1, 2), (RX2, TX2, 3), (RX3, TX3, 2), (RX4, TX4, 5), (RX5, TX5, 6), (RX5, TX5, 6)]
end
section
/-! ===== THE ABSTRACT MACHINE: a memory of total functions, a step, a run; what follows is only of numbers ===== -/
/-- memory: the kind and length of each address, its ints, its references, its longs; the heap's size; cells and slots used -/
abbrev zM : Type := (Nat → Nat × Nat) × (Nat → Nat → Int32) × (Nat → Nat → Option Nat) × (Nat → Nat → Int64) × Nat × Nat × Nat
def zK (μ : zM) : Nat → Nat × Nat := μ.1
def zI (μ : zM) : Nat → Nat → Int32 := μ.2.1
def zR (μ : zM) : Nat → Nat → Option Nat := μ.2.2.1
def zJ (μ : zM) : Nat → Nat → Int64 := μ.2.2.2.1
def zS (μ : zM) : Nat := μ.2.2.2.2.1
def zC (μ : zM) : Nat := μ.2.2.2.2.2.1
def zL (μ : zM) : Nat := μ.2.2.2.2.2.2
def zup {α : Type} (f : Nat → Nat → α) (a k : Nat) (v : α) : Nat → Nat → α := fun b j => if b = a ∧ j = k then v else f b j
def zsI (μ : zM) (a k : Nat) (x : Int32) : zM := (μ.1, zup μ.2.1 a k x, μ.2.2)
def zsR (μ : zM) (a k : Nat) (x : Option Nat) : zM := (μ.1, μ.2.1, zup μ.2.2.1 a k x, μ.2.2.2)
def zsJ (μ : zM) (a k : Nat) (x : Int64) : zM := (μ.1, μ.2.1, μ.2.2.1, zup μ.2.2.2.1 a k x, μ.2.2.2.2)
/-- a whole row of references put anew (what arraycopy does) -/
def zsW (μ : zM) (a : Nat) (g : Nat → Option Nat) : zM := (μ.1, μ.2.1, (fun b j => if b = a then g j else μ.2.2.1 b j), μ.2.2.2)
/-- a new cell of kind t, length n, w slots -/
def znew (μ : zM) (t n w : Nat) : zM := ((fun a => if a = zS μ then (t, n) else zK μ a), (fun a k => if a = zS μ then 0 else zI μ a k), (fun a k => if a = zS μ then none else zR μ a k), (fun a k => if a = zS μ then 0 else zJ μ a k), zS μ + 1, zC μ + 1, zL μ + w)
theorem zK_sI (μ : zM) (a k : Nat) (x : Int32) : zK (zsI μ a k x) = zK μ := rfl
theorem zK_sR (μ : zM) (a k : Nat) (x : Option Nat) : zK (zsR μ a k x) = zK μ := rfl
theorem zK_sJ (μ : zM) (a k : Nat) (x : Int64) : zK (zsJ μ a k x) = zK μ := rfl
theorem zK_sW (μ : zM) (a : Nat) (g : Nat → Option Nat) : zK (zsW μ a g) = zK μ := rfl
theorem zI_sI (μ : zM) (a k : Nat) (x : Int32) : zI (zsI μ a k x) = zup (zI μ) a k x := rfl
theorem zI_sR (μ : zM) (a k : Nat) (x : Option Nat) : zI (zsR μ a k x) = zI μ := rfl
theorem zI_sJ (μ : zM) (a k : Nat) (x : Int64) : zI (zsJ μ a k x) = zI μ := rfl
theorem zI_sW (μ : zM) (a : Nat) (g : Nat → Option Nat) : zI (zsW μ a g) = zI μ := rfl
theorem zR_sI (μ : zM) (a k : Nat) (x : Int32) : zR (zsI μ a k x) = zR μ := rfl
theorem zR_sR (μ : zM) (a k : Nat) (x : Option Nat) : zR (zsR μ a k x) = zup (zR μ) a k x := rfl
theorem zR_sJ (μ : zM) (a k : Nat) (x : Int64) : zR (zsJ μ a k x) = zR μ := rfl
theorem zJ_sI (μ : zM) (a k : Nat) (x : Int32) : zJ (zsI μ a k x) = zJ μ := rfl
theorem zJ_sR (μ : zM) (a k : Nat) (x : Option Nat) : zJ (zsR μ a k x) = zJ μ := rfl
theorem zJ_sJ (μ : zM) (a k : Nat) (x : Int64) : zJ (zsJ μ a k x) = zup (zJ μ) a k x := rfl
theorem zJ_sW (μ : zM) (a : Nat) (g : Nat → Option Nat) : zJ (zsW μ a g) = zJ μ := rfl
theorem zS_sI (μ : zM) (a k : Nat) (x : Int32) : zS (zsI μ a k x) = zS μ := rfl
theorem zS_sR (μ : zM) (a k : Nat) (x : Option Nat) : zS (zsR μ a k x) = zS μ := rfl
theorem zS_sJ (μ : zM) (a k : Nat) (x : Int64) : zS (zsJ μ a k x) = zS μ := rfl
theorem zS_sW (μ : zM) (a : Nat) (g : Nat → Option Nat) : zS (zsW μ a g) = zS μ := rfl
theorem zC_sI (μ : zM) (a k : Nat) (x : Int32) : zC (zsI μ a k x) = zC μ := rfl
theorem zC_sR (μ : zM) (a k : Nat) (x : Option Nat) : zC (zsR μ a k x) = zC μ := rfl
theorem zC_sJ (μ : zM) (a k : Nat) (x : Int64) : zC (zsJ μ a k x) = zC μ := rfl
theorem zC_sW (μ : zM) (a : Nat) (g : Nat → Option Nat) : zC (zsW μ a g) = zC μ := rfl
theorem zL_sI (μ : zM) (a k : Nat) (x : Int32) : zL (zsI μ a k x) = zL μ := rfl
theorem zL_sR (μ : zM) (a k : Nat) (x : Option Nat) : zL (zsR μ a k x) = zL μ := rfl
theorem zL_sJ (μ : zM) (a k : Nat) (x : Int64) : zL (zsJ μ a k x) = zL μ := rfl
theorem zL_sW (μ : zM) (a : Nat) (g : Nat → Option Nat) : zL (zsW μ a g) = zL μ := rfl
theorem zK_new (μ : zM) (t n w a : Nat) : zK (znew μ t n w) a = if a = zS μ then (t, n) else zK μ a := rfl
theorem zI_new (μ : zM) (t n w a k : Nat) : zI (znew μ t n w) a k = if a = zS μ then 0 else zI μ a k := rfl
theorem zR_new (μ : zM) (t n w a k : Nat) : zR (znew μ t n w) a k = if a = zS μ then none else zR μ a k := rfl
theorem zJ_new (μ : zM) (t n w a k : Nat) : zJ (znew μ t n w) a k = if a = zS μ then 0 else zJ μ a k := rfl
theorem zS_new (μ : zM) (t n w : Nat) : zS (znew μ t n w) = zS μ + 1 := rfl
theorem zC_new (μ : zM) (t n w : Nat) : zC (znew μ t n w) = zC μ + 1 := rfl
theorem zL_new (μ : zM) (t n w : Nat) : zL (znew μ t n w) = zL μ + w := rfl
/-- an instruction: its place, what it is, the next place, three numbers, and places in the tables or targets -/
abbrev zOp : Type := Nat × Instr × Nat × Nat × Nat × Nat × List Nat
/-- a place, locals, a stack, a memory -/
abbrev zCf : Type := Nat × List (Option Value) × List Value × zM
def zld (ls : List (Option Value)) (i : Nat) : Option Value := match ls[i]? with
  | some (some v) => some v
  | _ => none
def zcst (z x : Nat) : Int32 := if z = 1 then -nI x else nI x
/-- a value as a reference -/
def zopt (v : Value) : Option (Option Nat) := match v with
  | .null => some none
  | .ref a => some (some a)
  | _ => none
/-- one step that is no call, no return and no throw -/
noncomputable def zstep (de mi : Nat) (o : zOp) (ls : List (Option Value)) (st : List Value) (μ : zM) : Option zCf :=
  let n := o.2.2.1
  let x := o.2.2.2.1
  let y := o.2.2.2.2.1
  let z := o.2.2.2.2.2.1
  match o.2.1 with
  | .aconst_null => some (n, ls, .null :: st, μ)
  | .iconst _ => some (n, ls, .int (zcst z x) :: st, μ)
  | .bipush _ => some (n, ls, .int (zcst z x) :: st, μ)
  | .sipush _ => some (n, ls, .int (zcst z x) :: st, μ)
  | .ldc _ => if z = 5 then some (n, ls, .ref mi :: st, μ) else some (n, ls, .int (nI x) :: st, μ)
  | .iload_n _ => (match zld ls x with | some (.int v) => some (n, ls, .int v :: st, μ) | _ => none)
  | .iload _ => (match zld ls x with | some (.int v) => some (n, ls, .int v :: st, μ) | _ => none)
  | .aload_n _ => (match zld ls x with | some (.ref v) => some (n, ls, .ref v :: st, μ) | some .null => some (n, ls, .null :: st, μ) | _ => none)
  | .aload _ => (match zld ls x with | some (.ref v) => some (n, ls, .ref v :: st, μ) | some .null => some (n, ls, .null :: st, μ) | _ => none)
  | .istore_n _ => (match st with | .int v :: r => if x < ls.length then some (n, ls.set x (some (.int v)), r, μ) else none | _ => none)
  | .istore _ => (match st with | .int v :: r => if x < ls.length then some (n, ls.set x (some (.int v)), r, μ) else none | _ => none)
  | .astore_n _ => (match st with | .ref v :: r => if x < ls.length then some (n, ls.set x (some (.ref v)), r, μ) else none | .null :: r => if x < ls.length then some (n, ls.set x (some .null), r, μ) else none | _ => none)
  | .astore _ => (match st with | .ref v :: r => if x < ls.length then some (n, ls.set x (some (.ref v)), r, μ) else none | .null :: r => if x < ls.length then some (n, ls.set x (some .null), r, μ) else none | _ => none)
  | .iinc _ _ => (match zld ls x with | some (.int v) => if x < ls.length then some (n, ls.set x (some (.int (v + zcst z y))), st, μ) else none | _ => none)
  | .iadd => (match st with | .int w :: .int v :: r => some (n, ls, .int (v + w) :: r, μ) | _ => none)
  | .isub => (match st with | .int w :: .int v :: r => some (n, ls, .int (v - w) :: r, μ) | _ => none)
  | .imul => (match st with | .int w :: .int v :: r => some (n, ls, .int (v * w) :: r, μ) | _ => none)
  | .idiv => (match st with | .int w :: .int v :: r => if w = 0 then none else some (n, ls, .int (v / w) :: r, μ) | _ => none)
  | .irem => (match st with | .int w :: .int v :: r => if w = 0 then none else some (n, ls, .int (v - v / w * w) :: r, μ) | _ => none)
  | .ineg => (match st with | .int v :: r => some (n, ls, .int (-v) :: r, μ) | _ => none)
  | .iand => (match st with | .int w :: .int v :: r => some (n, ls, .int (v &&& w) :: r, μ) | _ => none)
  | .ior => (match st with | .int w :: .int v :: r => some (n, ls, .int (v ||| w) :: r, μ) | _ => none)
  | .ishl => (match st with | .int w :: .int v :: r => some (n, ls, .int (v <<< (w &&& 31)) :: r, μ) | _ => none)
  | .ishr => (match st with | .int w :: .int v :: r => some (n, ls, .int (v >>> (w &&& 31)) :: r, μ) | _ => none)
  | .iushr => (match st with | .int w :: .int v :: r => some (n, ls, .int (v.toUInt32 >>> (w.toUInt32 &&& Int32.toUInt32 31)).toInt32 :: r, μ) | _ => none)
  | .i2l => (match st with | .int v :: r => some (n, ls, .long v.toInt64 :: r, μ) | _ => none)
  | .lcmp => (match st with | .long w :: .long v :: r => some (n, ls, .int (lg_cmp v w) :: r, μ) | _ => none)
  | .dup => (match st with | v :: r => if v.category = 1 then some (n, ls, v :: v :: r, μ) else none | _ => none)
  | .dup_x1 => (match st with | v :: w :: r => if v.category = 1 ∧ w.category = 1 then some (n, ls, v :: w :: v :: r, μ) else none | _ => none)
  | .dup2 => (match st with | v :: w :: r => if v.category = 1 ∧ w.category = 1 then some (n, ls, v :: w :: v :: w :: r, μ) else none | _ => none)
  | .pop => (match st with | v :: r => if v.category = 1 then some (n, ls, r, μ) else none | _ => none)
  | .goto _ => some (x, ls, st, μ)
  | .ifCond c _ => (match st with
    | .int v :: r => (match c with
      | .eq => if v = 0 then some (x, ls, r, μ) else some (n, ls, r, μ)
      | .ne => if v ≠ 0 then some (x, ls, r, μ) else some (n, ls, r, μ)
      | .lt => if v < 0 then some (x, ls, r, μ) else some (n, ls, r, μ)
      | .ge => if 0 ≤ v then some (x, ls, r, μ) else some (n, ls, r, μ)
      | .gt => if 0 < v then some (x, ls, r, μ) else some (n, ls, r, μ)
      | .le => if v ≤ 0 then some (x, ls, r, μ) else some (n, ls, r, μ))
    | _ => none)
  | .if_icmp c _ => (match st with
    | .int w :: .int v :: r => (match c with
      | .eq => if v = w then some (x, ls, r, μ) else some (n, ls, r, μ)
      | .ne => if v ≠ w then some (x, ls, r, μ) else some (n, ls, r, μ)
      | .lt => if v < w then some (x, ls, r, μ) else some (n, ls, r, μ)
      | .ge => if w ≤ v then some (x, ls, r, μ) else some (n, ls, r, μ)
      | .gt => if w < v then some (x, ls, r, μ) else some (n, ls, r, μ)
      | .le => if v ≤ w then some (x, ls, r, μ) else some (n, ls, r, μ))
    | _ => none)
  | .if_acmp c _ => (match st with
    | w :: v :: r => (match zopt v, zopt w with
      | some rv, some rw => (match c with
        | .eq => if rv = rw then some (x, ls, r, μ) else some (n, ls, r, μ)
        | .ne => if rv ≠ rw then some (x, ls, r, μ) else some (n, ls, r, μ))
      | _, _ => none)
    | _ => none)
  | .ifnull _ => (match st with | .null :: r => some (x, ls, r, μ) | .ref _ :: r => some (n, ls, r, μ) | _ => none)
  | .ifnonnull _ => (match st with | .null :: r => some (n, ls, r, μ) | .ref _ :: r => some (x, ls, r, μ) | _ => none)
  | .getfield _ => (match st with | .ref a :: r => if zK μ a = (x + 1, 0) then some (n, ls, (if z = 1 then va_rf (zR μ a y) else .int (zI μ a y)) :: r, μ) else none | _ => none)
  | .putfield _ => (match st with
    | .int v :: .ref a :: r => if zK μ a = (x + 1, 0) ∧ (z = 0 ∨ (z = 2 ∧ (v = 0 ∨ v = 1))) then some (n, ls, r, zsI μ a y v) else none
    | .ref v :: .ref a :: r => if zK μ a = (x + 1, 0) ∧ z = 1 then some (n, ls, r, zsR μ a y (some v)) else none
    | .null :: .ref a :: r => if zK μ a = (x + 1, 0) ∧ z = 1 then some (n, ls, r, zsR μ a y none) else none
    | _ => none)
  | .new _ => some (n, ls, .ref (zS μ) :: st, znew μ (x + 1) 0 y)
  | .newarray _ => (match st with | .int k :: r => if ¬ k < 0 ∧ k.toNatClampNeg ≤ 1000 then some (n, ls, .ref (zS μ) :: r, znew μ x k.toNatClampNeg k.toNatClampNeg) else none | _ => none)
  | .anewarray _ => (match st with | .int k :: r => if ¬ k < 0 ∧ k.toNatClampNeg ≤ 1000 then some (n, ls, .ref (zS μ) :: r, znew μ x k.toNatClampNeg k.toNatClampNeg) else none | _ => none)
  | .arraylength => (match st with | .ref a :: r => if 9 ≤ (zK μ a).1 ∧ (zK μ a).1 ≤ 15 then some (n, ls, .int (nI (zK μ a).2) :: r, μ) else none | _ => none)
  | .iaload => (match st with | .int i :: .ref a :: r => if ((zK μ a).1 = 9 ∨ (zK μ a).1 = 14) ∧ ¬ i < 0 ∧ i.toNatClampNeg < (zK μ a).2 then some (n, ls, .int (zI μ a i.toNatClampNeg) :: r, μ) else none | _ => none)
  | .iastore => (match st with | .int v :: .int i :: .ref a :: r => if (zK μ a).1 = 9 ∧ ¬ i < 0 ∧ i.toNatClampNeg < (zK μ a).2 then some (n, ls, r, zsI μ a i.toNatClampNeg v) else none | _ => none)
  | .aaload => (match st with | .int i :: .ref a :: r => if ((zK μ a).1 = 11 ∨ (zK μ a).1 = 12) ∧ ¬ i < 0 ∧ i.toNatClampNeg < (zK μ a).2 then some (n, ls, va_rf (zR μ a i.toNatClampNeg) :: r, μ) else none | _ => none)
  | .aastore => (match st with
    | .ref v :: .int i :: .ref a :: r => if (((zK μ a).1 = 11 ∧ (zK μ v).1 = 2) ∨ ((zK μ a).1 = 12 ∧ 1 ≤ (zK μ v).1 ∧ (zK μ v).1 ≤ 8)) ∧ ¬ i < 0 ∧ i.toNatClampNeg < (zK μ a).2 then some (n, ls, r, zsR μ a i.toNatClampNeg (some v)) else none
    | .null :: .int i :: .ref a :: r => if ((zK μ a).1 = 11 ∨ (zK μ a).1 = 12) ∧ ¬ i < 0 ∧ i.toNatClampNeg < (zK μ a).2 then some (n, ls, r, zsR μ a i.toNatClampNeg none) else none
    | _ => none)
  | .checkcast _ => (match st with | .null :: r => some (n, ls, .null :: r, μ) | .ref a :: r => if zK μ a = (x + 1, 0) then some (n, ls, .ref a :: r, μ) else none | _ => none)
  | .getstatic _ => some (n, ls, .ref de :: st, μ)
  | .tableswitch _ _ _ _ => (match st with | .int v :: r => if ¬ v < 0 ∧ v.toNatClampNeg < o.2.2.2.2.2.2.length then some (o.2.2.2.2.2.2.getD v.toNatClampNeg 0, ls, r, μ) else some (x, ls, r, μ) | _ => none)
  | .invokevirtual _ => if z = 215 then (match st with | .ref a :: r => if (zK μ a).1 = 12 ∧ r.length ≤ 4 then some (n, ls, .ref mi :: r, μ) else none | _ => none) else none
  | .invokespecial _ => if z = 210 then (match st with | .ref _ :: r => if r.length ≤ 4 then some (n, ls, r, μ) else none | _ => none) else none
  | .invokestatic _ =>
    if z = 211 then (match st with | .int w :: .int v :: r => if r.length ≤ 4 then some (n, ls, .int (if v < w then w else v) :: r, μ) else none | _ => none)
    else if z = 212 then (match st with | .int w :: .int v :: r => if r.length ≤ 4 then some (n, ls, .int (if w < v then w else v) :: r, μ) else none | _ => none)
    else if z = 213 then (match st with | .int v :: r => if r.length ≤ 4 then some (n, ls, .int (if 0 ≤ v then v else 0 - v) :: r, μ) else none | _ => none)
    else if z = 214 then (match st with
      | .int k :: .int dp :: .ref b :: .int sp :: .ref a :: r =>
        @ite _ (r.length ≤ 4 ∧ (zK μ a).1 = 12 ∧ (zK μ b).1 = 12 ∧ ¬ sp < 0 ∧ ¬ dp < 0 ∧ ¬ k < 0 ∧ sp.toNatClampNeg + k.toNatClampNeg ≤ (zK μ a).2 ∧ dp.toNatClampNeg + k.toNatClampNeg ≤ (zK μ b).2 ∧ ∃ t, t < 8 ∧ ∀ i v, i < k.toNatClampNeg → zR μ a (sp.toNatClampNeg + i) = some v → zK μ v = (t + 1, 0)) (Classical.propDecidable _)
        (some (n, ls, r, zsW μ b (va_cpy (zR μ a) (zR μ b) sp.toNatClampNeg dp.toNatClampNeg k.toNatClampNeg))) none
      | _ => none)
    else none
  | _ => none
/-- what an instruction is to the run: 0 a step, 1 an end, 2 a call, 3 a throw -/
def zsort (o : zOp) : Nat := match o.2.1 with
  | .ireturn => 1
  | .areturn => 1
  | .return_ => 1
  | .new _ => if o.2.2.2.2.2.1 = 9 then 3 else 0
  | .invokevirtual _ => if o.2.2.2.2.2.1 = 100 then 2 else 0
  | .invokespecial _ => if o.2.2.2.2.2.1 = 101 then 2 else 0
  | .invokestatic _ => if o.2.2.2.2.2.1 = 102 ∨ o.2.2.2.2.2.1 = 103 ∨ o.2.2.2.2.2.1 = 104 then 2 else 0
  | _ => 0
abbrev zRes : Type := Option Value ⊕ Nat
def zfin (o : zOp) (st : List Value) : Option zRes := match o.2.1 with
  | .ireturn => (match st with | [.int v] => if o.2.2.2.2.2.1 = 2 then (if v = 0 ∨ v = 1 then some (.inl (some (.int v))) else none) else some (.inl (some (.int v))) | _ => none)
  | .areturn => (match st with | [.ref a] => some (.inl (some (.ref a))) | [.null] => some (.inl (some .null)) | _ => none)
  | .return_ => (match st with | [] => some (.inl none) | _ => none)
  | _ => none
/-- a call's values and what stays on the stack -/
def zargs (o : zOp) (st : List Value) (μ : zM) : Option (List Value × List Value) :=
  let k := o.2.2.2.2.1
  let z := o.2.2.2.2.2.1
  if st.length < k ∨ 4 + k < st.length ∨ (st.take k).all (fun v => v.category == 1) = false then none
  else if z = 100 then (match (st.take k).reverse with | .ref b :: as => if zK μ b = (o.2.2.2.2.2.2.getD 0 0 + 1, 0) then some (.ref b :: as, st.drop k) else none | _ => none)
  else if z = 101 then (match (st.take k).reverse with | .ref b :: as => some (.ref b :: as, st.drop k) | _ => none)
  else some ((st.take k).reverse, st.drop k)
def zent (nL : Nat) (as : List Value) : List (Option Value) := as.map some ++ List.replicate (nL - as.length) none
/-- who takes E, thrown at pc -/
def zfind (tb : List (Nat × Nat × Nat × Nat)) (pc E : Nat) : Option Nat := match tb with
  | [] => none
  | q :: r => if q.1 ≤ pc ∧ pc < q.2.1 ∧ q.2.2.2 = E then some q.2.2.1 else zfind r pc E
def zgo (code : Nat → Nat → Option zOp) (y h : Nat) : Option (Nat × Nat) := match code y h with
  | some (_, .astore_n _, n, x, _) => some (n, x)
  | some (_, .astore _, n, x, _) => some (n, x)
  | _ => none
/-- the run: method y from pc on -/
noncomputable def zrun (code : Nat → Nat → Option zOp) (nL : Nat → Nat) (tb : Nat → List (Nat × Nat × Nat × Nat)) (de mi : Nat) : Nat → Nat → Nat → List (Option Value) → List Value → zM → Option (zRes × zM)
  | 0, _, _, _, _, _ => none
  | f + 1, y, pc, ls, st, μ => match code y pc with
    | none => none
    | some o =>
      if zsort o = 1 then (match zfin o st with | some r => some (r, μ) | none => none)
      else if zsort o = 3 then some (.inr o.2.2.2.1, znew μ 0 0 6)
      else if zsort o = 2 then (match zargs o st μ with
        | none => none
        | some (as, rest) => (match zrun code nL tb de mi f o.2.2.2.1 0 (zent (nL o.2.2.2.1) as) [] μ with
          | none => none
          | some (.inl v, μ1) => zrun code nL tb de mi f y o.2.2.1 ls (v.toList ++ rest) μ1
          | some (.inr E, μ1) => (match zfind (tb y) pc E with
            | none => some (.inr E, μ1)
            | some h => (match zgo code y h with
              | none => none
              | some (n, x) => if x < ls.length then zrun code nL tb de mi f y n (ls.set x none) [] μ1 else none))))
      else (match zstep de mi o ls st μ with
        | none => none
        | some c => zrun code nL tb de mi f y c.1 c.2.1 c.2.2.1 c.2.2.2)
/-- from here the run ends with Q -/
def zW (code : Nat → Nat → Option zOp) (nL : Nat → Nat) (tb : Nat → List (Nat × Nat × Nat × Nat)) (de mi : Nat) (y pc : Nat) (ls : List (Option Value)) (st : List Value) (μ : zM) (Q : zRes → zM → Prop) : Prop :=
  ∃ f r μ', zrun code nL tb de mi f y pc ls st μ = some (r, μ') ∧ Q r μ'
end
section
/-! ===== THE PROGRAM AS DATA, by program (wip/p25/gen04.py) out of the printed names and tables ===== -/
def zb0 : List zOp := [(0, .aload_n 0, 1, 0, 0, 0, []),
  (1, .invokespecial 3, 4, 0, 0, 210, [268, 51, 52]),
  (4, .aload_n 0, 5, 0, 0, 0, []),
  (5, .iload_n 1, 6, 1, 0, 0, []),
  (6, .putfield 9, 9, 1, 0, 0, [271]),
  (9, .aload_n 0, 10, 0, 0, 0, []),
  (10, .iload_n 2, 11, 2, 0, 0, []),
  (11, .putfield 15, 14, 1, 4, 0, [279]),
  (14, .aload_n 0, 15, 0, 0, 0, []),
  (15, .iload_n 3, 16, 3, 0, 0, []),
  (16, .putfield 18, 19, 1, 5, 0, [281]),
  (19, .aload_n 0, 20, 0, 0, 0, []),
  (20, .iload 4, 22, 4, 0, 0, []),
  (22, .putfield 21, 25, 1, 1, 0, [273]),
  (25, .aload_n 0, 26, 0, 0, 0, []),
  (26, .iload 5, 28, 5, 0, 0, []),
  (28, .putfield 24, 31, 1, 6, 0, [283]),
  (31, .aload_n 0, 32, 0, 0, 0, []),
  (32, .new 27, 35, 0, 3, 0, [269, 54, 27]),
  (35, .dup, 36, 0, 0, 0, []),
  (36, .invokespecial 29, 39, 57, 1, 101, [0, 270, 56, 0, 57, 27]),
  (39, .putfield 30, 42, 1, 2, 1, [275]),
  (42, .return_, 43, 0, 0, 0, [])]
def zb1 : List zOp := [(0, .iconst 0, 1, 0, 0, 0, []),
  (1, .istore_n 2, 2, 2, 0, 0, []),
  (2, .iconst 0, 3, 0, 0, 0, []),
  (3, .istore_n 3, 4, 3, 0, 0, []),
  (4, .iload_n 3, 5, 3, 0, 0, []),
  (5, .aload_n 0, 6, 0, 0, 0, []),
  (6, .getfield 30, 9, 1, 2, 1, [275]),
  (9, .invokevirtual 34, 12, 60, 1, 100, [0, 412, 131, 132, 133, 27]),
  (12, .if_icmp .ge 43, 15, 55, 0, 0, []),
  (15, .aload_n 0, 16, 0, 0, 0, []),
  (16, .getfield 30, 19, 1, 2, 1, [275]),
  (19, .iload_n 3, 20, 3, 0, 0, []),
  (20, .invokevirtual 38, 23, 62, 2, 100, [0, 413, 135, 136, 137, 27]),
  (23, .checkcast 42, 26, 2, 0, 0, [414]),
  (26, .astore 4, 28, 4, 0, 0, []),
  (28, .aload 4, 30, 4, 0, 0, []),
  (30, .getfield 44, 33, 2, 1, 0, [394]),
  (33, .iconst 1, 34, 1, 0, 0, []),
  (34, .if_icmp .ne 15, 37, 49, 0, 0, []),
  (37, .aload 4, 39, 4, 0, 0, []),
  (39, .getfield 47, 42, 2, 0, 1, [391]),
  (42, .aload_n 1, 43, 1, 0, 0, []),
  (43, .if_acmp .ne 6, 46, 49, 0, 0, []),
  (46, .iinc 2 1, 49, 2, 1, 0, []),
  (49, .iinc 3 1, 52, 3, 1, 0, []),
  (52, .goto (-48), 55, 4, 0, 0, []),
  (55, .iload_n 2, 56, 2, 0, 0, []),
  (56, .ireturn, 57, 0, 0, 0, [])]
def zb2 : List zOp := [(0, .iconst 0, 1, 0, 0, 0, []),
  (1, .istore_n 1, 2, 1, 0, 0, []),
  (2, .iconst 0, 3, 0, 0, 0, []),
  (3, .istore_n 2, 4, 2, 0, 0, []),
  (4, .iload_n 2, 5, 2, 0, 0, []),
  (5, .aload_n 0, 6, 0, 0, 0, []),
  (6, .getfield 30, 9, 1, 2, 1, [275]),
  (9, .invokevirtual 34, 12, 60, 1, 100, [0, 412, 131, 132, 133, 27]),
  (12, .if_icmp .ge 59, 15, 71, 0, 0, []),
  (15, .aload_n 0, 16, 0, 0, 0, []),
  (16, .getfield 30, 19, 1, 2, 1, [275]),
  (19, .iload_n 2, 20, 2, 0, 0, []),
  (20, .invokevirtual 38, 23, 62, 2, 100, [0, 413, 135, 136, 137, 27]),
  (23, .checkcast 42, 26, 2, 0, 0, [414]),
  (26, .astore_n 3, 27, 3, 0, 0, []),
  (27, .aload_n 3, 28, 3, 0, 0, []),
  (28, .getfield 47, 31, 2, 0, 1, [391]),
  (31, .astore 4, 33, 4, 0, 0, []),
  (33, .aload_n 3, 34, 3, 0, 0, []),
  (34, .getfield 44, 37, 2, 1, 0, [394]),
  (37, .iconst 2, 38, 2, 0, 0, []),
  (38, .if_icmp .eq 27, 41, 65, 0, 0, []),
  (41, .aload 4, 43, 4, 0, 0, []),
  (43, .getfield 51, 46, 1, 8, 0, [286]),
  (46, .ifCond .ne 19, 49, 65, 0, 0, []),
  (49, .aload 4, 51, 4, 0, 0, []),
  (51, .getfield 24, 54, 1, 6, 0, [283]),
  (54, .ifCond .le 11, 57, 65, 0, 0, []),
  (57, .aload 4, 59, 4, 0, 0, []),
  (59, .iconst 1, 60, 1, 0, 0, []),
  (60, .putfield 51, 63, 1, 8, 2, [286]),
  (63, .iconst 1, 64, 1, 0, 0, []),
  (64, .istore_n 1, 65, 1, 0, 0, []),
  (65, .iinc 2 1, 68, 2, 1, 0, []),
  (68, .goto (-64), 71, 4, 0, 0, []),
  (71, .iload_n 1, 72, 1, 0, 0, []),
  (72, .ireturn, 73, 0, 0, 2, [])]
def zb3 : List zOp := [(0, .aload_n 0, 1, 0, 0, 0, []),
  (1, .getfield 15, 4, 1, 4, 0, [279]),
  (4, .aload_n 0, 5, 0, 0, 0, []),
  (5, .getfield 18, 8, 1, 5, 0, [281]),
  (8, .iadd, 9, 0, 0, 0, []),
  (9, .invokestatic 55, 12, 38, 1, 103, [0, 442, 221, 0, 222, 24]),
  (12, .ifCond .eq 19, 15, 31, 0, 0, []),
  (15, .aload_n 0, 16, 0, 0, 0, []),
  (16, .dup, 17, 0, 0, 0, []),
  (17, .getfield 15, 20, 1, 4, 0, [279]),
  (20, .aload_n 0, 21, 0, 0, 0, []),
  (21, .getfield 18, 24, 1, 5, 0, [281]),
  (24, .iadd, 25, 0, 0, 0, []),
  (25, .putfield 15, 28, 1, 4, 0, [279]),
  (28, .goto 12, 31, 40, 0, 0, []),
  (31, .aload_n 0, 32, 0, 0, 0, []),
  (32, .aload_n 0, 33, 0, 0, 0, []),
  (33, .getfield 18, 36, 1, 5, 0, [281]),
  (36, .ineg, 37, 0, 0, 0, []),
  (37, .putfield 18, 40, 1, 5, 0, [281]),
  (40, .return_, 41, 0, 0, 0, [])]
def zb4 : List zOp := [(0, .aload_n 0, 1, 0, 0, 0, []),
  (1, .invokespecial 1, 4, 0, 0, 210, [389, 51, 52]),
  (4, .aload_n 0, 5, 0, 0, 0, []),
  (5, .aload_n 1, 6, 1, 0, 0, []),
  (6, .putfield 7, 9, 2, 0, 1, [390]),
  (9, .aload_n 0, 10, 0, 0, 0, []),
  (10, .iload_n 2, 11, 2, 0, 0, []),
  (11, .putfield 13, 14, 2, 1, 0, [393]),
  (14, .return_, 15, 0, 0, 0, [])]
def zb5 : List zOp := [(0, .aload_n 0, 1, 0, 0, 0, []),
  (1, .invokespecial 3, 4, 0, 0, 210, [84, 51, 52]),
  (4, .aload_n 0, 5, 0, 0, 0, []),
  (5, .bipush 12, 7, 12, 0, 0, []),
  (7, .anewarray 9, 10, 11, 0, 0, [85, 86]),
  (10, .putfield 11, 13, 3, 0, 1, [87]),
  (13, .aload_n 0, 14, 0, 0, 0, []),
  (14, .bipush 12, 16, 12, 0, 0, []),
  (16, .newarray .int, 18, 9, 0, 0, [98]),
  (18, .putfield 15, 21, 3, 1, 1, [88]),
  (21, .aload_n 0, 22, 0, 0, 0, []),
  (22, .bipush 12, 24, 12, 0, 0, []),
  (24, .putfield 19, 27, 3, 2, 0, [90]),
  (27, .return_, 28, 0, 0, 0, [])]
def zb6 : List zOp := [(0, .iconst 0, 1, 0, 0, 0, []),
  (1, .istore_n 1, 2, 1, 0, 0, []),
  (2, .iconst 0, 3, 0, 0, 0, []),
  (3, .istore_n 2, 4, 2, 0, 0, []),
  (4, .iload_n 2, 5, 2, 0, 0, []),
  (5, .bipush 12, 7, 12, 0, 0, []),
  (7, .if_icmp .ge 21, 10, 28, 0, 0, []),
  (10, .aload_n 0, 11, 0, 0, 0, []),
  (11, .getfield 11, 14, 3, 0, 1, [87]),
  (14, .iload_n 2, 15, 2, 0, 0, []),
  (15, .aaload, 16, 0, 0, 0, []),
  (16, .ifnonnull 6, 19, 22, 0, 0, []),
  (19, .iinc 1 1, 22, 1, 1, 0, []),
  (22, .iinc 2 1, 25, 2, 1, 0, []),
  (25, .goto (-21), 28, 4, 0, 0, []),
  (28, .iload_n 1, 29, 1, 0, 0, []),
  (29, .ireturn, 30, 0, 0, 0, [])]
def zb7 : List zOp := [(0, .aload_n 0, 1, 0, 0, 0, []),
  (1, .invokevirtual 23, 4, 6, 1, 100, [3, 319, 320, 321, 322, 28]),
  (4, .ifCond .ne 8, 7, 12, 0, 0, []),
  (7, .aload_n 0, 8, 0, 0, 0, []),
  (8, .invokevirtual 27, 11, 8, 1, 100, [3, 323, 324, 325, 326, 28]),
  (11, .pop, 12, 0, 0, 0, []),
  (12, .iconst 0, 13, 0, 0, 0, []),
  (13, .istore_n 2, 14, 2, 0, 0, []),
  (14, .iload_n 2, 15, 2, 0, 0, []),
  (15, .bipush 12, 17, 12, 0, 0, []),
  (17, .if_icmp .ge 51, 20, 68, 0, 0, []),
  (20, .aload_n 0, 21, 0, 0, 0, []),
  (21, .getfield 11, 24, 3, 0, 1, [87]),
  (24, .iload_n 2, 25, 2, 0, 0, []),
  (25, .aaload, 26, 0, 0, 0, []),
  (26, .ifnonnull 36, 29, 62, 0, 0, []),
  (29, .aload_n 0, 30, 0, 0, 0, []),
  (30, .getfield 11, 33, 3, 0, 1, [87]),
  (33, .iload_n 2, 34, 2, 0, 0, []),
  (34, .aload_n 1, 35, 1, 0, 0, []),
  (35, .aastore, 36, 0, 0, 0, []),
  (36, .aload_n 0, 37, 0, 0, 0, []),
  (37, .getfield 15, 40, 3, 1, 1, [88]),
  (40, .iload_n 2, 41, 2, 0, 0, []),
  (41, .dup2, 42, 0, 0, 0, []),
  (42, .iaload, 43, 0, 0, 0, []),
  (43, .iconst 1, 44, 1, 0, 0, []),
  (44, .iadd, 45, 0, 0, 0, []),
  (45, .iastore, 46, 0, 0, 0, []),
  (46, .aload_n 1, 47, 1, 0, 0, []),
  (47, .bipush 100, 49, 100, 0, 0, []),
  (49, .aload_n 0, 50, 0, 0, 0, []),
  (50, .getfield 15, 53, 3, 1, 1, [88]),
  (53, .iload_n 2, 54, 2, 0, 0, []),
  (54, .iaload, 55, 0, 0, 0, []),
  (55, .imul, 56, 0, 0, 0, []),
  (56, .iload_n 2, 57, 2, 0, 0, []),
  (57, .iadd, 58, 0, 0, 0, []),
  (58, .putfield 30, 61, 1, 3, 0, [278]),
  (61, .return_, 62, 0, 0, 0, []),
  (62, .iinc 2 1, 65, 2, 1, 0, []),
  (65, .goto (-51), 68, 14, 0, 0, []),
  (68, .return_, 69, 0, 0, 0, [])]
def zb8 : List zOp := [(0, .iconst 0, 1, 0, 0, 0, []),
  (1, .istore_n 1, 2, 1, 0, 0, []),
  (2, .iconst 0, 3, 0, 0, 0, []),
  (3, .istore_n 2, 4, 2, 0, 0, []),
  (4, .iload_n 2, 5, 2, 0, 0, []),
  (5, .bipush 12, 7, 12, 0, 0, []),
  (7, .if_icmp .ge 37, 10, 44, 0, 0, []),
  (10, .aload_n 0, 11, 0, 0, 0, []),
  (11, .getfield 11, 14, 3, 0, 1, [87]),
  (14, .iload_n 2, 15, 2, 0, 0, []),
  (15, .aaload, 16, 0, 0, 0, []),
  (16, .astore_n 3, 17, 3, 0, 0, []),
  (17, .aload_n 3, 18, 3, 0, 0, []),
  (18, .ifnull 20, 21, 38, 0, 0, []),
  (21, .aload_n 3, 22, 3, 0, 0, []),
  (22, .getfield 33, 25, 1, 8, 0, [287]),
  (25, .ifCond .ne 13, 28, 38, 0, 0, []),
  (28, .aload_n 0, 29, 0, 0, 0, []),
  (29, .getfield 11, 32, 3, 0, 1, [87]),
  (32, .iload_n 2, 33, 2, 0, 0, []),
  (33, .aconst_null, 34, 0, 0, 0, []),
  (34, .aastore, 35, 0, 0, 0, []),
  (35, .iinc 1 1, 38, 1, 1, 0, []),
  (38, .iinc 2 1, 41, 2, 1, 0, []),
  (41, .goto (-37), 44, 4, 0, 0, []),
  (44, .aload_n 0, 45, 0, 0, 0, []),
  (45, .bipush 12, 47, 12, 0, 0, []),
  (47, .putfield 19, 50, 3, 2, 0, [90]),
  (50, .iload_n 1, 51, 1, 0, 0, []),
  (51, .ireturn, 52, 0, 0, 0, [])]
def zb9 : List zOp := [(0, .iload_n 1, 1, 1, 0, 0, []),
  (1, .istore_n 2, 2, 2, 0, 0, []),
  (2, .iconst 0, 3, 0, 0, 0, []),
  (3, .istore_n 3, 4, 3, 0, 0, []),
  (4, .iload_n 3, 5, 3, 0, 0, []),
  (5, .iload_n 1, 6, 1, 0, 0, []),
  (6, .if_icmp .ge 41, 9, 47, 0, 0, []),
  (9, .aload_n 0, 10, 0, 0, 0, []),
  (10, .getfield 19, 13, 3, 2, 0, [90]),
  (13, .bipush 12, 15, 12, 0, 0, []),
  (15, .if_icmp .ge 7, 18, 22, 0, 0, []),
  (18, .iconst 1, 19, 1, 0, 0, []),
  (19, .goto 4, 22, 23, 0, 0, []),
  (22, .iconst 4, 23, 4, 0, 0, []),
  (23, .istore 4, 25, 4, 0, 0, []),
  (25, .iload 4, 27, 4, 0, 0, []),
  (27, .iload_n 2, 28, 2, 0, 0, []),
  (28, .if_icmp .le 4, 31, 32, 0, 0, []),
  (31, .return_, 32, 0, 0, 0, []),
  (32, .iload_n 2, 33, 2, 0, 0, []),
  (33, .iload 4, 35, 4, 0, 0, []),
  (35, .isub, 36, 0, 0, 0, []),
  (36, .istore_n 2, 37, 2, 0, 0, []),
  (37, .aload_n 0, 38, 0, 0, 0, []),
  (38, .invokevirtual 37, 41, 10, 1, 100, [3, 459, 461, 16, 462, 28]),
  (41, .iinc 3 1, 44, 3, 1, 0, []),
  (44, .goto (-40), 47, 4, 0, 0, []),
  (47, .return_, 48, 0, 0, 0, [])]
def zb10 : List zOp := [(0, .aload_n 0, 1, 0, 0, 0, []),
  (1, .getfield 19, 4, 3, 2, 0, [90]),
  (4, .ifCond .lt 33, 7, 37, 0, 0, []),
  (7, .aload_n 0, 8, 0, 0, 0, []),
  (8, .getfield 19, 11, 3, 2, 0, [90]),
  (11, .bipush 12, 13, 12, 0, 0, []),
  (13, .if_icmp .ge 24, 16, 37, 0, 0, []),
  (16, .aload_n 0, 17, 0, 0, 0, []),
  (17, .aload_n 0, 18, 0, 0, 0, []),
  (18, .getfield 19, 21, 3, 2, 0, [90]),
  (21, .invokevirtual 40, 24, 12, 2, 100, [3, 463, 465, 17, 466, 28]),
  (24, .aload_n 0, 25, 0, 0, 0, []),
  (25, .dup, 26, 0, 0, 0, []),
  (26, .getfield 19, 29, 3, 2, 0, [90]),
  (29, .iconst 1, 30, 1, 0, 0, []),
  (30, .iadd, 31, 0, 0, 0, []),
  (31, .putfield 19, 34, 3, 2, 0, [90]),
  (34, .goto 12, 37, 46, 0, 0, []),
  (37, .aload_n 0, 38, 0, 0, 0, []),
  (38, .invokevirtual 44, 41, 11, 1, 100, [3, 467, 469, 18, 470, 28]),
  (41, .aload_n 0, 42, 0, 0, 0, []),
  (42, .iconst 0, 43, 0, 0, 0, []),
  (43, .putfield 19, 46, 3, 2, 0, [90]),
  (46, .return_, 47, 0, 0, 0, [])]
def zb11 : List zOp := [(0, .iconst 0, 1, 0, 0, 0, []),
  (1, .istore_n 1, 2, 1, 0, 0, []),
  (2, .iload_n 1, 3, 1, 0, 0, []),
  (3, .bipush 12, 5, 12, 0, 0, []),
  (5, .if_icmp .ge 32, 8, 37, 0, 0, []),
  (8, .aload_n 0, 9, 0, 0, 0, []),
  (9, .getfield 11, 12, 3, 0, 1, [87]),
  (12, .iload_n 1, 13, 1, 0, 0, []),
  (13, .aaload, 14, 0, 0, 0, []),
  (14, .astore_n 2, 15, 2, 0, 0, []),
  (15, .aload_n 2, 16, 2, 0, 0, []),
  (16, .ifnull 15, 19, 31, 0, 0, []),
  (19, .aload_n 2, 20, 2, 0, 0, []),
  (20, .getfield 33, 23, 1, 8, 0, [287]),
  (23, .ifCond .ne 8, 26, 31, 0, 0, []),
  (26, .aload_n 2, 27, 2, 0, 0, []),
  (27, .iconst 1, 28, 1, 0, 0, []),
  (28, .putfield 47, 31, 1, 9, 2, [289]),
  (31, .iinc 1 1, 34, 1, 1, 0, []),
  (34, .goto (-32), 37, 2, 0, 0, []),
  (37, .return_, 38, 0, 0, 0, [])]
def zb12 : List zOp := [(0, .aload_n 0, 1, 0, 0, 0, []),
  (1, .getfield 11, 4, 3, 0, 1, [87]),
  (4, .iload_n 1, 5, 1, 0, 0, []),
  (5, .aaload, 6, 0, 0, 0, []),
  (6, .astore_n 2, 7, 2, 0, 0, []),
  (7, .aload_n 2, 8, 2, 0, 0, []),
  (8, .ifnull 17, 11, 25, 0, 0, []),
  (11, .aload_n 2, 12, 2, 0, 0, []),
  (12, .getfield 47, 15, 1, 9, 0, [289]),
  (15, .ifCond .eq 10, 18, 25, 0, 0, []),
  (18, .aload_n 0, 19, 0, 0, 0, []),
  (19, .getfield 11, 22, 3, 0, 1, [87]),
  (22, .iload_n 1, 23, 1, 0, 0, []),
  (23, .aconst_null, 24, 0, 0, 0, []),
  (24, .aastore, 25, 0, 0, 0, []),
  (25, .return_, 26, 0, 0, 0, [])]
def zb13 : List zOp := [(0, .aload_n 0, 1, 0, 0, 0, []),
  (1, .invokespecial 1, 4, 0, 0, 210, [622, 51, 52]),
  (4, .aload_n 0, 5, 0, 0, 0, []),
  (5, .aload_n 1, 6, 1, 0, 0, []),
  (6, .putfield 7, 9, 4, 0, 1, [623]),
  (9, .aload_n 0, 10, 0, 0, 0, []),
  (10, .iload_n 2, 11, 2, 0, 0, []),
  (11, .putfield 13, 14, 4, 1, 0, [625]),
  (14, .return_, 15, 0, 0, 0, [])]
def zb14 : List zOp := [(0, .aload_n 0, 1, 0, 0, 0, []),
  (1, .invokespecial 1, 4, 0, 0, 210, [528, 51, 52]),
  (4, .aload_n 0, 5, 0, 0, 0, []),
  (5, .iload_n 1, 6, 1, 0, 0, []),
  (6, .putfield 7, 9, 5, 0, 0, [529]),
  (9, .aload_n 0, 10, 0, 0, 0, []),
  (10, .iload_n 2, 11, 2, 0, 0, []),
  (11, .putfield 13, 14, 5, 1, 0, [531]),
  (14, .aload_n 0, 15, 0, 0, 0, []),
  (15, .iload_n 3, 16, 3, 0, 0, []),
  (16, .putfield 16, 19, 5, 2, 0, [533]),
  (19, .aload_n 0, 20, 0, 0, 0, []),
  (20, .iload 4, 22, 4, 0, 0, []),
  (22, .putfield 19, 25, 5, 3, 0, [535]),
  (25, .aload_n 0, 26, 0, 0, 0, []),
  (26, .iload 5, 28, 5, 0, 0, []),
  (28, .putfield 22, 31, 5, 4, 0, [537]),
  (31, .return_, 32, 0, 0, 0, [])]
def zb15 : List zOp := [(0, .aload_n 0, 1, 0, 0, 0, []),
  (1, .invokespecial 1, 4, 0, 0, 210, [50, 51, 52]),
  (4, .aload_n 0, 5, 0, 0, 0, []),
  (5, .new 7, 8, 0, 3, 0, [53, 54, 27]),
  (8, .dup, 9, 0, 0, 0, []),
  (9, .invokespecial 9, 12, 57, 1, 101, [0, 55, 56, 0, 57, 27]),
  (12, .putfield 10, 15, 6, 0, 1, [99]),
  (15, .aload_n 0, 16, 0, 0, 0, []),
  (16, .new 16, 19, 3, 3, 0, [79, 80, 28]),
  (19, .dup, 20, 0, 0, 0, []),
  (20, .invokespecial 18, 23, 5, 1, 101, [0, 81, 82, 0, 83, 28]),
  (23, .putfield 19, 26, 6, 1, 1, [100]),
  (26, .aload_n 0, 27, 0, 0, 0, []),
  (27, .new 7, 30, 0, 3, 0, [53, 54, 27]),
  (30, .dup, 31, 0, 0, 0, []),
  (31, .invokespecial 9, 34, 57, 1, 101, [0, 55, 56, 0, 57, 27]),
  (34, .putfield 23, 37, 6, 2, 1, [101]),
  (37, .aload_n 0, 38, 0, 0, 0, []),
  (38, .new 7, 41, 0, 3, 0, [53, 54, 27]),
  (41, .dup, 42, 0, 0, 0, []),
  (42, .invokespecial 9, 45, 57, 1, 101, [0, 55, 56, 0, 57, 27]),
  (45, .putfield 26, 48, 6, 3, 1, [102]),
  (48, .return_, 49, 0, 0, 0, [])]
def zb16_0 : List zOp := [(0, .iload_n 1, 1, 1, 0, 0, []),
  (1, .iconst (-1), 2, 1, 0, 1, []),
  (2, .if_icmp .ne 7, 5, 9, 0, 0, []),
  (5, .aconst_null, 6, 0, 0, 0, []),
  (6, .goto 8, 9, 14, 0, 0, []),
  (9, .aload_n 0, 10, 0, 0, 0, []),
  (10, .iload_n 1, 11, 1, 0, 0, []),
  (11, .invokevirtual 29, 14, 41, 2, 100, [6, 122, 124, 0, 125, 24]),
  (14, .astore 6, 16, 6, 0, 0, []),
  (16, .iload_n 2, 17, 2, 0, 0, []),
  (17, .iload_n 3, 18, 3, 0, 0, []),
  (18, .iload 4, 20, 4, 0, 0, []),
  (20, .iload 5, 22, 5, 0, 0, []),
  (22, .invokestatic 33, 25, 39, 4, 102, [0, 217, 218, 0, 219, 24]),
  (25, .ifCond .ne 13, 28, 38, 0, 0, []),
  (28, .new 37, 31, 1, 39, 9, [41, 223, 36, 232]),
  (38, .aload_n 0, 39, 0, 0, 0, []),
  (39, .invokevirtual 44, 42, 44, 1, 100, [6, 239, 241, 3, 242, 24]),
  (42, .ifCond .ne 13, 45, 55, 0, 0, []),
  (45, .new 48, 48, 2, 50, 9, [52, 247, 37, 256]),
  (55, .aload 6, 57, 6, 0, 0, []),
  (57, .ifnull 25, 60, 82, 0, 0, []),
  (60, .aload 6, 62, 6, 0, 0, []),
  (62, .getfield 53, 65, 1, 2, 1, [276]),
  (65, .invokevirtual 58, 68, 60, 1, 100, [0, 130, 131, 132, 133, 27]),
  (68, .iconst 3, 69, 3, 0, 0, []),
  (69, .if_icmp .lt 13, 72, 82, 0, 0, []),
  (72, .new 48, 75, 2, 62, 9, [52, 247, 37, 263]),
  (82, .aload_n 0, 83, 0, 0, 0, []),
  (83, .new 54, 86, 1, 10, 0, [148, 264, 38]),
  (86, .dup, 87, 0, 0, 0, []),
  (87, .aload_n 0, 88, 0, 0, 0, []),
  (88, .getfield 10, 91, 6, 0, 1, [99]),
  (91, .invokevirtual 58, 94, 60, 1, 100, [0, 130, 131, 132, 133, 27]),
  (94, .iload_n 2, 95, 2, 0, 0, []),
  (95, .iload_n 3, 96, 3, 0, 0, []),
  (96, .iload 4, 98, 4, 0, 0, []),
  (98, .iload 5, 100, 5, 0, 0, []),
  (100, .invokespecial 64, 103, 0, 6, 101, [0, 265, 266, 0, 267, 38]),
  (103, .invokevirtual 67, 106, 45, 2, 100, [6, 311, 313, 5, 314, 24]),
  (106, .astore 7, 108, 7, 0, 0, []),
  (108, .aload 6, 110, 6, 0, 0, []),
  (110, .ifnonnull 12, 113, 122, 0, 0, []),
  (113, .aload 7, 115, 7, 0, 0, []),
  (115, .iconst 1, 116, 1, 0, 0, [])]
def zb16_1 : List zOp := [(116, .putfield 71, 119, 1, 7, 2, [285]),
  (119, .goto 22, 122, 141, 0, 0, []),
  (122, .aload 6, 124, 6, 0, 0, []),
  (124, .getfield 53, 127, 1, 2, 1, [276]),
  (127, .new 75, 130, 2, 2, 0, [384, 385, 42]),
  (130, .dup, 131, 0, 0, 0, []),
  (131, .aload 7, 133, 7, 0, 0, []),
  (133, .iconst 0, 134, 0, 0, 0, []),
  (134, .invokespecial 77, 137, 4, 3, 101, [0, 386, 387, 0, 388, 42]),
  (137, .invokevirtual 80, 140, 64, 2, 100, [0, 327, 328, 329, 330, 27]),
  (140, .pop, 141, 0, 0, 0, []),
  (141, .aload_n 0, 142, 0, 0, 0, []),
  (142, .invokevirtual 84, 145, 46, 1, 100, [6, 400, 402, 9, 403, 24]),
  (145, .aload 7, 147, 7, 0, 0, []),
  (147, .getfield 87, 150, 1, 3, 0, [277]),
  (150, .ireturn, 151, 0, 0, 0, [])]
def zb16 : List zOp := zb16_0 ++ (zb16_1)
def zb17 : List zOp := [(0, .aload_n 0, 1, 0, 0, 0, []),
  (1, .iload_n 1, 2, 1, 0, 0, []),
  (2, .invokevirtual 29, 5, 41, 2, 100, [6, 122, 124, 0, 125, 24]),
  (5, .astore_n 2, 6, 2, 0, 0, []),
  (6, .aload_n 2, 7, 2, 0, 0, []),
  (7, .getfield 71, 10, 1, 7, 0, [285]),
  (10, .ifCond .ne 13, 13, 23, 0, 0, []),
  (13, .new 48, 16, 2, 91, 9, [52, 247, 37, 557]),
  (23, .aload_n 2, 24, 2, 0, 0, []),
  (24, .iconst 0, 25, 0, 0, 0, []),
  (25, .putfield 71, 28, 1, 7, 2, [285]),
  (28, .aload_n 0, 29, 0, 0, 0, []),
  (29, .invokevirtual 84, 32, 46, 1, 100, [6, 400, 402, 9, 403, 24]),
  (32, .aload_n 0, 33, 0, 0, 0, []),
  (33, .invokevirtual 93, 36, 42, 1, 100, [6, 243, 245, 4, 246, 24]),
  (36, .ireturn, 37, 0, 0, 0, [])]
def zb18 : List zOp := [(0, .aload_n 0, 1, 0, 0, 0, []),
  (1, .iload_n 1, 2, 1, 0, 0, []),
  (2, .invokevirtual 29, 5, 41, 2, 100, [6, 122, 124, 0, 125, 24]),
  (5, .astore 4, 7, 4, 0, 0, []),
  (7, .aload_n 0, 8, 0, 0, 0, []),
  (8, .iload_n 2, 9, 2, 0, 0, []),
  (9, .invokevirtual 29, 12, 41, 2, 100, [6, 122, 124, 0, 125, 24]),
  (12, .astore 5, 14, 5, 0, 0, []),
  (14, .iload_n 3, 15, 3, 0, 0, []),
  (15, .ifCond .eq 23, 18, 38, 0, 0, []),
  (18, .iload_n 3, 19, 3, 0, 0, []),
  (19, .iconst 1, 20, 1, 0, 0, []),
  (20, .if_icmp .eq 18, 23, 38, 0, 0, []),
  (23, .iload_n 3, 24, 3, 0, 0, []),
  (24, .iconst 2, 25, 2, 0, 0, []),
  (25, .if_icmp .eq 13, 28, 38, 0, 0, []),
  (28, .new 96, 31, 0, 98, 9, [100, 149, 35, 562]),
  (38, .aload 4, 40, 4, 0, 0, []),
  (40, .aload 5, 42, 5, 0, 0, []),
  (42, .if_acmp .ne 13, 45, 55, 0, 0, []),
  (45, .new 37, 48, 1, 101, 9, [41, 223, 36, 563]),
  (55, .aload 4, 57, 4, 0, 0, []),
  (57, .getfield 53, 60, 1, 2, 1, [276]),
  (60, .invokevirtual 58, 63, 60, 1, 100, [0, 130, 131, 132, 133, 27]),
  (63, .iconst 3, 64, 3, 0, 0, []),
  (64, .if_icmp .lt 13, 67, 77, 0, 0, []),
  (67, .new 48, 70, 2, 103, 9, [52, 247, 37, 564]),
  (77, .aload 4, 79, 4, 0, 0, []),
  (79, .getfield 53, 82, 1, 2, 1, [276]),
  (82, .new 75, 85, 2, 2, 0, [384, 385, 42]),
  (85, .dup, 86, 0, 0, 0, []),
  (86, .aload 5, 88, 5, 0, 0, []),
  (88, .iload_n 3, 89, 3, 0, 0, []),
  (89, .invokespecial 77, 92, 4, 3, 101, [0, 386, 387, 0, 388, 42]),
  (92, .invokevirtual 80, 95, 64, 2, 100, [0, 327, 328, 329, 330, 27]),
  (95, .pop, 96, 0, 0, 0, []),
  (96, .aload 4, 98, 4, 0, 0, []),
  (98, .getfield 53, 101, 1, 2, 1, [276]),
  (101, .invokevirtual 58, 104, 60, 1, 100, [0, 130, 131, 132, 133, 27]),
  (104, .ireturn, 105, 0, 0, 0, [])]
def zb19 : List zOp := [(0, .aload_n 0, 1, 0, 0, 0, []),
  (1, .iload_n 1, 2, 1, 0, 0, []),
  (2, .invokevirtual 29, 5, 41, 2, 100, [6, 122, 124, 0, 125, 24]),
  (5, .astore_n 3, 6, 3, 0, 0, []),
  (6, .iload_n 2, 7, 2, 0, 0, []),
  (7, .ifCond .lt 14, 10, 21, 0, 0, []),
  (10, .iload_n 2, 11, 2, 0, 0, []),
  (11, .aload_n 3, 12, 3, 0, 0, []),
  (12, .getfield 53, 15, 1, 2, 1, [276]),
  (15, .invokevirtual 58, 18, 60, 1, 100, [0, 130, 131, 132, 133, 27]),
  (18, .if_icmp .lt 13, 21, 31, 0, 0, []),
  (21, .new 96, 24, 0, 105, 9, [100, 149, 35, 569]),
  (31, .aload_n 3, 32, 3, 0, 0, []),
  (32, .getfield 53, 35, 1, 2, 1, [276]),
  (35, .iload_n 2, 36, 2, 0, 0, []),
  (36, .invokevirtual 107, 39, 65, 2, 100, [0, 570, 571, 572, 573, 27]),
  (39, .pop, 40, 0, 0, 0, []),
  (40, .aload_n 0, 41, 0, 0, 0, []),
  (41, .invokevirtual 84, 44, 46, 1, 100, [6, 400, 402, 9, 403, 24]),
  (44, .aload_n 0, 45, 0, 0, 0, []),
  (45, .invokevirtual 93, 48, 42, 1, 100, [6, 243, 245, 4, 246, 24]),
  (48, .ireturn, 49, 0, 0, 0, [])]
def zb20 : List zOp := [(0, .aload_n 0, 1, 0, 0, 0, []),
  (1, .iload_n 1, 2, 1, 0, 0, []),
  (2, .invokevirtual 111, 5, 40, 2, 100, [6, 126, 128, 1, 129, 24]),
  (5, .ifnull 7, 8, 12, 0, 0, []),
  (8, .iconst 1, 9, 1, 0, 0, []),
  (9, .goto 4, 12, 13, 0, 0, []),
  (12, .iconst 0, 13, 0, 0, 0, []),
  (13, .ireturn, 14, 0, 0, 2, [])]
def zb21 : List zOp := [(0, .aload_n 0, 1, 0, 0, 0, []),
  (1, .invokevirtual 93, 4, 42, 1, 100, [6, 243, 245, 4, 246, 24]),
  (4, .ireturn, 5, 0, 0, 0, [])]
def zb22 : List zOp := [(0, .aload_n 0, 1, 0, 0, 0, []),
  (1, .iload_n 1, 2, 1, 0, 0, []),
  (2, .invokevirtual 29, 5, 41, 2, 100, [6, 122, 124, 0, 125, 24]),
  (5, .getfield 114, 8, 1, 0, 0, [272]),
  (8, .ireturn, 9, 0, 0, 0, [])]
def zb23 : List zOp := [(0, .aload_n 0, 1, 0, 0, 0, []),
  (1, .iload_n 1, 2, 1, 0, 0, []),
  (2, .invokevirtual 29, 5, 41, 2, 100, [6, 122, 124, 0, 125, 24]),
  (5, .getfield 117, 8, 1, 4, 0, [280]),
  (8, .ireturn, 9, 0, 0, 0, [])]
def zb24 : List zOp := [(0, .aload_n 0, 1, 0, 0, 0, []),
  (1, .iload_n 1, 2, 1, 0, 0, []),
  (2, .invokevirtual 29, 5, 41, 2, 100, [6, 122, 124, 0, 125, 24]),
  (5, .getfield 120, 8, 1, 6, 0, [284]),
  (8, .ireturn, 9, 0, 0, 0, [])]
def zb25 : List zOp := [(0, .aload_n 0, 1, 0, 0, 0, []),
  (1, .iload_n 1, 2, 1, 0, 0, []),
  (2, .invokevirtual 29, 5, 41, 2, 100, [6, 122, 124, 0, 125, 24]),
  (5, .astore_n 3, 6, 3, 0, 0, []),
  (6, .iload_n 2, 7, 2, 0, 0, []),
  (7, .ifCond .lt 14, 10, 21, 0, 0, []),
  (10, .iload_n 2, 11, 2, 0, 0, []),
  (11, .aload_n 3, 12, 3, 0, 0, []),
  (12, .getfield 53, 15, 1, 2, 1, [276]),
  (15, .invokevirtual 58, 18, 60, 1, 100, [0, 130, 131, 132, 133, 27]),
  (18, .if_icmp .lt 13, 21, 31, 0, 0, []),
  (21, .new 96, 24, 0, 105, 9, [100, 149, 35, 569]),
  (31, .aload_n 3, 32, 3, 0, 0, []),
  (32, .getfield 53, 35, 1, 2, 1, [276]),
  (35, .iload_n 2, 36, 2, 0, 0, []),
  (36, .invokevirtual 123, 39, 62, 2, 100, [0, 134, 135, 136, 137, 27]),
  (39, .checkcast 75, 42, 2, 0, 0, [384]),
  (42, .getfield 126, 45, 2, 0, 1, [392]),
  (45, .astore 4, 47, 4, 0, 0, []),
  (47, .aload 4, 49, 4, 0, 0, []),
  (49, .getfield 130, 52, 1, 8, 0, [288]),
  (52, .ifCond .eq 11, 55, 63, 0, 0, []),
  (55, .aload 4, 57, 4, 0, 0, []),
  (57, .getfield 87, 60, 1, 3, 0, [277]),
  (60, .goto 4, 63, 64, 0, 0, []),
  (63, .iconst (-1), 64, 1, 0, 1, []),
  (64, .ireturn, 65, 0, 0, 0, [])]
def zb26 : List zOp := [(0, .aload_n 0, 1, 0, 0, 0, []),
  (1, .iload_n 1, 2, 1, 0, 0, []),
  (2, .invokevirtual 29, 5, 41, 2, 100, [6, 122, 124, 0, 125, 24]),
  (5, .astore_n 2, 6, 2, 0, 0, []),
  (6, .iconst 0, 7, 0, 0, 0, []),
  (7, .istore_n 3, 8, 3, 0, 0, []),
  (8, .iconst 0, 9, 0, 0, 0, []),
  (9, .istore 4, 11, 4, 0, 0, []),
  (11, .iload 4, 13, 4, 0, 0, []),
  (13, .aload_n 0, 14, 0, 0, 0, []),
  (14, .getfield 10, 17, 6, 0, 1, [99]),
  (17, .invokevirtual 58, 20, 60, 1, 100, [0, 130, 131, 132, 133, 27]),
  (20, .if_icmp .ge 40, 23, 60, 0, 0, []),
  (23, .aload_n 0, 24, 0, 0, 0, []),
  (24, .getfield 10, 27, 6, 0, 1, [99]),
  (27, .iload 4, 29, 4, 0, 0, []),
  (29, .invokevirtual 123, 32, 62, 2, 100, [0, 134, 135, 136, 137, 27]),
  (32, .checkcast 54, 35, 1, 0, 0, [148]),
  (35, .astore 5, 37, 5, 0, 0, []),
  (37, .aload 5, 39, 5, 0, 0, []),
  (39, .getfield 130, 42, 1, 8, 0, [288]),
  (42, .ifCond .eq 12, 45, 54, 0, 0, []),
  (45, .iload_n 3, 46, 3, 0, 0, []),
  (46, .aload 5, 48, 5, 0, 0, []),
  (48, .aload_n 2, 49, 2, 0, 0, []),
  (49, .invokevirtual 133, 52, 1, 2, 100, [1, 599, 600, 601, 602, 38]),
  (52, .iadd, 53, 0, 0, 0, []),
  (53, .istore_n 3, 54, 3, 0, 0, []),
  (54, .iinc 4 1, 57, 4, 1, 0, []),
  (57, .goto (-46), 60, 11, 0, 0, []),
  (60, .iload_n 3, 61, 3, 0, 0, []),
  (61, .ireturn, 62, 0, 0, 0, [])]
def zb27 : List zOp := [(0, .iload_n 1, 1, 1, 0, 0, []),
  (1, .aload_n 0, 2, 0, 0, 0, []),
  (2, .getfield 137, 5, 6, 4, 0, [103]),
  (5, .if_icmp .lt 10, 8, 15, 0, 0, []),
  (8, .iload_n 1, 9, 1, 0, 0, []),
  (9, .sipush 500, 12, 500, 0, 0, []),
  (12, .if_icmp .le 13, 15, 25, 0, 0, []),
  (15, .new 37, 18, 1, 140, 9, [41, 223, 36, 522]),
  (25, .iload_n 2, 26, 2, 0, 0, []),
  (26, .iload_n 3, 27, 3, 0, 0, []),
  (27, .iload 4, 29, 4, 0, 0, []),
  (29, .iload 5, 31, 5, 0, 0, []),
  (31, .invokestatic 33, 34, 39, 4, 102, [0, 217, 218, 0, 219, 24]),
  (34, .ifCond .ne 13, 37, 47, 0, 0, []),
  (37, .new 37, 40, 1, 39, 9, [41, 223, 36, 232]),
  (47, .aload_n 0, 48, 0, 0, 0, []),
  (48, .getfield 23, 51, 6, 2, 1, [101]),
  (51, .invokevirtual 58, 54, 60, 1, 100, [0, 130, 131, 132, 133, 27]),
  (54, .bipush 20, 56, 20, 0, 0, []),
  (56, .if_icmp .lt 13, 59, 69, 0, 0, []),
  (59, .new 48, 62, 2, 142, 9, [52, 247, 37, 523]),
  (69, .aload_n 0, 70, 0, 0, 0, []),
  (70, .getfield 23, 73, 6, 2, 1, [101]),
  (73, .new 144, 76, 5, 5, 0, [433, 524, 44]),
  (76, .dup, 77, 0, 0, 0, []),
  (77, .iload_n 1, 78, 1, 0, 0, []),
  (78, .iload_n 2, 79, 2, 0, 0, []),
  (79, .iload_n 3, 80, 3, 0, 0, []),
  (80, .iload 4, 82, 4, 0, 0, []),
  (82, .iload 5, 84, 5, 0, 0, []),
  (84, .invokespecial 146, 87, 14, 6, 101, [0, 525, 526, 0, 527, 44]),
  (87, .invokevirtual 80, 90, 64, 2, 100, [0, 327, 328, 329, 330, 27]),
  (90, .pop, 91, 0, 0, 0, []),
  (91, .aload_n 0, 92, 0, 0, 0, []),
  (92, .getfield 23, 95, 6, 2, 1, [101]),
  (95, .invokevirtual 58, 98, 60, 1, 100, [0, 130, 131, 132, 133, 27]),
  (98, .ireturn, 99, 0, 0, 0, [])]
def zb28 : List zOp := [(0, .iload_n 1, 1, 1, 0, 0, []),
  (1, .ifCond .lt 9, 4, 10, 0, 0, []),
  (4, .iload_n 1, 5, 1, 0, 0, []),
  (5, .bipush 50, 7, 50, 0, 0, []),
  (7, .if_icmp .le 13, 10, 20, 0, 0, []),
  (10, .new 37, 13, 1, 147, 9, [41, 223, 36, 427]),
  (20, .aload_n 0, 21, 0, 0, 0, []),
  (21, .getfield 137, 24, 6, 4, 0, [103]),
  (24, .sipush 500, 27, 500, 0, 0, []),
  (27, .if_icmp .lt 13, 30, 40, 0, 0, []),
  (30, .new 48, 33, 2, 149, 9, [52, 247, 37, 428]),
  (40, .aload_n 0, 41, 0, 0, 0, []),
  (41, .invokevirtual 151, 44, 48, 1, 100, [6, 429, 431, 11, 432, 24]),
  (44, .aload_n 0, 45, 0, 0, 0, []),
  (45, .invokevirtual 154, 48, 49, 1, 100, [6, 434, 436, 12, 437, 24]),
  (48, .aload_n 0, 49, 0, 0, 0, []),
  (49, .invokevirtual 157, 52, 50, 1, 100, [6, 443, 445, 13, 446, 24]),
  (52, .aload_n 0, 53, 0, 0, 0, []),
  (53, .getfield 19, 56, 6, 1, 1, [100]),
  (56, .iload_n 1, 57, 1, 0, 0, []),
  (57, .invokevirtual 160, 60, 9, 2, 100, [3, 455, 456, 457, 458, 28]),
  (60, .aload_n 0, 61, 0, 0, 0, []),
  (61, .dup, 62, 0, 0, 0, []),
  (62, .getfield 137, 65, 6, 4, 0, [103]),
  (65, .iconst 1, 66, 1, 0, 0, []),
  (66, .iadd, 67, 0, 0, 0, []),
  (67, .putfield 137, 70, 6, 4, 0, [103]),
  (70, .aload_n 0, 71, 0, 0, 0, []),
  (71, .getfield 19, 74, 6, 1, 1, [100]),
  (74, .invokevirtual 164, 77, 6, 1, 100, [3, 471, 320, 321, 322, 28]),
  (77, .ireturn, 78, 0, 0, 0, [])]
def zb29 : List zOp := [(0, .aload_n 0, 1, 0, 0, 0, []),
  (1, .getfield 137, 4, 6, 4, 0, [103]),
  (4, .ireturn, 5, 0, 0, 0, [])]
def zb30 : List zOp := [(0, .aload_n 0, 1, 0, 0, 0, []),
  (1, .getfield 19, 4, 6, 1, 1, [100]),
  (4, .invokevirtual 167, 7, 8, 1, 100, [3, 639, 324, 325, 326, 28]),
  (7, .ireturn, 8, 0, 0, 0, [])]
def zb31 : List zOp := [(0, .aload_n 0, 1, 0, 0, 0, []),
  (1, .getfield 19, 4, 6, 1, 1, [100]),
  (4, .invokevirtual 164, 7, 6, 1, 100, [3, 471, 320, 321, 322, 28]),
  (7, .ireturn, 8, 0, 0, 0, [])]
def zb32 : List zOp := [(0, .iload_n 1, 1, 1, 0, 0, []),
  (1, .ifCond .lt 9, 4, 10, 0, 0, []),
  (4, .iload_n 1, 5, 1, 0, 0, []),
  (5, .bipush 12, 7, 12, 0, 0, []),
  (7, .if_icmp .lt 13, 10, 20, 0, 0, []),
  (10, .new 96, 13, 0, 170, 9, [100, 149, 35, 607]),
  (20, .aload_n 0, 21, 0, 0, 0, []),
  (21, .getfield 19, 24, 6, 1, 1, [100]),
  (24, .getfield 172, 27, 3, 1, 1, [89]),
  (27, .iload_n 1, 28, 1, 0, 0, []),
  (28, .iaload, 29, 0, 0, 0, []),
  (29, .ireturn, 30, 0, 0, 0, [])]
def zb33 : List zOp := [(0, .aload_n 0, 1, 0, 0, 0, []),
  (1, .invokevirtual 176, 4, 43, 1, 100, [6, 480, 482, 19, 483, 24]),
  (4, .ireturn, 5, 0, 0, 0, [])]
def zb34 : List zOp := [(0, .aload_n 0, 1, 0, 0, 0, []),
  (1, .invokevirtual 176, 4, 43, 1, 100, [6, 480, 482, 19, 483, 24]),
  (4, .ireturn, 5, 0, 0, 0, [])]
def zb35 : List zOp := [(0, .iload_n 1, 1, 1, 0, 0, []),
  (1, .invokestatic 179, 4, 38, 1, 102, [0, 220, 221, 0, 222, 24]),
  (4, .ifCond .ne 13, 7, 17, 0, 0, []),
  (7, .new 37, 10, 1, 183, 9, [41, 223, 36, 612]),
  (17, .aload_n 0, 18, 0, 0, 0, []),
  (18, .getfield 185, 21, 6, 5, 0, [104]),
  (21, .istore_n 2, 22, 2, 0, 0, []),
  (22, .aload_n 0, 23, 0, 0, 0, []),
  (23, .iload_n 1, 24, 1, 0, 0, []),
  (24, .putfield 185, 27, 6, 5, 0, [104]),
  (27, .iload_n 2, 28, 2, 0, 0, []),
  (28, .ireturn, 29, 0, 0, 0, [])]
def zb36 : List zOp := [(0, .aload_n 0, 1, 0, 0, 0, []),
  (1, .iload_n 1, 2, 1, 0, 0, []),
  (2, .invokevirtual 29, 5, 41, 2, 100, [6, 122, 124, 0, 125, 24]),
  (5, .astore_n 2, 6, 2, 0, 0, []),
  (6, .aload_n 0, 7, 0, 0, 0, []),
  (7, .getfield 26, 10, 6, 3, 1, [102]),
  (10, .invokevirtual 58, 13, 60, 1, 100, [0, 130, 131, 132, 133, 27]),
  (13, .bipush 30, 15, 30, 0, 0, []),
  (15, .if_icmp .lt 13, 18, 28, 0, 0, []),
  (18, .new 48, 21, 2, 188, 9, [52, 247, 37, 617]),
  (28, .aload_n 0, 29, 0, 0, 0, []),
  (29, .getfield 26, 32, 6, 3, 1, [102]),
  (32, .new 190, 35, 4, 2, 0, [503, 618, 43]),
  (35, .dup, 36, 0, 0, 0, []),
  (36, .aload_n 2, 37, 2, 0, 0, []),
  (37, .aload_n 0, 38, 0, 0, 0, []),
  (38, .getfield 137, 41, 6, 4, 0, [103]),
  (41, .invokespecial 192, 44, 13, 3, 101, [0, 619, 620, 0, 621, 43]),
  (44, .invokevirtual 80, 47, 64, 2, 100, [0, 327, 328, 329, 330, 27]),
  (47, .pop, 48, 0, 0, 0, []),
  (48, .aload_n 0, 49, 0, 0, 0, []),
  (49, .getfield 26, 52, 6, 3, 1, [102]),
  (52, .invokevirtual 58, 55, 60, 1, 100, [0, 130, 131, 132, 133, 27]),
  (55, .iconst 1, 56, 1, 0, 0, []),
  (56, .isub, 57, 0, 0, 0, []),
  (57, .ireturn, 58, 0, 0, 0, [])]
def zb37 : List zOp := [(0, .iconst 0, 1, 0, 0, 0, []),
  (1, .istore_n 1, 2, 1, 0, 0, []),
  (2, .iconst 0, 3, 0, 0, 0, []),
  (3, .istore_n 2, 4, 2, 0, 0, []),
  (4, .iload_n 2, 5, 2, 0, 0, []),
  (5, .iconst 3, 6, 3, 0, 0, []),
  (6, .if_icmp .ge 28, 9, 34, 0, 0, []),
  (9, .aload_n 0, 10, 0, 0, 0, []),
  (10, .iload_n 1, 11, 1, 0, 0, []),
  (11, .invokevirtual 193, 14, 53, 2, 100, [6, 499, 501, 20, 502, 24]),
  (14, .istore_n 3, 15, 3, 0, 0, []),
  (15, .iload_n 3, 16, 3, 0, 0, []),
  (16, .iconst (-1), 17, 1, 0, 1, []),
  (17, .if_icmp .ne 5, 20, 22, 0, 0, []),
  (20, .iload_n 1, 21, 1, 0, 0, []),
  (21, .ireturn, 22, 0, 0, 0, []),
  (22, .iload_n 1, 23, 1, 0, 0, []),
  (23, .iconst 1, 24, 1, 0, 0, []),
  (24, .iload_n 3, 25, 3, 0, 0, []),
  (25, .ishl, 26, 0, 0, 0, []),
  (26, .ior, 27, 0, 0, 0, []),
  (27, .istore_n 1, 28, 1, 0, 0, []),
  (28, .iinc 2 1, 31, 2, 1, 0, []),
  (31, .goto (-27), 34, 4, 0, 0, []),
  (34, .iload_n 1, 35, 1, 0, 0, []),
  (35, .ireturn, 36, 0, 0, 0, [])]
def zb38 : List zOp := [(0, .iload_n 0, 1, 0, 0, 0, []),
  (1, .ifCond .lt 13, 4, 14, 0, 0, []),
  (4, .iload_n 0, 5, 0, 0, 0, []),
  (5, .bipush 10, 7, 10, 0, 0, []),
  (7, .if_icmp .ge 7, 10, 14, 0, 0, []),
  (10, .iconst 1, 11, 1, 0, 0, []),
  (11, .goto 4, 14, 15, 0, 0, []),
  (14, .iconst 0, 15, 0, 0, 0, []),
  (15, .ireturn, 16, 0, 0, 2, [])]
def zb39 : List zOp := [(0, .iload_n 0, 1, 0, 0, 0, []),
  (1, .invokestatic 179, 4, 38, 1, 102, [0, 220, 221, 0, 222, 24]),
  (4, .ifCond .eq 37, 7, 41, 0, 0, []),
  (7, .iload_n 1, 8, 1, 0, 0, []),
  (8, .iconst (-1), 9, 1, 0, 1, []),
  (9, .if_icmp .lt 32, 12, 41, 0, 0, []),
  (12, .iload_n 1, 13, 1, 0, 0, []),
  (13, .iconst 1, 14, 1, 0, 0, []),
  (14, .if_icmp .gt 27, 17, 41, 0, 0, []),
  (17, .iload_n 2, 18, 2, 0, 0, []),
  (18, .ifCond .lt 23, 21, 41, 0, 0, []),
  (21, .iload_n 2, 22, 2, 0, 0, []),
  (22, .iconst 2, 23, 2, 0, 0, []),
  (23, .if_icmp .ge 18, 26, 41, 0, 0, []),
  (26, .iload_n 3, 27, 3, 0, 0, []),
  (27, .iconst 1, 28, 1, 0, 0, []),
  (28, .if_icmp .lt 13, 31, 41, 0, 0, []),
  (31, .iload_n 3, 32, 3, 0, 0, []),
  (32, .bipush 9, 34, 9, 0, 0, []),
  (34, .if_icmp .gt 7, 37, 41, 0, 0, []),
  (37, .iconst 1, 38, 1, 0, 0, []),
  (38, .goto 4, 41, 42, 0, 0, []),
  (41, .iconst 0, 42, 0, 0, 0, []),
  (42, .ireturn, 43, 0, 0, 2, [])]
def zb40 : List zOp := [(0, .iconst 0, 1, 0, 0, 0, []),
  (1, .istore_n 2, 2, 2, 0, 0, []),
  (2, .iload_n 2, 3, 2, 0, 0, []),
  (3, .aload_n 0, 4, 0, 0, 0, []),
  (4, .getfield 10, 7, 6, 0, 1, [99]),
  (7, .invokevirtual 58, 10, 60, 1, 100, [0, 130, 131, 132, 133, 27]),
  (10, .if_icmp .ge 38, 13, 48, 0, 0, []),
  (13, .aload_n 0, 14, 0, 0, 0, []),
  (14, .getfield 10, 17, 6, 0, 1, [99]),
  (17, .iload_n 2, 18, 2, 0, 0, []),
  (18, .invokevirtual 123, 21, 62, 2, 100, [0, 134, 135, 136, 137, 27]),
  (21, .checkcast 54, 24, 1, 0, 0, [148]),
  (24, .astore_n 3, 25, 3, 0, 0, []),
  (25, .aload_n 3, 26, 3, 0, 0, []),
  (26, .getfield 130, 29, 1, 8, 0, [288]),
  (29, .ifCond .eq 13, 32, 42, 0, 0, []),
  (32, .aload_n 3, 33, 3, 0, 0, []),
  (33, .getfield 87, 36, 1, 3, 0, [277]),
  (36, .iload_n 1, 37, 1, 0, 0, []),
  (37, .if_icmp .ne 5, 40, 42, 0, 0, []),
  (40, .aload_n 3, 41, 3, 0, 0, []),
  (41, .areturn, 42, 0, 0, 0, []),
  (42, .iinc 2 1, 45, 2, 1, 0, []),
  (45, .goto (-43), 48, 2, 0, 0, []),
  (48, .aconst_null, 49, 0, 0, 0, []),
  (49, .areturn, 50, 0, 0, 0, [])]
def zb41 : List zOp := [(0, .aload_n 0, 1, 0, 0, 0, []),
  (1, .iload_n 1, 2, 1, 0, 0, []),
  (2, .invokevirtual 111, 5, 40, 2, 100, [6, 126, 128, 1, 129, 24]),
  (5, .astore_n 2, 6, 2, 0, 0, []),
  (6, .aload_n 2, 7, 2, 0, 0, []),
  (7, .ifnonnull 13, 10, 20, 0, 0, []),
  (10, .new 96, 13, 0, 197, 9, [100, 149, 35, 190]),
  (20, .aload_n 2, 21, 2, 0, 0, []),
  (21, .areturn, 22, 0, 0, 0, [])]
def zb42 : List zOp := [(0, .iconst 0, 1, 0, 0, 0, []),
  (1, .istore_n 1, 2, 1, 0, 0, []),
  (2, .iconst 0, 3, 0, 0, 0, []),
  (3, .istore_n 2, 4, 2, 0, 0, []),
  (4, .iload_n 2, 5, 2, 0, 0, []),
  (5, .aload_n 0, 6, 0, 0, 0, []),
  (6, .getfield 10, 9, 6, 0, 1, [99]),
  (9, .invokevirtual 58, 12, 60, 1, 100, [0, 130, 131, 132, 133, 27]),
  (12, .if_icmp .ge 29, 15, 41, 0, 0, []),
  (15, .aload_n 0, 16, 0, 0, 0, []),
  (16, .getfield 10, 19, 6, 0, 1, [99]),
  (19, .iload_n 2, 20, 2, 0, 0, []),
  (20, .invokevirtual 123, 23, 62, 2, 100, [0, 134, 135, 136, 137, 27]),
  (23, .checkcast 54, 26, 1, 0, 0, [148]),
  (26, .getfield 130, 29, 1, 8, 0, [288]),
  (29, .ifCond .eq 6, 32, 35, 0, 0, []),
  (32, .iinc 1 1, 35, 1, 1, 0, []),
  (35, .iinc 2 1, 38, 2, 1, 0, []),
  (38, .goto (-34), 41, 4, 0, 0, []),
  (41, .iload_n 1, 42, 1, 0, 0, []),
  (42, .ireturn, 43, 0, 0, 0, [])]
def zb43 : List zOp := [(0, .iconst 0, 1, 0, 0, 0, []),
  (1, .istore_n 1, 2, 1, 0, 0, []),
  (2, .iconst 0, 3, 0, 0, 0, []),
  (3, .istore_n 2, 4, 2, 0, 0, []),
  (4, .iload_n 2, 5, 2, 0, 0, []),
  (5, .aload_n 0, 6, 0, 0, 0, []),
  (6, .getfield 10, 9, 6, 0, 1, [99]),
  (9, .invokevirtual 58, 12, 60, 1, 100, [0, 130, 131, 132, 133, 27]),
  (12, .if_icmp .ge 60, 15, 72, 0, 0, []),
  (15, .aload_n 0, 16, 0, 0, 0, []),
  (16, .getfield 10, 19, 6, 0, 1, [99]),
  (19, .iload_n 2, 20, 2, 0, 0, []),
  (20, .invokevirtual 123, 23, 62, 2, 100, [0, 134, 135, 136, 137, 27]),
  (23, .checkcast 54, 26, 1, 0, 0, [148]),
  (26, .astore_n 3, 27, 3, 0, 0, []),
  (27, .aload_n 3, 28, 3, 0, 0, []),
  (28, .getfield 130, 31, 1, 8, 0, [288]),
  (31, .ifCond .eq 35, 34, 66, 0, 0, []),
  (34, .iload_n 1, 35, 1, 0, 0, []),
  (35, .aload_n 3, 36, 3, 0, 0, []),
  (36, .getfield 114, 39, 1, 0, 0, [272]),
  (39, .iconst 1, 40, 1, 0, 0, []),
  (40, .iadd, 41, 0, 0, 0, []),
  (41, .aload_n 3, 42, 3, 0, 0, []),
  (42, .getfield 117, 45, 1, 4, 0, [280]),
  (45, .bipush 10, 47, 10, 0, 0, []),
  (47, .aload_n 3, 48, 3, 0, 0, []),
  (48, .getfield 120, 51, 1, 6, 0, [284]),
  (51, .imul, 52, 0, 0, 0, []),
  (52, .iadd, 53, 0, 0, 0, []),
  (53, .bipush 100, 55, 100, 0, 0, []),
  (55, .aload_n 3, 56, 3, 0, 0, []),
  (56, .getfield 199, 59, 1, 5, 0, [282]),
  (59, .iconst 1, 60, 1, 0, 0, []),
  (60, .iadd, 61, 0, 0, 0, []),
  (61, .imul, 62, 0, 0, 0, []),
  (62, .iadd, 63, 0, 0, 0, []),
  (63, .imul, 64, 0, 0, 0, []),
  (64, .iadd, 65, 0, 0, 0, []),
  (65, .istore_n 1, 66, 1, 0, 0, []),
  (66, .iinc 2 1, 69, 2, 1, 0, []),
  (69, .goto (-65), 72, 4, 0, 0, []),
  (72, .iload_n 1, 73, 1, 0, 0, []),
  (73, .ireturn, 74, 0, 0, 0, [])]
def zb44 : List zOp := [(0, .aload_n 0, 1, 0, 0, 0, []),
  (1, .getfield 10, 4, 6, 0, 1, [99]),
  (4, .invokevirtual 58, 7, 60, 1, 100, [0, 130, 131, 132, 133, 27]),
  (7, .bipush 40, 9, 40, 0, 0, []),
  (9, .if_icmp .ge 16, 12, 25, 0, 0, []),
  (12, .aload_n 0, 13, 0, 0, 0, []),
  (13, .invokevirtual 93, 16, 42, 1, 100, [6, 243, 245, 4, 246, 24]),
  (16, .bipush 8, 18, 8, 0, 0, []),
  (18, .if_icmp .ge 7, 21, 25, 0, 0, []),
  (21, .iconst 1, 22, 1, 0, 0, []),
  (22, .goto 4, 25, 26, 0, 0, []),
  (25, .iconst 0, 26, 0, 0, 0, []),
  (26, .ireturn, 27, 0, 0, 2, [])]
def zb45 : List zOp := [(0, .aload_n 0, 1, 0, 0, 0, []),
  (1, .getfield 19, 4, 6, 1, 1, [100]),
  (4, .aload_n 1, 5, 1, 0, 0, []),
  (5, .invokevirtual 202, 8, 7, 2, 100, [3, 315, 316, 317, 318, 28]),
  (8, .aload_n 0, 9, 0, 0, 0, []),
  (9, .getfield 10, 12, 6, 0, 1, [99]),
  (12, .aload_n 1, 13, 1, 0, 0, []),
  (13, .invokevirtual 80, 16, 64, 2, 100, [0, 327, 328, 329, 330, 27]),
  (16, .pop, 17, 0, 0, 0, []),
  (17, .aload_n 1, 18, 1, 0, 0, []),
  (18, .areturn, 19, 0, 0, 0, [])]
def zb46 : List zOp := [(0, .iconst 0, 1, 0, 0, 0, []),
  (1, .istore_n 1, 2, 1, 0, 0, []),
  (2, .iload_n 1, 3, 1, 0, 0, []),
  (3, .aload_n 0, 4, 0, 0, 0, []),
  (4, .getfield 10, 7, 6, 0, 1, [99]),
  (7, .invokevirtual 58, 10, 60, 1, 100, [0, 130, 131, 132, 133, 27]),
  (10, .if_icmp .ge 44, 13, 54, 0, 0, []),
  (13, .aload_n 0, 14, 0, 0, 0, []),
  (14, .getfield 10, 17, 6, 0, 1, [99]),
  (17, .iload_n 1, 18, 1, 0, 0, []),
  (18, .invokevirtual 123, 21, 62, 2, 100, [0, 134, 135, 136, 137, 27]),
  (21, .checkcast 54, 24, 1, 0, 0, [148]),
  (24, .astore_n 2, 25, 2, 0, 0, []),
  (25, .aload_n 2, 26, 2, 0, 0, []),
  (26, .aload_n 2, 27, 2, 0, 0, []),
  (27, .getfield 71, 30, 1, 7, 0, [285]),
  (30, .ifCond .eq 14, 33, 44, 0, 0, []),
  (33, .aload_n 2, 34, 2, 0, 0, []),
  (34, .getfield 120, 37, 1, 6, 0, [284]),
  (37, .ifCond .le 7, 40, 44, 0, 0, []),
  (40, .iconst 1, 41, 1, 0, 0, []),
  (41, .goto 4, 44, 45, 0, 0, []),
  (44, .iconst 0, 45, 0, 0, 0, []),
  (45, .putfield 130, 48, 1, 8, 2, [288]),
  (48, .iinc 1 1, 51, 1, 1, 0, []),
  (51, .goto (-49), 54, 2, 0, 0, []),
  (54, .iconst 0, 55, 0, 0, 0, []),
  (55, .istore_n 1, 56, 1, 0, 0, []),
  (56, .iload_n 1, 57, 1, 0, 0, []),
  (57, .aload_n 0, 58, 0, 0, 0, []),
  (58, .getfield 10, 61, 6, 0, 1, [99]),
  (61, .invokevirtual 58, 64, 60, 1, 100, [0, 130, 131, 132, 133, 27]),
  (64, .if_icmp .ge 17, 67, 81, 0, 0, []),
  (67, .aload_n 0, 68, 0, 0, 0, []),
  (68, .invokevirtual 206, 71, 47, 1, 100, [6, 404, 406, 10, 407, 24]),
  (71, .ifCond .ne 4, 74, 75, 0, 0, []),
  (74, .return_, 75, 0, 0, 0, []),
  (75, .iinc 1 1, 78, 1, 1, 0, []),
  (78, .goto (-22), 81, 56, 0, 0, []),
  (81, .return_, 82, 0, 0, 0, [])]
def zb47 : List zOp := [(0, .iconst 0, 1, 0, 0, 0, []),
  (1, .istore_n 1, 2, 1, 0, 0, []),
  (2, .iconst 0, 3, 0, 0, 0, []),
  (3, .istore_n 2, 4, 2, 0, 0, []),
  (4, .iload_n 2, 5, 2, 0, 0, []),
  (5, .aload_n 0, 6, 0, 0, 0, []),
  (6, .getfield 10, 9, 6, 0, 1, [99]),
  (9, .invokevirtual 58, 12, 60, 1, 100, [0, 130, 131, 132, 133, 27]),
  (12, .if_icmp .ge 37, 15, 49, 0, 0, []),
  (15, .aload_n 0, 16, 0, 0, 0, []),
  (16, .getfield 10, 19, 6, 0, 1, [99]),
  (19, .iload_n 2, 20, 2, 0, 0, []),
  (20, .invokevirtual 123, 23, 62, 2, 100, [0, 134, 135, 136, 137, 27]),
  (23, .checkcast 54, 26, 1, 0, 0, [148]),
  (26, .astore_n 3, 27, 3, 0, 0, []),
  (27, .aload_n 3, 28, 3, 0, 0, []),
  (28, .getfield 130, 31, 1, 8, 0, [288]),
  (31, .ifCond .eq 12, 34, 43, 0, 0, []),
  (34, .aload_n 3, 35, 3, 0, 0, []),
  (35, .invokevirtual 209, 38, 2, 1, 100, [1, 408, 409, 410, 411, 38]),
  (38, .ifCond .eq 5, 41, 43, 0, 0, []),
  (41, .iconst 1, 42, 1, 0, 0, []),
  (42, .istore_n 1, 43, 1, 0, 0, []),
  (43, .iinc 2 1, 46, 2, 1, 0, []),
  (46, .goto (-42), 49, 4, 0, 0, []),
  (49, .iload_n 1, 50, 1, 0, 0, []),
  (50, .ireturn, 51, 0, 0, 2, [])]
def zb48_0 : List zOp := [(0, .iconst 0, 1, 0, 0, 0, []),
  (1, .istore_n 1, 2, 1, 0, 0, []),
  (2, .iload_n 1, 3, 1, 0, 0, []),
  (3, .aload_n 0, 4, 0, 0, 0, []),
  (4, .getfield 23, 7, 6, 2, 1, [101]),
  (7, .invokevirtual 58, 10, 60, 1, 100, [0, 130, 131, 132, 133, 27]),
  (10, .if_icmp .ge 83, 13, 93, 0, 0, []),
  (13, .aload_n 0, 14, 0, 0, 0, []),
  (14, .getfield 23, 17, 6, 2, 1, [101]),
  (17, .iload_n 1, 18, 1, 0, 0, []),
  (18, .invokevirtual 123, 21, 62, 2, 100, [0, 134, 135, 136, 137, 27]),
  (21, .checkcast 144, 24, 5, 0, 0, [433]),
  (24, .astore_n 2, 25, 2, 0, 0, []),
  (25, .aload_n 2, 26, 2, 0, 0, []),
  (26, .getfield 212, 29, 5, 0, 0, [530]),
  (29, .aload_n 0, 30, 0, 0, 0, []),
  (30, .getfield 137, 33, 6, 4, 0, [103]),
  (33, .if_icmp .ne 54, 36, 87, 0, 0, []),
  (36, .aload_n 0, 37, 0, 0, 0, []),
  (37, .invokevirtual 44, 40, 44, 1, 100, [6, 239, 241, 3, 242, 24]),
  (40, .ifCond .eq 47, 43, 87, 0, 0, []),
  (43, .aload_n 0, 44, 0, 0, 0, []),
  (44, .new 54, 47, 1, 10, 0, [148, 264, 38]),
  (47, .dup, 48, 0, 0, 0, []),
  (48, .aload_n 0, 49, 0, 0, 0, []),
  (49, .getfield 10, 52, 6, 0, 1, [99]),
  (52, .invokevirtual 58, 55, 60, 1, 100, [0, 130, 131, 132, 133, 27]),
  (55, .aload_n 2, 56, 2, 0, 0, []),
  (56, .getfield 215, 59, 5, 1, 0, [532]),
  (59, .aload_n 2, 60, 2, 0, 0, []),
  (60, .getfield 216, 63, 5, 2, 0, [534]),
  (63, .aload_n 2, 64, 2, 0, 0, []),
  (64, .getfield 217, 67, 5, 3, 0, [536]),
  (67, .aload_n 2, 68, 2, 0, 0, []),
  (68, .getfield 220, 71, 5, 4, 0, [538]),
  (71, .invokespecial 64, 74, 0, 6, 101, [0, 265, 266, 0, 267, 38]),
  (74, .invokevirtual 67, 77, 45, 2, 100, [6, 311, 313, 5, 314, 24]),
  (77, .astore_n 3, 78, 3, 0, 0, []),
  (78, .aload_n 3, 79, 3, 0, 0, []),
  (79, .iconst 1, 80, 1, 0, 0, []),
  (80, .putfield 71, 83, 1, 7, 2, [285]),
  (83, .aload_n 0, 84, 0, 0, 0, []),
  (84, .invokevirtual 84, 87, 46, 1, 100, [6, 400, 402, 9, 403, 24]),
  (87, .iinc 1 1, 90, 1, 1, 0, []),
  (90, .goto (-88), 93, 2, 0, 0, [])]
def zb48_1 : List zOp := [(93, .return_, 94, 0, 0, 0, [])]
def zb48 : List zOp := zb48_0 ++ (zb48_1)
def zb49 : List zOp := [(0, .iconst 0, 1, 0, 0, 0, []),
  (1, .istore_n 1, 2, 1, 0, 0, []),
  (2, .iload_n 1, 3, 1, 0, 0, []),
  (3, .aload_n 0, 4, 0, 0, 0, []),
  (4, .getfield 10, 7, 6, 0, 1, [99]),
  (7, .invokevirtual 58, 10, 60, 1, 100, [0, 130, 131, 132, 133, 27]),
  (10, .if_icmp .ge 32, 13, 42, 0, 0, []),
  (13, .aload_n 0, 14, 0, 0, 0, []),
  (14, .getfield 10, 17, 6, 0, 1, [99]),
  (17, .iload_n 1, 18, 1, 0, 0, []),
  (18, .invokevirtual 123, 21, 62, 2, 100, [0, 134, 135, 136, 137, 27]),
  (21, .checkcast 54, 24, 1, 0, 0, [148]),
  (24, .astore_n 2, 25, 2, 0, 0, []),
  (25, .aload_n 2, 26, 2, 0, 0, []),
  (26, .getfield 130, 29, 1, 8, 0, [288]),
  (29, .ifCond .eq 7, 32, 36, 0, 0, []),
  (32, .aload_n 2, 33, 2, 0, 0, []),
  (33, .invokevirtual 221, 36, 3, 1, 100, [1, 438, 439, 440, 441, 38]),
  (36, .iinc 1 1, 39, 1, 1, 0, []),
  (39, .goto (-37), 42, 2, 0, 0, []),
  (42, .return_, 43, 0, 0, 0, [])]
def zb50 : List zOp := [(0, .iconst 0, 1, 0, 0, 0, []),
  (1, .istore_n 1, 2, 1, 0, 0, []),
  (2, .iload_n 1, 3, 1, 0, 0, []),
  (3, .bipush 10, 5, 10, 0, 0, []),
  (5, .if_icmp .ge 32, 8, 37, 0, 0, []),
  (8, .aload_n 0, 9, 0, 0, 0, []),
  (9, .iload_n 1, 10, 1, 0, 0, []),
  (10, .iconst 0, 11, 0, 0, 0, []),
  (11, .invokevirtual 224, 14, 51, 3, 100, [6, 447, 449, 14, 450, 24]),
  (14, .ifCond .eq 17, 17, 31, 0, 0, []),
  (17, .aload_n 0, 18, 0, 0, 0, []),
  (18, .iload_n 1, 19, 1, 0, 0, []),
  (19, .iconst 1, 20, 1, 0, 0, []),
  (20, .invokevirtual 224, 23, 51, 3, 100, [6, 447, 449, 14, 450, 24]),
  (23, .ifCond .eq 8, 26, 31, 0, 0, []),
  (26, .aload_n 0, 27, 0, 0, 0, []),
  (27, .iload_n 1, 28, 1, 0, 0, []),
  (28, .invokevirtual 228, 31, 52, 2, 100, [6, 451, 453, 15, 454, 24]),
  (31, .iinc 1 1, 34, 1, 1, 0, []),
  (34, .goto (-32), 37, 2, 0, 0, []),
  (37, .aload_n 0, 38, 0, 0, 0, []),
  (38, .invokevirtual 84, 41, 46, 1, 100, [6, 400, 402, 9, 403, 24]),
  (41, .return_, 42, 0, 0, 0, [])]
def zb51 : List zOp := [(0, .iconst 0, 1, 0, 0, 0, []),
  (1, .istore_n 3, 2, 3, 0, 0, []),
  (2, .iload_n 3, 3, 3, 0, 0, []),
  (3, .aload_n 0, 4, 0, 0, 0, []),
  (4, .getfield 10, 7, 6, 0, 1, [99]),
  (7, .invokevirtual 58, 10, 60, 1, 100, [0, 130, 131, 132, 133, 27]),
  (10, .if_icmp .ge 50, 13, 60, 0, 0, []),
  (13, .aload_n 0, 14, 0, 0, 0, []),
  (14, .getfield 10, 17, 6, 0, 1, [99]),
  (17, .iload_n 3, 18, 3, 0, 0, []),
  (18, .invokevirtual 123, 21, 62, 2, 100, [0, 134, 135, 136, 137, 27]),
  (21, .checkcast 54, 24, 1, 0, 0, [148]),
  (24, .astore 4, 26, 4, 0, 0, []),
  (26, .aload 4, 28, 4, 0, 0, []),
  (28, .getfield 130, 31, 1, 8, 0, [288]),
  (31, .ifCond .eq 23, 34, 54, 0, 0, []),
  (34, .aload 4, 36, 4, 0, 0, []),
  (36, .getfield 117, 39, 1, 4, 0, [280]),
  (39, .iload_n 1, 40, 1, 0, 0, []),
  (40, .if_icmp .ne 14, 43, 54, 0, 0, []),
  (43, .aload 4, 45, 4, 0, 0, []),
  (45, .getfield 231, 48, 1, 1, 0, [274]),
  (48, .iload_n 2, 49, 2, 0, 0, []),
  (49, .if_icmp .ne 5, 52, 54, 0, 0, []),
  (52, .iconst 1, 53, 1, 0, 0, []),
  (53, .ireturn, 54, 0, 0, 2, []),
  (54, .iinc 3 1, 57, 3, 1, 0, []),
  (57, .goto (-55), 60, 2, 0, 0, []),
  (60, .iconst 0, 61, 0, 0, 0, []),
  (61, .ireturn, 62, 0, 0, 2, [])]
def zb52 : List zOp := [(0, .iconst 0, 1, 0, 0, 0, []),
  (1, .istore_n 2, 2, 2, 0, 0, []),
  (2, .iload_n 2, 3, 2, 0, 0, []),
  (3, .aload_n 0, 4, 0, 0, 0, []),
  (4, .getfield 10, 7, 6, 0, 1, [99]),
  (7, .invokevirtual 58, 10, 60, 1, 100, [0, 130, 131, 132, 133, 27]),
  (10, .if_icmp .ge 46, 13, 56, 0, 0, []),
  (13, .aload_n 0, 14, 0, 0, 0, []),
  (14, .getfield 10, 17, 6, 0, 1, [99]),
  (17, .iload_n 2, 18, 2, 0, 0, []),
  (18, .invokevirtual 123, 21, 62, 2, 100, [0, 134, 135, 136, 137, 27]),
  (21, .checkcast 54, 24, 1, 0, 0, [148]),
  (24, .astore_n 3, 25, 3, 0, 0, []),
  (25, .aload_n 3, 26, 3, 0, 0, []),
  (26, .getfield 130, 29, 1, 8, 0, [288]),
  (29, .ifCond .eq 21, 32, 50, 0, 0, []),
  (32, .aload_n 3, 33, 3, 0, 0, []),
  (33, .getfield 117, 36, 1, 4, 0, [280]),
  (36, .iload_n 1, 37, 1, 0, 0, []),
  (37, .if_icmp .ne 13, 40, 50, 0, 0, []),
  (40, .aload_n 3, 41, 3, 0, 0, []),
  (41, .dup, 42, 0, 0, 0, []),
  (42, .getfield 120, 45, 1, 6, 0, [284]),
  (45, .iconst 1, 46, 1, 0, 0, []),
  (46, .isub, 47, 0, 0, 0, []),
  (47, .putfield 120, 50, 1, 6, 0, [284]),
  (50, .iinc 2 1, 53, 2, 1, 0, []),
  (53, .goto (-51), 56, 2, 0, 0, []),
  (56, .return_, 57, 0, 0, 0, [])]
def zb53_0 : List zOp := [(0, .iconst (-1), 1, 1, 0, 1, []),
  (1, .istore_n 2, 2, 2, 0, 0, []),
  (2, .bipush 10, 4, 10, 0, 0, []),
  (4, .istore_n 3, 5, 3, 0, 0, []),
  (5, .iconst 0, 6, 0, 0, 0, []),
  (6, .istore 4, 8, 4, 0, 0, []),
  (8, .iload 4, 10, 4, 0, 0, []),
  (10, .aload_n 0, 11, 0, 0, 0, []),
  (11, .getfield 26, 14, 6, 3, 1, [102]),
  (14, .invokevirtual 58, 17, 60, 1, 100, [0, 130, 131, 132, 133, 27]),
  (17, .if_icmp .ge 84, 20, 101, 0, 0, []),
  (20, .aload_n 0, 21, 0, 0, 0, []),
  (21, .getfield 26, 24, 6, 3, 1, [102]),
  (24, .iload 4, 26, 4, 0, 0, []),
  (26, .invokevirtual 123, 29, 62, 2, 100, [0, 134, 135, 136, 137, 27]),
  (29, .checkcast 190, 32, 4, 0, 0, [503]),
  (32, .astore 5, 34, 5, 0, 0, []),
  (34, .aload 5, 36, 5, 0, 0, []),
  (36, .getfield 232, 39, 4, 0, 1, [624]),
  (39, .getfield 117, 42, 1, 4, 0, [280]),
  (42, .aload_n 0, 43, 0, 0, 0, []),
  (43, .getfield 185, 46, 6, 5, 0, [104]),
  (46, .isub, 47, 0, 0, 0, []),
  (47, .invokestatic 235, 50, 0, 0, 213, [504, 505, 31, 506]),
  (50, .istore 6, 52, 6, 0, 0, []),
  (52, .iload_n 1, 53, 1, 0, 0, []),
  (53, .iload 4, 55, 4, 0, 0, []),
  (55, .ishr, 56, 0, 0, 0, []),
  (56, .iconst 1, 57, 1, 0, 0, []),
  (57, .iand, 58, 0, 0, 0, []),
  (58, .iconst 1, 59, 1, 0, 0, []),
  (59, .if_icmp .ne 7, 62, 66, 0, 0, []),
  (62, .iconst 1, 63, 1, 0, 0, []),
  (63, .goto 4, 66, 67, 0, 0, []),
  (66, .iconst 0, 67, 0, 0, 0, []),
  (67, .istore 7, 69, 7, 0, 0, []),
  (69, .iload 7, 71, 7, 0, 0, []),
  (71, .ifCond .ne 24, 74, 95, 0, 0, []),
  (74, .aload_n 0, 75, 0, 0, 0, []),
  (75, .aload 5, 77, 5, 0, 0, []),
  (77, .invokevirtual 240, 80, 54, 2, 100, [6, 507, 509, 21, 510, 24]),
  (80, .ifCond .eq 15, 83, 95, 0, 0, []),
  (83, .iload 6, 85, 6, 0, 0, []),
  (85, .iload_n 3, 86, 3, 0, 0, []),
  (86, .if_icmp .ge 9, 89, 95, 0, 0, [])]
def zb53_1 : List zOp := [(89, .iload 4, 91, 4, 0, 0, []),
  (91, .istore_n 2, 92, 2, 0, 0, []),
  (92, .iload 6, 94, 6, 0, 0, []),
  (94, .istore_n 3, 95, 3, 0, 0, []),
  (95, .iinc 4 1, 98, 4, 1, 0, []),
  (98, .goto (-90), 101, 8, 0, 0, []),
  (101, .iload_n 2, 102, 2, 0, 0, []),
  (102, .ireturn, 103, 0, 0, 0, [])]
def zb53 : List zOp := zb53_0 ++ (zb53_1)
def zb54 : List zOp := [(0, .aload_n 1, 1, 1, 0, 0, []),
  (1, .getfield 232, 4, 4, 0, 1, [624]),
  (4, .getfield 130, 7, 1, 8, 0, [288]),
  (7, .ifCond .eq 20, 10, 27, 0, 0, []),
  (10, .aload_n 0, 11, 0, 0, 0, []),
  (11, .getfield 137, 14, 6, 4, 0, [103]),
  (14, .aload_n 1, 15, 1, 0, 0, []),
  (15, .getfield 244, 18, 4, 1, 0, [626]),
  (18, .isub, 19, 0, 0, 0, []),
  (19, .iconst 5, 20, 5, 0, 0, []),
  (20, .if_icmp .ge 7, 23, 27, 0, 0, []),
  (23, .iconst 1, 24, 1, 0, 0, []),
  (24, .goto 4, 27, 28, 0, 0, []),
  (27, .iconst 0, 28, 0, 0, 0, []),
  (28, .ireturn, 29, 0, 0, 2, [])]
def zb55 : List zOp := [(0, .aload_n 0, 1, 0, 0, 0, []),
  (1, .invokespecial 1, 4, 0, 0, 210, [64, 51, 52]),
  (4, .return_, 5, 0, 0, 0, [])]
def zb56 : List zOp := [(0, .aload_n 0, 1, 0, 0, 0, []),
  (1, .invokespecial 1, 4, 55, 1, 101, [0, 61, 62, 0, 63, 25]),
  (4, .aload_n 0, 5, 0, 0, 0, []),
  (5, .iconst 0, 6, 0, 0, 0, []),
  (6, .putfield 7, 9, 0, 0, 0, [69]),
  (9, .return_, 10, 0, 0, 0, [])]
def zb57 : List zOp := [(0, .aload_n 0, 1, 0, 0, 0, []),
  (1, .invokespecial 1, 4, 56, 1, 101, [0, 58, 59, 0, 60, 26]),
  (4, .aload_n 0, 5, 0, 0, 0, []),
  (5, .getstatic 39, 8, 0, 0, 0, [65]),
  (8, .putfield 9, 11, 0, 1, 1, [67]),
  (11, .return_, 12, 0, 0, 0, [])]
def zb58 : List zOp := [(0, .aload_n 0, 1, 0, 0, 0, []),
  (1, .getfield 9, 4, 0, 1, 1, [67]),
  (4, .arraylength, 5, 0, 0, 0, []),
  (5, .istore_n 2, 6, 2, 0, 0, []),
  (6, .iload_n 2, 7, 2, 0, 0, []),
  (7, .ifCond .gt 13, 10, 20, 0, 0, []),
  (10, .aload_n 0, 11, 0, 0, 0, []),
  (11, .getfield 9, 14, 0, 1, 1, [67]),
  (14, .getstatic 39, 17, 0, 0, 0, [65]),
  (17, .if_acmp .eq 28, 20, 45, 0, 0, []),
  (20, .iload_n 2, 21, 2, 0, 0, []),
  (21, .iload_n 1, 22, 1, 0, 0, []),
  (22, .iload_n 2, 23, 2, 0, 0, []),
  (23, .isub, 24, 0, 0, 0, []),
  (24, .iload_n 2, 25, 2, 0, 0, []),
  (25, .iconst 1, 26, 1, 0, 0, []),
  (26, .ishr, 27, 0, 0, 0, []),
  (27, .invokestatic 73, 30, 70, 3, 102, [0, 343, 344, 0, 345, 39]),
  (30, .istore_n 3, 31, 3, 0, 0, []),
  (31, .aload_n 0, 32, 0, 0, 0, []),
  (32, .aload_n 0, 33, 0, 0, 0, []),
  (33, .getfield 9, 36, 0, 1, 1, [67]),
  (36, .iload_n 3, 37, 3, 0, 0, []),
  (37, .invokestatic 66, 40, 67, 2, 102, [0, 353, 354, 0, 355, 40]),
  (40, .dup_x1, 41, 0, 0, 0, []),
  (41, .putfield 9, 44, 0, 1, 1, [67]),
  (44, .areturn, 45, 0, 0, 0, []),
  (45, .aload_n 0, 46, 0, 0, 0, []),
  (46, .bipush 10, 48, 10, 0, 0, []),
  (48, .iload_n 1, 49, 1, 0, 0, []),
  (49, .invokestatic 79, 52, 0, 0, 211, [382, 347, 31, 348]),
  (52, .anewarray 7, 55, 12, 0, 0, [383, 374]),
  (55, .dup_x1, 56, 0, 0, 0, []),
  (56, .putfield 9, 59, 0, 1, 1, [67]),
  (59, .areturn, 60, 0, 0, 0, [])]
def zb59 : List zOp := [(0, .aload_n 0, 1, 0, 0, 0, []),
  (1, .aload_n 0, 2, 0, 0, 0, []),
  (2, .getfield 48, 5, 0, 2, 0, [68]),
  (5, .iconst 1, 6, 1, 0, 0, []),
  (6, .iadd, 7, 0, 0, 0, []),
  (7, .invokevirtual 69, 10, 58, 2, 100, [0, 339, 341, 8, 342, 27]),
  (10, .areturn, 11, 0, 0, 0, [])]
def zb60 : List zOp := [(0, .aload_n 0, 1, 0, 0, 0, []),
  (1, .getfield 48, 4, 0, 2, 0, [68]),
  (4, .ireturn, 5, 0, 0, 0, [])]
def zb61 : List zOp := [(0, .aload_n 0, 1, 0, 0, 0, []),
  (1, .getfield 9, 4, 0, 1, 1, [67]),
  (4, .iload_n 1, 5, 1, 0, 0, []),
  (5, .aaload, 6, 0, 0, 0, []),
  (6, .areturn, 7, 0, 0, 0, [])]
def zb62 : List zOp := [(0, .iload_n 1, 1, 1, 0, 0, []),
  (1, .aload_n 0, 2, 0, 0, 0, []),
  (2, .getfield 48, 5, 0, 2, 0, [68]),
  (5, .invokestatic 118, 8, 69, 2, 102, [0, 138, 139, 0, 140, 29]),
  (8, .pop, 9, 0, 0, 0, []),
  (9, .aload_n 0, 10, 0, 0, 0, []),
  (10, .iload_n 1, 11, 1, 0, 0, []),
  (11, .invokevirtual 123, 14, 61, 2, 100, [0, 144, 145, 146, 147, 27]),
  (14, .areturn, 15, 0, 0, 0, [])]
def zb63 : List zOp := [(0, .iload_n 3, 1, 3, 0, 0, []),
  (1, .aload_n 2, 2, 2, 0, 0, []),
  (2, .arraylength, 3, 0, 0, 0, []),
  (3, .if_icmp .ne 8, 6, 11, 0, 0, []),
  (6, .aload_n 0, 7, 0, 0, 0, []),
  (7, .invokevirtual 129, 10, 59, 1, 100, [0, 335, 337, 7, 338, 27]),
  (10, .astore_n 2, 11, 2, 0, 0, []),
  (11, .aload_n 2, 12, 2, 0, 0, []),
  (12, .iload_n 3, 13, 3, 0, 0, []),
  (13, .aload_n 1, 14, 1, 0, 0, []),
  (14, .aastore, 15, 0, 0, 0, []),
  (15, .aload_n 0, 16, 0, 0, 0, []),
  (16, .iload_n 3, 17, 3, 0, 0, []),
  (17, .iconst 1, 18, 1, 0, 0, []),
  (18, .iadd, 19, 0, 0, 0, []),
  (19, .putfield 48, 22, 0, 2, 0, [68]),
  (22, .return_, 23, 0, 0, 0, [])]
def zb64 : List zOp := [(0, .aload_n 0, 1, 0, 0, 0, []),
  (1, .dup, 2, 0, 0, 0, []),
  (2, .getfield 63, 5, 0, 0, 0, [70, 71]),
  (5, .iconst 1, 6, 1, 0, 0, []),
  (6, .iadd, 7, 0, 0, 0, []),
  (7, .putfield 63, 10, 0, 0, 0, [70, 71]),
  (10, .aload_n 0, 11, 0, 0, 0, []),
  (11, .aload_n 1, 12, 1, 0, 0, []),
  (12, .aload_n 0, 13, 0, 0, 0, []),
  (13, .getfield 9, 16, 0, 1, 1, [67]),
  (16, .aload_n 0, 17, 0, 0, 0, []),
  (17, .getfield 48, 20, 0, 2, 0, [68]),
  (20, .invokevirtual 131, 23, 63, 4, 100, [0, 331, 333, 6, 334, 27]),
  (23, .iconst 1, 24, 1, 0, 0, []),
  (24, .ireturn, 25, 0, 0, 2, [])]
def zb65 : List zOp := [(0, .iload_n 1, 1, 1, 0, 0, []),
  (1, .aload_n 0, 2, 0, 0, 0, []),
  (2, .getfield 48, 5, 0, 2, 0, [68]),
  (5, .invokestatic 118, 8, 69, 2, 102, [0, 138, 139, 0, 140, 29]),
  (8, .pop, 9, 0, 0, 0, []),
  (9, .aload_n 0, 10, 0, 0, 0, []),
  (10, .getfield 9, 13, 0, 1, 1, [67]),
  (13, .astore_n 2, 14, 2, 0, 0, []),
  (14, .aload_n 2, 15, 2, 0, 0, []),
  (15, .iload_n 1, 16, 1, 0, 0, []),
  (16, .aaload, 17, 0, 0, 0, []),
  (17, .astore_n 3, 18, 3, 0, 0, []),
  (18, .aload_n 0, 19, 0, 0, 0, []),
  (19, .aload_n 2, 20, 2, 0, 0, []),
  (20, .iload_n 1, 21, 1, 0, 0, []),
  (21, .invokevirtual 144, 24, 66, 3, 100, [0, 574, 576, 22, 577, 27]),
  (24, .aload_n 3, 25, 3, 0, 0, []),
  (25, .areturn, 26, 0, 0, 0, [])]
def zb66 : List zOp := [(0, .aload_n 0, 1, 0, 0, 0, []),
  (1, .dup, 2, 0, 0, 0, []),
  (2, .getfield 63, 5, 0, 0, 0, [70, 71]),
  (5, .iconst 1, 6, 1, 0, 0, []),
  (6, .iadd, 7, 0, 0, 0, []),
  (7, .putfield 63, 10, 0, 0, 0, [70, 71]),
  (10, .aload_n 0, 11, 0, 0, 0, []),
  (11, .getfield 48, 14, 0, 2, 0, [68]),
  (14, .iconst 1, 15, 1, 0, 0, []),
  (15, .isub, 16, 0, 0, 0, []),
  (16, .dup, 17, 0, 0, 0, []),
  (17, .istore_n 3, 18, 3, 0, 0, []),
  (18, .iload_n 2, 19, 2, 0, 0, []),
  (19, .if_icmp .le 15, 22, 34, 0, 0, []),
  (22, .aload_n 1, 23, 1, 0, 0, []),
  (23, .iload_n 2, 24, 2, 0, 0, []),
  (24, .iconst 1, 25, 1, 0, 0, []),
  (25, .iadd, 26, 0, 0, 0, []),
  (26, .aload_n 1, 27, 1, 0, 0, []),
  (27, .iload_n 2, 28, 2, 0, 0, []),
  (28, .iload_n 3, 29, 3, 0, 0, []),
  (29, .iload_n 2, 30, 2, 0, 0, []),
  (30, .isub, 31, 0, 0, 0, []),
  (31, .invokestatic 112, 34, 0, 0, 214, [578, 381, 380, 41]),
  (34, .aload_n 1, 35, 1, 0, 0, []),
  (35, .aload_n 0, 36, 0, 0, 0, []),
  (36, .iload_n 3, 37, 3, 0, 0, []),
  (37, .dup_x1, 38, 0, 0, 0, []),
  (38, .putfield 48, 41, 0, 2, 0, [68]),
  (41, .aconst_null, 42, 0, 0, 0, []),
  (42, .aastore, 43, 0, 0, 0, []),
  (43, .return_, 44, 0, 0, 0, [])]
def zb67 : List zOp := [(0, .aload_n 0, 1, 0, 0, 0, []),
  (1, .iload_n 1, 2, 1, 0, 0, []),
  (2, .aload_n 0, 3, 0, 0, 0, []),
  (3, .invokevirtual 86, 6, 0, 0, 215, [356, 660, 357, 369]),
  (6, .invokestatic 300, 9, 68, 3, 102, [0, 370, 371, 0, 372, 40]),
  (9, .areturn, 10, 0, 0, 0, [])]
def zb68 : List zOp := [(0, .aload_n 2, 1, 2, 0, 0, []),
  (1, .ldc 110, 3, 0, 0, 5, [373]),
  (3, .if_acmp .ne 10, 6, 13, 0, 0, []),
  (6, .iload_n 1, 7, 1, 0, 0, []),
  (7, .anewarray 2, 10, 12, 0, 0, [375, 374]),
  (10, .goto 14, 13, 24, 0, 0, []),
  (13, .aload_n 2, 14, 2, 0, 0, []),
  (17, .iload_n 1, 18, 1, 0, 0, []),
  (24, .astore_n 3, 25, 3, 0, 0, []),
  (25, .aload_n 0, 26, 0, 0, 0, []),
  (26, .iconst 0, 27, 0, 0, 0, []),
  (27, .aload_n 3, 28, 3, 0, 0, []),
  (28, .iconst 0, 29, 0, 0, 0, []),
  (29, .aload_n 0, 30, 0, 0, 0, []),
  (30, .arraylength, 31, 0, 0, 0, []),
  (31, .iload_n 1, 32, 1, 0, 0, []),
  (32, .invokestatic 304, 35, 0, 0, 212, [376, 377, 31, 378]),
  (35, .invokestatic 150, 38, 0, 0, 214, [379, 381, 380, 41]),
  (38, .aload_n 3, 39, 3, 0, 0, []),
  (39, .areturn, 40, 0, 0, 0, [])]
def zb69 : List zOp := [(0, .iload_n 0, 1, 0, 0, 0, []),
  (1, .iload_n 1, 2, 1, 0, 0, []),
  (2, .aconst_null, 3, 0, 0, 0, []),
  (3, .invokestatic 105, 6, 71, 3, 102, [0, 141, 142, 0, 143, 30]),
  (6, .ireturn, 7, 0, 0, 0, [])]
def zb70 : List zOp := [(0, .iload_n 0, 1, 0, 0, 0, []),
  (1, .iload_n 1, 2, 1, 0, 0, []),
  (2, .iload_n 2, 3, 2, 0, 0, []),
  (3, .invokestatic 194, 6, 0, 0, 211, [346, 347, 31, 348]),
  (6, .iadd, 7, 0, 0, 0, []),
  (7, .istore_n 3, 8, 3, 0, 0, []),
  (8, .iconst 0, 9, 0, 0, 0, []),
  (9, .iload_n 3, 10, 3, 0, 0, []),
  (10, .if_icmp .ge 11, 13, 21, 0, 0, []),
  (13, .iload_n 3, 14, 3, 0, 0, []),
  (14, .ldc 200, 16, 2147483639, 0, 0, [349]),
  (16, .if_icmp .gt 5, 19, 21, 0, 0, []),
  (19, .iload_n 3, 20, 3, 0, 0, []),
  (20, .ireturn, 21, 0, 0, 0, []),
  (21, .iload_n 0, 22, 0, 0, 0, []),
  (22, .iload_n 1, 23, 1, 0, 0, []),
  (26, .ireturn, 27, 0, 0, 0, [])]
def zb71 : List zOp := [(0, .iload_n 0, 1, 0, 0, 0, []),
  (1, .ifCond .lt 8, 4, 9, 0, 0, []),
  (4, .iload_n 0, 5, 0, 0, 0, []),
  (5, .iload_n 1, 6, 1, 0, 0, []),
  (6, .if_icmp .lt 10, 9, 16, 0, 0, []),
  (9, .aload_n 2, 10, 2, 0, 0, []),
  (10, .iload_n 0, 11, 0, 0, 0, []),
  (11, .iload_n 1, 12, 1, 0, 0, []),
  (15, .athrow, 16, 0, 0, 0, []),
  (16, .iload_n 0, 17, 0, 0, 0, []),
  (17, .ireturn, 18, 0, 0, 0, [])]
def zb72_0 : List zOp := [(0, .iload_n 1, 1, 1, 0, 0, []),
  (1, .ifCond .ne 11, 4, 12, 0, 0, []),
  (4, .aload_n 0, 5, 0, 0, 0, []),
  (5, .iload_n 2, 6, 2, 0, 0, []),
  (6, .invokevirtual 7, 9, 17, 2, 100, [6, 553, 554, 555, 556, 24]),
  (9, .goto 148, 12, 157, 0, 0, []),
  (12, .iload_n 1, 13, 1, 0, 0, []),
  (13, .iconst 1, 14, 1, 0, 0, []),
  (14, .if_icmp .ne 14, 17, 28, 0, 0, []),
  (17, .aload_n 0, 18, 0, 0, 0, []),
  (18, .iload_n 2, 19, 2, 0, 0, []),
  (19, .iload_n 3, 20, 3, 0, 0, []),
  (20, .iload 4, 22, 4, 0, 0, []),
  (22, .invokevirtual 13, 25, 18, 4, 100, [6, 558, 559, 560, 561, 24]),
  (25, .goto 132, 28, 157, 0, 0, []),
  (28, .iload_n 1, 29, 1, 0, 0, []),
  (29, .iconst 2, 30, 2, 0, 0, []),
  (30, .if_icmp .ne 12, 33, 42, 0, 0, []),
  (33, .aload_n 0, 34, 0, 0, 0, []),
  (34, .iload_n 2, 35, 2, 0, 0, []),
  (35, .iload_n 3, 36, 3, 0, 0, []),
  (36, .invokevirtual 17, 39, 19, 3, 100, [6, 565, 566, 567, 568, 24]),
  (39, .goto 118, 42, 157, 0, 0, []),
  (42, .iload_n 1, 43, 1, 0, 0, []),
  (43, .iconst 3, 44, 3, 0, 0, []),
  (44, .if_icmp .ne 11, 47, 55, 0, 0, []),
  (47, .aload_n 0, 48, 0, 0, 0, []),
  (48, .iload_n 2, 49, 2, 0, 0, []),
  (49, .invokevirtual 21, 52, 22, 2, 100, [6, 579, 580, 581, 582, 24]),
  (52, .goto 105, 55, 157, 0, 0, []),
  (55, .iload_n 1, 56, 1, 0, 0, []),
  (56, .iconst 4, 57, 4, 0, 0, []),
  (57, .if_icmp .ne 11, 60, 68, 0, 0, []),
  (60, .aload_n 0, 61, 0, 0, 0, []),
  (61, .iload_n 2, 62, 2, 0, 0, []),
  (62, .invokevirtual 24, 65, 23, 2, 100, [6, 583, 584, 585, 586, 24]),
  (65, .goto 92, 68, 157, 0, 0, []),
  (68, .iload_n 1, 69, 1, 0, 0, []),
  (69, .iconst 5, 70, 5, 0, 0, []),
  (70, .if_icmp .ne 11, 73, 81, 0, 0, []),
  (73, .aload_n 0, 74, 0, 0, 0, []),
  (74, .iload_n 2, 75, 2, 0, 0, []),
  (75, .invokevirtual 27, 78, 24, 2, 100, [6, 587, 588, 589, 590, 24]),
  (78, .goto 79, 81, 157, 0, 0, []),
  (81, .iload_n 1, 82, 1, 0, 0, [])]
def zb72_1 : List zOp := [(82, .bipush 6, 84, 6, 0, 0, []),
  (84, .if_icmp .ne 12, 87, 96, 0, 0, []),
  (87, .aload_n 0, 88, 0, 0, 0, []),
  (88, .iload_n 2, 89, 2, 0, 0, []),
  (89, .iload_n 3, 90, 3, 0, 0, []),
  (90, .invokevirtual 30, 93, 25, 3, 100, [6, 591, 592, 593, 594, 24]),
  (93, .goto 64, 96, 157, 0, 0, []),
  (96, .iload_n 1, 97, 1, 0, 0, []),
  (97, .bipush 7, 99, 7, 0, 0, []),
  (99, .if_icmp .ne 11, 102, 110, 0, 0, []),
  (102, .aload_n 0, 103, 0, 0, 0, []),
  (103, .iload_n 2, 104, 2, 0, 0, []),
  (104, .invokevirtual 33, 107, 26, 2, 100, [6, 595, 596, 597, 598, 24]),
  (107, .goto 50, 110, 157, 0, 0, []),
  (110, .iload_n 1, 111, 1, 0, 0, []),
  (111, .bipush 8, 113, 8, 0, 0, []),
  (113, .if_icmp .ne 11, 116, 124, 0, 0, []),
  (116, .aload_n 0, 117, 0, 0, 0, []),
  (117, .iload_n 2, 118, 2, 0, 0, []),
  (118, .invokevirtual 36, 121, 28, 2, 100, [6, 423, 424, 425, 426, 24]),
  (121, .goto 36, 124, 157, 0, 0, []),
  (124, .iload_n 1, 125, 1, 0, 0, []),
  (125, .bipush 9, 127, 9, 0, 0, []),
  (127, .if_icmp .ne 11, 130, 138, 0, 0, []),
  (130, .aload_n 0, 131, 0, 0, 0, []),
  (131, .iload_n 2, 132, 2, 0, 0, []),
  (132, .invokevirtual 39, 135, 32, 2, 100, [6, 603, 604, 605, 606, 24]),
  (135, .goto 22, 138, 157, 0, 0, []),
  (138, .iload_n 1, 139, 1, 0, 0, []),
  (139, .bipush 10, 141, 10, 0, 0, []),
  (141, .if_icmp .ne 11, 144, 152, 0, 0, []),
  (144, .aload_n 0, 145, 0, 0, 0, []),
  (145, .iload_n 2, 146, 2, 0, 0, []),
  (146, .invokevirtual 42, 149, 35, 2, 100, [6, 608, 609, 610, 611, 24]),
  (149, .goto 8, 152, 157, 0, 0, []),
  (152, .aload_n 0, 153, 0, 0, 0, []),
  (153, .iload_n 2, 154, 2, 0, 0, []),
  (154, .invokevirtual 45, 157, 36, 2, 100, [6, 613, 614, 615, 616, 24]),
  (157, .ireturn, 158, 0, 0, 0, []),
  (158, .astore 5, 160, 5, 0, 0, []),
  (160, .bipush (-71), 162, 71, 0, 1, []),
  (162, .ireturn, 163, 0, 0, 0, []),
  (163, .astore 5, 165, 5, 0, 0, []),
  (165, .bipush (-72), 167, 72, 0, 1, []),
  (167, .ireturn, 168, 0, 0, 0, [])]
def zb72_2 : List zOp := [(168, .astore 5, 170, 5, 0, 0, []),
  (170, .bipush (-73), 172, 73, 0, 1, []),
  (172, .ireturn, 173, 0, 0, 0, [])]
def zb72 : List zOp := zb72_0 ++ (zb72_1 ++ (zb72_2))
def zb73 : List zOp := [(0, .iload_n 1, 1, 1, 0, 0, []),
  (1, .ifCond .eq 18, 4, 19, 0, 0, []),
  (4, .aload_n 0, 5, 0, 0, 0, []),
  (5, .iload_n 2, 6, 2, 0, 0, []),
  (6, .iload_n 3, 7, 3, 0, 0, []),
  (7, .iload 4, 9, 4, 0, 0, []),
  (9, .iload 5, 11, 5, 0, 0, []),
  (11, .iload 6, 13, 6, 0, 0, []),
  (13, .invokevirtual 54, 16, 27, 6, 100, [6, 518, 519, 520, 521, 24]),
  (16, .goto 15, 19, 31, 0, 0, []),
  (19, .aload_n 0, 20, 0, 0, 0, []),
  (20, .iload_n 2, 21, 2, 0, 0, []),
  (21, .iload_n 3, 22, 3, 0, 0, []),
  (22, .iload 4, 24, 4, 0, 0, []),
  (24, .iload 5, 26, 5, 0, 0, []),
  (26, .iload 6, 28, 6, 0, 0, []),
  (28, .invokevirtual 58, 31, 16, 6, 100, [6, 118, 119, 120, 121, 24]),
  (31, .ireturn, 32, 0, 0, 0, []),
  (32, .astore 7, 34, 7, 0, 0, []),
  (34, .bipush (-71), 36, 71, 0, 1, []),
  (36, .ireturn, 37, 0, 0, 0, []),
  (37, .astore 7, 39, 7, 0, 0, []),
  (39, .bipush (-72), 41, 72, 0, 1, []),
  (41, .ireturn, 42, 0, 0, 0, []),
  (42, .astore 7, 44, 7, 0, 0, []),
  (44, .bipush (-73), 46, 73, 0, 1, []),
  (46, .ireturn, 47, 0, 0, 0, [])]
def zb74_0 : List zOp := [(0, .aload_n 0, 1, 0, 0, 0, []),
  (1, .invokevirtual 61, 4, 21, 1, 100, [6, 419, 420, 421, 422, 24]),
  (4, .istore_n 3, 5, 3, 0, 0, []),
  (5, .aload_n 0, 6, 0, 0, 0, []),
  (6, .invokevirtual 65, 9, 33, 1, 100, [6, 476, 477, 478, 479, 24]),
  (9, .istore 4, 11, 4, 0, 0, []),
  (11, .aload_n 0, 12, 0, 0, 0, []),
  (12, .invokevirtual 68, 15, 31, 1, 100, [6, 491, 492, 493, 494, 24]),
  (15, .istore 5, 17, 5, 0, 0, []),
  (17, .aload_n 0, 18, 0, 0, 0, []),
  (18, .invokevirtual 71, 21, 29, 1, 100, [6, 472, 473, 474, 475, 24]),
  (21, .istore 6, 23, 6, 0, 0, []),
  (23, .aload_n 0, 24, 0, 0, 0, []),
  (24, .invokevirtual 74, 27, 37, 1, 100, [6, 495, 496, 497, 498, 24]),
  (27, .istore 7, 29, 7, 0, 0, []),
  (29, .ldc 77, 31, 2147483639, 0, 0, [511]),
  (31, .istore 8, 33, 8, 0, 0, []),
  (33, .iconst 0, 34, 0, 0, 0, []),
  (34, .istore 9, 36, 9, 0, 0, []),
  (36, .iload 9, 38, 9, 0, 0, []),
  (38, .iconst 4, 39, 4, 0, 0, []),
  (39, .if_icmp .ge 682, 42, 721, 0, 0, []),
  (42, .iload 9, 44, 9, 0, 0, []),
  (44, .ifCond .ne 8, 47, 52, 0, 0, []),
  (47, .bipush (-2), 49, 2, 0, 1, []),
  (49, .goto 29, 52, 78, 0, 0, []),
  (52, .iload 9, 54, 9, 0, 0, []),
  (54, .iconst 1, 55, 1, 0, 0, []),
  (55, .if_icmp .ne 7, 58, 62, 0, 0, []),
  (58, .iload_n 2, 59, 2, 0, 0, []),
  (59, .goto 19, 62, 78, 0, 0, []),
  (62, .iload 9, 64, 9, 0, 0, []),
  (64, .iconst 2, 65, 2, 0, 0, []),
  (65, .if_icmp .ne 8, 68, 73, 0, 0, []),
  (68, .iload 8, 70, 8, 0, 0, []),
  (70, .goto 8, 73, 78, 0, 0, []),
  (73, .iload 8, 75, 8, 0, 0, []),
  (75, .ineg, 76, 0, 0, 0, []),
  (76, .iconst 1, 77, 1, 0, 0, []),
  (77, .isub, 78, 0, 0, 0, []),
  (78, .istore 10, 80, 10, 0, 0, []),
  (80, .iload 9, 82, 9, 0, 0, []),
  (82, .iconst 2, 83, 2, 0, 0, []),
  (83, .if_icmp .ge 7, 86, 90, 0, 0, []),
  (86, .iconst (-1), 87, 1, 0, 1, [])]
def zb74_1 : List zOp := [(87, .goto 5, 90, 92, 0, 0, []),
  (90, .iload 10, 92, 10, 0, 0, []),
  (92, .istore 11, 94, 11, 0, 0, []),
  (94, .iload 9, 96, 9, 0, 0, []),
  (96, .ifCond .ne 7, 99, 103, 0, 0, []),
  (99, .iconst (-1), 100, 1, 0, 1, []),
  (100, .goto 16, 103, 116, 0, 0, []),
  (103, .iload 9, 105, 9, 0, 0, []),
  (105, .iconst 1, 106, 1, 0, 0, []),
  (106, .if_icmp .ne 8, 109, 114, 0, 0, []),
  (109, .bipush 10, 111, 10, 0, 0, []),
  (111, .goto 5, 114, 116, 0, 0, []),
  (114, .iload 10, 116, 10, 0, 0, []),
  (116, .istore 12, 118, 12, 0, 0, []),
  (118, .iload 9, 120, 9, 0, 0, []),
  (120, .ifCond .ne 7, 123, 127, 0, 0, []),
  (123, .iconst (-1), 124, 1, 0, 1, []),
  (124, .goto 15, 127, 139, 0, 0, []),
  (127, .iload 9, 129, 9, 0, 0, []),
  (129, .iconst 1, 130, 1, 0, 0, []),
  (130, .if_icmp .ne 7, 133, 137, 0, 0, []),
  (133, .iconst 3, 134, 3, 0, 0, []),
  (134, .goto 5, 137, 139, 0, 0, []),
  (137, .iload 10, 139, 10, 0, 0, []),
  (139, .istore 13, 141, 13, 0, 0, []),
  (141, .iload 9, 143, 9, 0, 0, []),
  (143, .ifCond .ne 8, 146, 151, 0, 0, []),
  (146, .bipush (-2), 148, 2, 0, 1, []),
  (148, .goto 15, 151, 163, 0, 0, []),
  (151, .iload 9, 153, 9, 0, 0, []),
  (153, .iconst 1, 154, 1, 0, 0, []),
  (154, .if_icmp .ne 7, 157, 161, 0, 0, []),
  (157, .iconst 2, 158, 2, 0, 0, []),
  (158, .goto 5, 161, 163, 0, 0, []),
  (161, .iload 10, 163, 10, 0, 0, []),
  (163, .istore 14, 165, 14, 0, 0, []),
  (165, .iload 9, 167, 9, 0, 0, []),
  (167, .ifCond .ne 7, 170, 174, 0, 0, []),
  (170, .iconst (-1), 171, 1, 0, 1, []),
  (171, .goto 15, 174, 186, 0, 0, []),
  (174, .iload 9, 176, 9, 0, 0, []),
  (176, .iconst 1, 177, 1, 0, 0, []),
  (177, .if_icmp .ne 7, 180, 184, 0, 0, []),
  (180, .iconst 3, 181, 3, 0, 0, []),
  (181, .goto 5, 184, 186, 0, 0, [])]
def zb74_2 : List zOp := [(184, .iload 10, 186, 10, 0, 0, []),
  (186, .istore 15, 188, 15, 0, 0, []),
  (188, .aload_n 0, 189, 0, 0, 0, []),
  (189, .iconst 0, 190, 0, 0, 0, []),
  (190, .iload 10, 192, 10, 0, 0, []),
  (192, .iconst (-1), 193, 1, 0, 1, []),
  (193, .bipush 9, 195, 9, 0, 0, []),
  (195, .bipush 9, 197, 9, 0, 0, []),
  (197, .iconst 0, 198, 0, 0, 0, []),
  (198, .invokestatic 78, 201, 73, 7, 104, [0, 512, 513, 0, 514, 23]),
  (201, .bipush (-71), 203, 71, 0, 1, []),
  (203, .if_icmp .ne 293, 206, 496, 0, 0, []),
  (206, .aload_n 0, 207, 0, 0, 0, []),
  (207, .iconst 0, 208, 0, 0, 0, []),
  (208, .iload 10, 210, 10, 0, 0, []),
  (210, .iconst 0, 211, 0, 0, 0, []),
  (211, .iconst 0, 212, 0, 0, 0, []),
  (212, .invokestatic 84, 215, 72, 5, 104, [0, 550, 551, 0, 552, 23]),
  (215, .bipush (-71), 217, 71, 0, 1, []),
  (217, .if_icmp .ne 279, 220, 496, 0, 0, []),
  (220, .aload_n 0, 221, 0, 0, 0, []),
  (221, .iconst 1, 222, 1, 0, 0, []),
  (222, .iload 10, 224, 10, 0, 0, []),
  (224, .iload_n 1, 225, 1, 0, 0, []),
  (225, .iconst 0, 226, 0, 0, 0, []),
  (226, .invokestatic 84, 229, 72, 5, 104, [0, 550, 551, 0, 552, 23]),
  (229, .bipush (-71), 231, 71, 0, 1, []),
  (231, .if_icmp .ne 265, 234, 496, 0, 0, []),
  (234, .aload_n 0, 235, 0, 0, 0, []),
  (235, .iconst 1, 236, 1, 0, 0, []),
  (236, .iload_n 1, 237, 1, 0, 0, []),
  (237, .iload 10, 239, 10, 0, 0, []),
  (239, .iconst 0, 240, 0, 0, 0, []),
  (240, .invokestatic 84, 243, 72, 5, 104, [0, 550, 551, 0, 552, 23]),
  (243, .bipush (-71), 245, 71, 0, 1, []),
  (245, .if_icmp .ne 251, 248, 496, 0, 0, []),
  (248, .aload_n 0, 249, 0, 0, 0, []),
  (249, .iconst 1, 250, 1, 0, 0, []),
  (250, .iload_n 1, 251, 1, 0, 0, []),
  (251, .iload_n 1, 252, 1, 0, 0, []),
  (252, .iload 13, 254, 13, 0, 0, []),
  (254, .invokestatic 84, 257, 72, 5, 104, [0, 550, 551, 0, 552, 23]),
  (257, .bipush (-71), 259, 71, 0, 1, []),
  (259, .if_icmp .ne 237, 262, 496, 0, 0, []),
  (262, .aload_n 0, 263, 0, 0, 0, [])]
def zb74_3 : List zOp := [(263, .iconst 2, 264, 2, 0, 0, []),
  (264, .iload 10, 266, 10, 0, 0, []),
  (266, .iconst 0, 267, 0, 0, 0, []),
  (267, .iconst 0, 268, 0, 0, 0, []),
  (268, .invokestatic 84, 271, 72, 5, 104, [0, 550, 551, 0, 552, 23]),
  (271, .bipush (-71), 273, 71, 0, 1, []),
  (273, .if_icmp .ne 223, 276, 496, 0, 0, []),
  (276, .aload_n 0, 277, 0, 0, 0, []),
  (277, .iconst 2, 278, 2, 0, 0, []),
  (278, .iload_n 1, 279, 1, 0, 0, []),
  (279, .iload 15, 281, 15, 0, 0, []),
  (281, .iconst 0, 282, 0, 0, 0, []),
  (282, .invokestatic 84, 285, 72, 5, 104, [0, 550, 551, 0, 552, 23]),
  (285, .bipush (-71), 287, 71, 0, 1, []),
  (287, .if_icmp .ne 209, 290, 496, 0, 0, []),
  (290, .aload_n 0, 291, 0, 0, 0, []),
  (291, .bipush 6, 293, 6, 0, 0, []),
  (293, .iload 10, 295, 10, 0, 0, []),
  (295, .iconst 0, 296, 0, 0, 0, []),
  (296, .iconst 0, 297, 0, 0, 0, []),
  (297, .invokestatic 84, 300, 72, 5, 104, [0, 550, 551, 0, 552, 23]),
  (300, .bipush (-71), 302, 71, 0, 1, []),
  (302, .if_icmp .ne 194, 305, 496, 0, 0, []),
  (305, .aload_n 0, 306, 0, 0, 0, []),
  (306, .bipush 6, 308, 6, 0, 0, []),
  (308, .iload_n 1, 309, 1, 0, 0, []),
  (309, .iload 15, 311, 15, 0, 0, []),
  (311, .iconst 0, 312, 0, 0, 0, []),
  (312, .invokestatic 84, 315, 72, 5, 104, [0, 550, 551, 0, 552, 23]),
  (315, .bipush (-71), 317, 71, 0, 1, []),
  (317, .if_icmp .ne 179, 320, 496, 0, 0, []),
  (320, .aload_n 0, 321, 0, 0, 0, []),
  (321, .bipush 11, 323, 11, 0, 0, []),
  (323, .iload 10, 325, 10, 0, 0, []),
  (325, .iconst 0, 326, 0, 0, 0, []),
  (326, .iconst 0, 327, 0, 0, 0, []),
  (327, .invokestatic 84, 330, 72, 5, 104, [0, 550, 551, 0, 552, 23]),
  (330, .bipush (-71), 332, 71, 0, 1, []),
  (332, .if_icmp .ne 164, 335, 496, 0, 0, []),
  (335, .aload_n 0, 336, 0, 0, 0, []),
  (336, .iconst 0, 337, 0, 0, 0, []),
  (337, .iload 11, 339, 11, 0, 0, []),
  (339, .iconst 0, 340, 0, 0, 0, []),
  (340, .iconst 0, 341, 0, 0, 0, []),
  (341, .invokestatic 84, 344, 72, 5, 104, [0, 550, 551, 0, 552, 23])]
def zb74_4 : List zOp := [(344, .bipush (-71), 346, 71, 0, 1, []),
  (346, .if_icmp .ne 150, 349, 496, 0, 0, []),
  (349, .aload_n 0, 350, 0, 0, 0, []),
  (350, .iload 10, 352, 10, 0, 0, []),
  (352, .invokevirtual 88, 355, 20, 2, 100, [6, 415, 416, 417, 418, 24]),
  (355, .ifCond .ne 141, 358, 496, 0, 0, []),
  (358, .aload_n 0, 359, 0, 0, 0, []),
  (359, .iload 11, 361, 11, 0, 0, []),
  (361, .invokevirtual 88, 364, 20, 2, 100, [6, 415, 416, 417, 418, 24]),
  (364, .ifCond .ne 132, 367, 496, 0, 0, []),
  (367, .aload_n 0, 368, 0, 0, 0, []),
  (368, .bipush 9, 370, 9, 0, 0, []),
  (370, .iload 9, 372, 9, 0, 0, []),
  (372, .ifCond .ne 7, 375, 379, 0, 0, []),
  (375, .iconst (-1), 376, 1, 0, 1, []),
  (376, .goto 16, 379, 392, 0, 0, []),
  (379, .iload 9, 381, 9, 0, 0, []),
  (381, .iconst 1, 382, 1, 0, 0, []),
  (382, .if_icmp .ne 8, 385, 390, 0, 0, []),
  (385, .bipush 12, 387, 12, 0, 0, []),
  (387, .goto 5, 390, 392, 0, 0, []),
  (390, .iload 10, 392, 10, 0, 0, []),
  (392, .iconst 0, 393, 0, 0, 0, []),
  (393, .iconst 0, 394, 0, 0, 0, []),
  (394, .invokestatic 84, 397, 72, 5, 104, [0, 550, 551, 0, 552, 23]),
  (397, .bipush (-71), 399, 71, 0, 1, []),
  (399, .if_icmp .ne 97, 402, 496, 0, 0, []),
  (402, .aload_n 0, 403, 0, 0, 0, []),
  (403, .bipush 10, 405, 10, 0, 0, []),
  (405, .iload 12, 407, 12, 0, 0, []),
  (407, .iconst 0, 408, 0, 0, 0, []),
  (408, .iconst 0, 409, 0, 0, 0, []),
  (409, .invokestatic 84, 412, 72, 5, 104, [0, 550, 551, 0, 552, 23]),
  (412, .bipush (-72), 414, 72, 0, 1, []),
  (414, .if_icmp .ne 82, 417, 496, 0, 0, []),
  (417, .aload_n 0, 418, 0, 0, 0, []),
  (418, .bipush 8, 420, 8, 0, 0, []),
  (420, .iload 9, 422, 9, 0, 0, []),
  (422, .ifCond .ne 7, 425, 429, 0, 0, []),
  (425, .iconst (-1), 426, 1, 0, 1, []),
  (426, .goto 16, 429, 442, 0, 0, []),
  (429, .iload 9, 431, 9, 0, 0, []),
  (431, .iconst 1, 432, 1, 0, 0, []),
  (432, .if_icmp .ne 8, 435, 440, 0, 0, []),
  (435, .bipush 51, 437, 51, 0, 0, [])]
def zb74_5 : List zOp := [(437, .goto 5, 440, 442, 0, 0, []),
  (440, .iload 10, 442, 10, 0, 0, []),
  (442, .iconst 0, 443, 0, 0, 0, []),
  (443, .iconst 0, 444, 0, 0, 0, []),
  (444, .invokestatic 84, 447, 72, 5, 104, [0, 550, 551, 0, 552, 23]),
  (447, .bipush (-72), 449, 72, 0, 1, []),
  (449, .if_icmp .ne 47, 452, 496, 0, 0, []),
  (452, .aload_n 0, 453, 0, 0, 0, []),
  (453, .iconst 1, 454, 1, 0, 0, []),
  (454, .iload 9, 456, 9, 0, 0, []),
  (456, .ifCond .ne 10, 459, 466, 0, 0, []),
  (459, .iload 6, 461, 6, 0, 0, []),
  (461, .iconst 1, 462, 1, 0, 0, []),
  (462, .isub, 463, 0, 0, 0, []),
  (463, .goto 17, 466, 480, 0, 0, []),
  (466, .iload 9, 468, 9, 0, 0, []),
  (468, .iconst 1, 469, 1, 0, 0, []),
  (469, .if_icmp .ne 9, 472, 478, 0, 0, []),
  (472, .sipush 501, 475, 501, 0, 0, []),
  (475, .goto 5, 478, 480, 0, 0, []),
  (478, .iload 10, 480, 10, 0, 0, []),
  (480, .iconst 0, 481, 0, 0, 0, []),
  (481, .iconst 0, 482, 0, 0, 0, []),
  (482, .iconst 0, 483, 0, 0, 0, []),
  (483, .iconst 1, 484, 1, 0, 0, []),
  (484, .invokestatic 78, 487, 73, 7, 104, [0, 512, 513, 0, 514, 23]),
  (487, .bipush (-72), 489, 72, 0, 1, []),
  (489, .if_icmp .ne 7, 492, 496, 0, 0, []),
  (492, .iconst 1, 493, 1, 0, 0, []),
  (493, .goto 4, 496, 497, 0, 0, []),
  (496, .iconst 0, 497, 0, 0, 0, []),
  (497, .istore 16, 499, 16, 0, 0, []),
  (499, .iconst 3, 500, 3, 0, 0, []),
  (500, .istore 17, 502, 17, 0, 0, []),
  (502, .iload 17, 504, 17, 0, 0, []),
  (504, .bipush 8, 506, 8, 0, 0, []),
  (506, .if_icmp .ge 58, 509, 564, 0, 0, []),
  (509, .iload 16, 511, 16, 0, 0, []),
  (511, .ifCond .eq 44, 514, 555, 0, 0, []),
  (514, .iload 17, 516, 17, 0, 0, []),
  (516, .bipush 6, 518, 6, 0, 0, []),
  (518, .if_icmp .eq 33, 521, 551, 0, 0, []),
  (521, .aload_n 0, 522, 0, 0, 0, []),
  (522, .iload 17, 524, 17, 0, 0, []),
  (524, .iload 10, 526, 10, 0, 0, [])]
def zb74_6 : List zOp := [(526, .iconst 0, 527, 0, 0, 0, []),
  (527, .iconst 0, 528, 0, 0, 0, []),
  (528, .invokestatic 84, 531, 72, 5, 104, [0, 550, 551, 0, 552, 23]),
  (531, .bipush (-71), 533, 71, 0, 1, []),
  (533, .if_icmp .ne 22, 536, 555, 0, 0, []),
  (536, .aload_n 0, 537, 0, 0, 0, []),
  (537, .iload 17, 539, 17, 0, 0, []),
  (539, .iload 11, 541, 11, 0, 0, []),
  (541, .iconst 0, 542, 0, 0, 0, []),
  (542, .iconst 0, 543, 0, 0, 0, []),
  (543, .invokestatic 84, 546, 72, 5, 104, [0, 550, 551, 0, 552, 23]),
  (546, .bipush (-71), 548, 71, 0, 1, []),
  (548, .if_icmp .ne 7, 551, 555, 0, 0, []),
  (551, .iconst 1, 552, 1, 0, 0, []),
  (552, .goto 4, 555, 556, 0, 0, []),
  (555, .iconst 0, 556, 0, 0, 0, []),
  (556, .istore 16, 558, 16, 0, 0, []),
  (558, .iinc 17 1, 561, 17, 1, 0, []),
  (561, .goto (-59), 564, 502, 0, 0, []),
  (564, .iconst 0, 565, 0, 0, 0, []),
  (565, .istore 17, 567, 17, 0, 0, []),
  (567, .iload 17, 569, 17, 0, 0, []),
  (569, .iconst 2, 570, 2, 0, 0, []),
  (570, .if_icmp .ge 138, 573, 708, 0, 0, []),
  (573, .iload 17, 575, 17, 0, 0, []),
  (575, .ifCond .ne 7, 578, 582, 0, 0, []),
  (578, .iconst 1, 579, 1, 0, 0, []),
  (579, .goto 4, 582, 583, 0, 0, []),
  (582, .iconst 0, 583, 0, 0, 0, []),
  (583, .istore 18, 585, 18, 0, 0, []),
  (585, .iload 18, 587, 18, 0, 0, []),
  (587, .ifCond .eq 9, 590, 596, 0, 0, []),
  (590, .sipush 500, 593, 500, 0, 0, []),
  (593, .goto 4, 596, 597, 0, 0, []),
  (596, .iconst (-1), 597, 1, 0, 1, []),
  (597, .istore 19, 599, 19, 0, 0, []),
  (599, .iload 16, 601, 16, 0, 0, []),
  (601, .ifCond .eq 98, 604, 699, 0, 0, []),
  (604, .aload_n 0, 605, 0, 0, 0, []),
  (605, .iload 18, 607, 18, 0, 0, []),
  (607, .iload 19, 609, 19, 0, 0, []),
  (609, .iload 12, 611, 12, 0, 0, []),
  (611, .iconst 0, 612, 0, 0, 0, []),
  (612, .iconst 0, 613, 0, 0, 0, []),
  (613, .iconst 1, 614, 1, 0, 0, [])]
def zb74_7 : List zOp := [(614, .invokestatic 78, 617, 73, 7, 104, [0, 512, 513, 0, 514, 23]),
  (617, .bipush (-72), 619, 72, 0, 1, []),
  (619, .if_icmp .ne 80, 622, 699, 0, 0, []),
  (622, .aload_n 0, 623, 0, 0, 0, []),
  (623, .iload 18, 625, 18, 0, 0, []),
  (625, .iload 19, 627, 19, 0, 0, []),
  (627, .iconst 0, 628, 0, 0, 0, []),
  (628, .iload 14, 630, 14, 0, 0, []),
  (630, .iconst 0, 631, 0, 0, 0, []),
  (631, .iconst 1, 632, 1, 0, 0, []),
  (632, .invokestatic 78, 635, 73, 7, 104, [0, 512, 513, 0, 514, 23]),
  (635, .bipush (-72), 637, 72, 0, 1, []),
  (637, .if_icmp .ne 62, 640, 699, 0, 0, []),
  (640, .aload_n 0, 641, 0, 0, 0, []),
  (641, .iload 18, 643, 18, 0, 0, []),
  (643, .iload 19, 645, 19, 0, 0, []),
  (645, .iconst 0, 646, 0, 0, 0, []),
  (646, .iconst 0, 647, 0, 0, 0, []),
  (647, .iload 9, 649, 9, 0, 0, []),
  (649, .iconst 1, 650, 1, 0, 0, []),
  (650, .if_icmp .ne 7, 653, 657, 0, 0, []),
  (653, .iconst 2, 654, 2, 0, 0, []),
  (654, .goto 5, 657, 659, 0, 0, []),
  (657, .iload 12, 659, 12, 0, 0, []),
  (659, .iconst 1, 660, 1, 0, 0, []),
  (660, .invokestatic 78, 663, 73, 7, 104, [0, 512, 513, 0, 514, 23]),
  (663, .bipush (-72), 665, 72, 0, 1, []),
  (665, .if_icmp .ne 34, 668, 699, 0, 0, []),
  (668, .aload_n 0, 669, 0, 0, 0, []),
  (669, .iload 18, 671, 18, 0, 0, []),
  (671, .iload 19, 673, 19, 0, 0, []),
  (673, .iconst 0, 674, 0, 0, 0, []),
  (674, .iconst 0, 675, 0, 0, 0, []),
  (675, .iconst 0, 676, 0, 0, 0, []),
  (676, .iload 9, 678, 9, 0, 0, []),
  (678, .ifCond .ne 7, 681, 685, 0, 0, []),
  (681, .iconst 0, 682, 0, 0, 0, []),
  (682, .goto 5, 685, 687, 0, 0, []),
  (685, .iload 12, 687, 12, 0, 0, []),
  (687, .invokestatic 78, 690, 73, 7, 104, [0, 512, 513, 0, 514, 23]),
  (690, .bipush (-72), 692, 72, 0, 1, []),
  (692, .if_icmp .ne 7, 695, 699, 0, 0, []),
  (695, .iconst 1, 696, 1, 0, 0, []),
  (696, .goto 4, 699, 700, 0, 0, []),
  (699, .iconst 0, 700, 0, 0, 0, [])]
def zb74_8 : List zOp := [(700, .istore 16, 702, 16, 0, 0, []),
  (702, .iinc 17 1, 705, 17, 1, 0, []),
  (705, .goto (-138), 708, 567, 0, 0, []),
  (708, .iload 16, 710, 16, 0, 0, []),
  (710, .ifCond .ne 5, 713, 715, 0, 0, []),
  (713, .iconst 0, 714, 0, 0, 0, []),
  (714, .ireturn, 715, 0, 0, 2, []),
  (715, .iinc 9 1, 718, 9, 1, 0, []),
  (718, .goto (-682), 721, 36, 0, 0, []),
  (721, .aload_n 0, 722, 0, 0, 0, []),
  (722, .iconst 1, 723, 1, 0, 0, []),
  (723, .iload_n 1, 724, 1, 0, 0, []),
  (724, .iload_n 1, 725, 1, 0, 0, []),
  (725, .iconst 0, 726, 0, 0, 0, []),
  (726, .invokestatic 84, 729, 72, 5, 104, [0, 550, 551, 0, 552, 23]),
  (729, .bipush (-72), 731, 72, 0, 1, []),
  (731, .if_icmp .ne 51, 734, 782, 0, 0, []),
  (734, .aload_n 0, 735, 0, 0, 0, []),
  (735, .invokevirtual 61, 738, 21, 1, 100, [6, 419, 420, 421, 422, 24]),
  (738, .iload_n 3, 739, 3, 0, 0, []),
  (739, .if_icmp .ne 43, 742, 782, 0, 0, []),
  (742, .aload_n 0, 743, 0, 0, 0, []),
  (743, .invokevirtual 65, 746, 33, 1, 100, [6, 476, 477, 478, 479, 24]),
  (746, .iload 4, 748, 4, 0, 0, []),
  (748, .if_icmp .ne 34, 751, 782, 0, 0, []),
  (751, .aload_n 0, 752, 0, 0, 0, []),
  (752, .invokevirtual 68, 755, 31, 1, 100, [6, 491, 492, 493, 494, 24]),
  (755, .iload 5, 757, 5, 0, 0, []),
  (757, .if_icmp .ne 25, 760, 782, 0, 0, []),
  (760, .aload_n 0, 761, 0, 0, 0, []),
  (761, .invokevirtual 71, 764, 29, 1, 100, [6, 472, 473, 474, 475, 24]),
  (764, .iload 6, 766, 6, 0, 0, []),
  (766, .if_icmp .ne 16, 769, 782, 0, 0, []),
  (769, .aload_n 0, 770, 0, 0, 0, []),
  (770, .invokevirtual 74, 773, 37, 1, 100, [6, 495, 496, 497, 498, 24]),
  (773, .iload 7, 775, 7, 0, 0, []),
  (775, .if_icmp .ne 7, 778, 782, 0, 0, []),
  (778, .iconst 1, 779, 1, 0, 0, []),
  (779, .goto 4, 782, 783, 0, 0, []),
  (782, .iconst 0, 783, 0, 0, 0, []),
  (783, .ireturn, 784, 0, 0, 2, [])]
def zb74 : List zOp := zb74_0 ++ (zb74_1 ++ (zb74_2 ++ (zb74_3 ++ (zb74_4 ++ (zb74_5 ++ (zb74_6 ++ (zb74_7 ++ (zb74_8))))))))
def zb75_0 : List zOp := [(0, .new 8, 3, 6, 6, 0, [45, 46, 24]),
  (3, .dup, 4, 0, 0, 0, []),
  (4, .invokespecial 92, 7, 15, 1, 101, [0, 47, 48, 0, 49, 24]),
  (7, .astore_n 0, 8, 0, 0, 0, []),
  (8, .aload_n 0, 9, 0, 0, 0, []),
  (9, .invokevirtual 61, 12, 21, 1, 100, [6, 419, 420, 421, 422, 24]),
  (12, .ifCond .ne 406, 15, 418, 0, 0, []),
  (15, .aload_n 0, 16, 0, 0, 0, []),
  (16, .invokevirtual 68, 19, 31, 1, 100, [6, 491, 492, 493, 494, 24]),
  (19, .bipush 12, 21, 12, 0, 0, []),
  (21, .if_icmp .ne 397, 24, 418, 0, 0, []),
  (24, .aload_n 0, 25, 0, 0, 0, []),
  (25, .invokevirtual 71, 28, 29, 1, 100, [6, 472, 473, 474, 475, 24]),
  (28, .ifCond .ne 390, 31, 418, 0, 0, []),
  (31, .aload_n 0, 32, 0, 0, 0, []),
  (32, .invokevirtual 65, 35, 33, 1, 100, [6, 476, 477, 478, 479, 24]),
  (35, .ifCond .ne 383, 38, 418, 0, 0, []),
  (38, .aload_n 0, 39, 0, 0, 0, []),
  (39, .invokevirtual 74, 42, 37, 1, 100, [6, 495, 496, 497, 498, 24]),
  (42, .ifCond .ne 376, 45, 418, 0, 0, []),
  (45, .aload_n 0, 46, 0, 0, 0, []),
  (46, .invokevirtual 93, 49, 30, 1, 100, [6, 635, 636, 637, 638, 24]),
  (49, .ifCond .ne 369, 52, 418, 0, 0, []),
  (52, .aload_n 0, 53, 0, 0, 0, []),
  (53, .bipush 11, 55, 11, 0, 0, []),
  (55, .invokevirtual 39, 58, 32, 2, 100, [6, 603, 604, 605, 606, 24]),
  (58, .ifCond .ne 360, 61, 418, 0, 0, []),
  (61, .aload_n 0, 62, 0, 0, 0, []),
  (62, .iconst 0, 63, 0, 0, 0, []),
  (63, .invokevirtual 88, 66, 20, 2, 100, [6, 415, 416, 417, 418, 24]),
  (66, .ifCond .ne 352, 69, 418, 0, 0, []),
  (69, .aload_n 0, 70, 0, 0, 0, []),
  (70, .iconst (-1), 71, 1, 0, 1, []),
  (71, .iconst 0, 72, 0, 0, 0, []),
  (72, .iconst 1, 73, 1, 0, 0, []),
  (73, .iconst 0, 74, 0, 0, 0, []),
  (74, .iconst 2, 75, 2, 0, 0, []),
  (75, .invokevirtual 58, 78, 16, 6, 100, [6, 118, 119, 120, 121, 24]),
  (78, .bipush 100, 80, 100, 0, 0, []),
  (80, .if_icmp .ne 338, 83, 418, 0, 0, []),
  (83, .aload_n 0, 84, 0, 0, 0, []),
  (84, .bipush 100, 86, 100, 0, 0, []),
  (86, .iconst 5, 87, 5, 0, 0, []),
  (87, .iconst 0, 88, 0, 0, 0, []),
  (88, .iconst 1, 89, 1, 0, 0, [])]
def zb75_1 : List zOp := [(89, .iconst 1, 90, 1, 0, 0, []),
  (90, .invokevirtual 58, 93, 16, 6, 100, [6, 118, 119, 120, 121, 24]),
  (93, .bipush 101, 95, 101, 0, 0, []),
  (95, .if_icmp .ne 323, 98, 418, 0, 0, []),
  (98, .aload_n 0, 99, 0, 0, 0, []),
  (99, .iconst (-1), 100, 1, 0, 1, []),
  (100, .bipush 9, 102, 9, 0, 0, []),
  (102, .iconst 1, 103, 1, 0, 0, []),
  (103, .iconst 1, 104, 1, 0, 0, []),
  (104, .iconst 3, 105, 3, 0, 0, []),
  (105, .invokevirtual 58, 108, 16, 6, 100, [6, 118, 119, 120, 121, 24]),
  (108, .bipush 102, 110, 102, 0, 0, []),
  (110, .if_icmp .ne 308, 113, 418, 0, 0, []),
  (113, .aload_n 0, 114, 0, 0, 0, []),
  (114, .invokevirtual 61, 117, 21, 1, 100, [6, 419, 420, 421, 422, 24]),
  (117, .iconst 3, 118, 3, 0, 0, []),
  (118, .if_icmp .ne 300, 121, 418, 0, 0, []),
  (121, .aload_n 0, 122, 0, 0, 0, []),
  (122, .bipush 101, 124, 101, 0, 0, []),
  (124, .invokevirtual 21, 127, 22, 2, 100, [6, 579, 580, 581, 582, 24]),
  (127, .iconst 1, 128, 1, 0, 0, []),
  (128, .if_icmp .ne 290, 131, 418, 0, 0, []),
  (131, .aload_n 0, 132, 0, 0, 0, []),
  (132, .bipush 100, 134, 100, 0, 0, []),
  (134, .iconst 0, 135, 0, 0, 0, []),
  (135, .invokevirtual 30, 138, 25, 3, 100, [6, 591, 592, 593, 594, 24]),
  (138, .bipush 101, 140, 101, 0, 0, []),
  (140, .if_icmp .ne 278, 143, 418, 0, 0, []),
  (143, .aload_n 0, 144, 0, 0, 0, []),
  (144, .bipush 6, 146, 6, 0, 0, []),
  (146, .bipush 100, 148, 100, 0, 0, []),
  (148, .iconst 1, 149, 1, 0, 0, []),
  (149, .iconst 0, 150, 0, 0, 0, []),
  (150, .invokestatic 84, 153, 72, 5, 104, [0, 550, 551, 0, 552, 23]),
  (153, .bipush (-71), 155, 71, 0, 1, []),
  (155, .if_icmp .ne 263, 158, 418, 0, 0, []),
  (158, .aload_n 0, 159, 0, 0, 0, []),
  (159, .iconst 0, 160, 0, 0, 0, []),
  (160, .bipush 101, 162, 101, 0, 0, []),
  (162, .iconst 0, 163, 0, 0, 0, []),
  (163, .iconst 0, 164, 0, 0, 0, []),
  (164, .invokestatic 84, 167, 72, 5, 104, [0, 550, 551, 0, 552, 23]),
  (167, .bipush (-73), 169, 73, 0, 1, []),
  (169, .if_icmp .ne 249, 172, 418, 0, 0, []),
  (172, .aload_n 0, 173, 0, 0, 0, [])]
def zb75_2 : List zOp := [(173, .bipush 102, 175, 102, 0, 0, []),
  (175, .bipush 101, 177, 101, 0, 0, []),
  (177, .iconst 1, 178, 1, 0, 0, []),
  (178, .invokevirtual 13, 181, 18, 4, 100, [6, 558, 559, 560, 561, 24]),
  (181, .iconst 1, 182, 1, 0, 0, []),
  (182, .if_icmp .ne 236, 185, 418, 0, 0, []),
  (185, .aload_n 0, 186, 0, 0, 0, []),
  (186, .bipush 101, 188, 101, 0, 0, []),
  (188, .invokevirtual 33, 191, 26, 2, 100, [6, 595, 596, 597, 598, 24]),
  (191, .iconst 1, 192, 1, 0, 0, []),
  (192, .if_icmp .ne 226, 195, 418, 0, 0, []),
  (195, .aload_n 0, 196, 0, 0, 0, []),
  (196, .bipush 102, 198, 102, 0, 0, []),
  (198, .bipush 100, 200, 100, 0, 0, []),
  (200, .iconst 2, 201, 2, 0, 0, []),
  (201, .invokevirtual 13, 204, 18, 4, 100, [6, 558, 559, 560, 561, 24]),
  (204, .iconst 2, 205, 2, 0, 0, []),
  (205, .if_icmp .ne 213, 208, 418, 0, 0, []),
  (208, .aload_n 0, 209, 0, 0, 0, []),
  (209, .bipush 102, 211, 102, 0, 0, []),
  (211, .bipush 101, 213, 101, 0, 0, []),
  (213, .iconst 1, 214, 1, 0, 0, []),
  (214, .invokevirtual 13, 217, 18, 4, 100, [6, 558, 559, 560, 561, 24]),
  (217, .iconst 3, 218, 3, 0, 0, []),
  (218, .if_icmp .ne 200, 221, 418, 0, 0, []),
  (221, .aload_n 0, 222, 0, 0, 0, []),
  (222, .bipush 101, 224, 101, 0, 0, []),
  (224, .invokevirtual 33, 227, 26, 2, 100, [6, 595, 596, 597, 598, 24]),
  (227, .iconst 2, 228, 2, 0, 0, []),
  (228, .if_icmp .ne 190, 231, 418, 0, 0, []),
  (231, .aload_n 0, 232, 0, 0, 0, []),
  (232, .bipush 100, 234, 100, 0, 0, []),
  (234, .invokevirtual 33, 237, 26, 2, 100, [6, 595, 596, 597, 598, 24]),
  (237, .ifCond .ne 181, 240, 418, 0, 0, []),
  (240, .aload_n 0, 241, 0, 0, 0, []),
  (241, .iconst 1, 242, 1, 0, 0, []),
  (242, .bipush 102, 244, 102, 0, 0, []),
  (244, .bipush 100, 246, 100, 0, 0, []),
  (246, .iconst 0, 247, 0, 0, 0, []),
  (247, .invokestatic 84, 250, 72, 5, 104, [0, 550, 551, 0, 552, 23]),
  (250, .bipush (-73), 252, 73, 0, 1, []),
  (252, .if_icmp .ne 166, 255, 418, 0, 0, []),
  (255, .aload_n 0, 256, 0, 0, 0, []),
  (256, .iconst 0, 257, 0, 0, 0, []),
  (257, .bipush 102, 259, 102, 0, 0, [])]
def zb75_3 : List zOp := [(259, .iconst 0, 260, 0, 0, 0, []),
  (260, .iconst 0, 261, 0, 0, 0, []),
  (261, .iconst 0, 262, 0, 0, 0, []),
  (262, .iconst 1, 263, 1, 0, 0, []),
  (263, .invokestatic 78, 266, 73, 7, 104, [0, 512, 513, 0, 514, 23]),
  (266, .bipush (-73), 268, 73, 0, 1, []),
  (268, .if_icmp .ne 150, 271, 418, 0, 0, []),
  (271, .aload_n 0, 272, 0, 0, 0, []),
  (272, .bipush 102, 274, 102, 0, 0, []),
  (274, .bipush 103, 276, 103, 0, 0, []),
  (276, .invokestatic 96, 279, 74, 3, 102, [0, 488, 489, 0, 490, 23]),
  (279, .ifCond .eq 139, 282, 418, 0, 0, []),
  (282, .aload_n 0, 283, 0, 0, 0, []),
  (283, .bipush 100, 285, 100, 0, 0, []),
  (285, .iconst 0, 286, 0, 0, 0, []),
  (286, .invokevirtual 17, 289, 19, 3, 100, [6, 565, 566, 567, 568, 24]),
  (289, .iconst 3, 290, 3, 0, 0, []),
  (290, .if_icmp .ne 128, 293, 418, 0, 0, []),
  (293, .aload_n 0, 294, 0, 0, 0, []),
  (294, .bipush 102, 296, 102, 0, 0, []),
  (296, .iconst 0, 297, 0, 0, 0, []),
  (297, .invokevirtual 17, 300, 19, 3, 100, [6, 565, 566, 567, 568, 24]),
  (300, .iconst 3, 301, 3, 0, 0, []),
  (301, .if_icmp .ne 117, 304, 418, 0, 0, []),
  (304, .aload_n 0, 305, 0, 0, 0, []),
  (305, .bipush 102, 307, 102, 0, 0, []),
  (307, .iconst 0, 308, 0, 0, 0, []),
  (308, .invokevirtual 30, 311, 25, 3, 100, [6, 591, 592, 593, 594, 24]),
  (311, .bipush 100, 313, 100, 0, 0, []),
  (313, .if_icmp .ne 105, 316, 418, 0, 0, []),
  (316, .aload_n 0, 317, 0, 0, 0, []),
  (317, .bipush 102, 319, 102, 0, 0, []),
  (319, .iconst 1, 320, 1, 0, 0, []),
  (320, .invokevirtual 30, 323, 25, 3, 100, [6, 591, 592, 593, 594, 24]),
  (323, .bipush 101, 325, 101, 0, 0, []),
  (325, .if_icmp .ne 93, 328, 418, 0, 0, []),
  (328, .aload_n 0, 329, 0, 0, 0, []),
  (329, .bipush 101, 331, 101, 0, 0, []),
  (331, .invokevirtual 33, 334, 26, 2, 100, [6, 595, 596, 597, 598, 24]),
  (334, .iconst 1, 335, 1, 0, 0, []),
  (335, .if_icmp .ne 83, 338, 418, 0, 0, []),
  (338, .aload_n 0, 339, 0, 0, 0, []),
  (339, .bipush 100, 341, 100, 0, 0, []),
  (341, .invokevirtual 7, 344, 17, 2, 100, [6, 553, 554, 555, 556, 24]),
  (344, .iconst 2, 345, 2, 0, 0, [])]
def zb75_4 : List zOp := [(345, .if_icmp .ne 73, 348, 418, 0, 0, []),
  (348, .aload_n 0, 349, 0, 0, 0, []),
  (349, .bipush 100, 351, 100, 0, 0, []),
  (351, .invokevirtual 88, 354, 20, 2, 100, [6, 415, 416, 417, 418, 24]),
  (354, .ifCond .ne 64, 357, 418, 0, 0, []),
  (357, .aload_n 0, 358, 0, 0, 0, []),
  (358, .bipush 102, 360, 102, 0, 0, []),
  (360, .iconst 0, 361, 0, 0, 0, []),
  (361, .invokevirtual 30, 364, 25, 3, 100, [6, 591, 592, 593, 594, 24]),
  (364, .iconst (-1), 365, 1, 0, 1, []),
  (365, .if_icmp .ne 53, 368, 418, 0, 0, []),
  (368, .aload_n 0, 369, 0, 0, 0, []),
  (369, .bipush 102, 371, 102, 0, 0, []),
  (371, .invokevirtual 21, 374, 22, 2, 100, [6, 579, 580, 581, 582, 24]),
  (374, .iconst 2, 375, 2, 0, 0, []),
  (375, .if_icmp .ne 43, 378, 418, 0, 0, []),
  (378, .aload_n 0, 379, 0, 0, 0, []),
  (379, .bipush 102, 381, 102, 0, 0, []),
  (381, .iconst 1, 382, 1, 0, 0, []),
  (382, .invokevirtual 17, 385, 19, 3, 100, [6, 565, 566, 567, 568, 24]),
  (385, .iconst 1, 386, 1, 0, 0, []),
  (386, .if_icmp .ne 32, 389, 418, 0, 0, []),
  (389, .aload_n 0, 390, 0, 0, 0, []),
  (390, .bipush 101, 392, 101, 0, 0, []),
  (392, .invokevirtual 88, 395, 20, 2, 100, [6, 415, 416, 417, 418, 24]),
  (395, .ifCond .ne 23, 398, 418, 0, 0, []),
  (398, .aload_n 0, 399, 0, 0, 0, []),
  (399, .invokevirtual 68, 402, 31, 1, 100, [6, 491, 492, 493, 494, 24]),
  (402, .bipush 9, 404, 9, 0, 0, []),
  (404, .if_icmp .ne 14, 407, 418, 0, 0, []),
  (407, .aload_n 0, 408, 0, 0, 0, []),
  (408, .bipush 102, 410, 102, 0, 0, []),
  (410, .bipush 100, 412, 100, 0, 0, []),
  (412, .invokestatic 96, 415, 74, 3, 102, [0, 488, 489, 0, 490, 23]),
  (415, .ifCond .ne 5, 418, 420, 0, 0, []),
  (418, .iconst 0, 419, 0, 0, 0, []),
  (419, .ireturn, 420, 0, 0, 2, []),
  (420, .aload_n 0, 421, 0, 0, 0, []),
  (421, .invokevirtual 93, 424, 30, 1, 100, [6, 635, 636, 637, 638, 24]),
  (424, .iconst 2, 425, 2, 0, 0, []),
  (425, .if_icmp .ne 205, 428, 630, 0, 0, []),
  (428, .aload_n 0, 429, 0, 0, 0, []),
  (429, .invokevirtual 93, 432, 30, 1, 100, [6, 635, 636, 637, 638, 24]),
  (432, .ifCond .ne 198, 435, 630, 0, 0, []),
  (435, .aload_n 0, 436, 0, 0, 0, [])]
def zb75_5 : List zOp := [(436, .invokevirtual 68, 439, 31, 1, 100, [6, 491, 492, 493, 494, 24]),
  (439, .bipush 11, 441, 11, 0, 0, []),
  (441, .if_icmp .ne 189, 444, 630, 0, 0, []),
  (444, .aload_n 0, 445, 0, 0, 0, []),
  (445, .iconst (-1), 446, 1, 0, 1, []),
  (446, .iconst 4, 447, 4, 0, 0, []),
  (447, .iconst (-1), 448, 1, 0, 1, []),
  (448, .iconst 0, 449, 0, 0, 0, []),
  (449, .bipush 9, 451, 9, 0, 0, []),
  (451, .invokevirtual 58, 454, 16, 6, 100, [6, 118, 119, 120, 121, 24]),
  (454, .sipush 200, 457, 200, 0, 0, []),
  (457, .if_icmp .ne 173, 460, 630, 0, 0, []),
  (460, .aload_n 0, 461, 0, 0, 0, []),
  (461, .sipush 200, 464, 200, 0, 0, []),
  (464, .invokevirtual 21, 467, 22, 2, 100, [6, 579, 580, 581, 582, 24]),
  (467, .iconst 3, 468, 3, 0, 0, []),
  (468, .if_icmp .ne 162, 471, 630, 0, 0, []),
  (471, .aload_n 0, 472, 0, 0, 0, []),
  (472, .iconst 0, 473, 0, 0, 0, []),
  (473, .invokevirtual 39, 476, 32, 2, 100, [6, 603, 604, 605, 606, 24]),
  (476, .iconst 2, 477, 2, 0, 0, []),
  (477, .if_icmp .ne 153, 480, 630, 0, 0, []),
  (480, .aload_n 0, 481, 0, 0, 0, []),
  (481, .iconst 1, 482, 1, 0, 0, []),
  (482, .invokevirtual 39, 485, 32, 2, 100, [6, 603, 604, 605, 606, 24]),
  (485, .iconst 1, 486, 1, 0, 0, []),
  (486, .if_icmp .ne 144, 489, 630, 0, 0, []),
  (489, .aload_n 0, 490, 0, 0, 0, []),
  (490, .bipush 102, 492, 102, 0, 0, []),
  (492, .iconst 0, 493, 0, 0, 0, []),
  (493, .invokevirtual 30, 496, 25, 3, 100, [6, 591, 592, 593, 594, 24]),
  (496, .iconst (-1), 497, 1, 0, 1, []),
  (497, .if_icmp .ne 133, 500, 630, 0, 0, []),
  (500, .aload_n 0, 501, 0, 0, 0, []),
  (501, .sipush 200, 504, 200, 0, 0, []),
  (504, .bipush 102, 506, 102, 0, 0, []),
  (506, .iconst 0, 507, 0, 0, 0, []),
  (507, .invokevirtual 13, 510, 18, 4, 100, [6, 558, 559, 560, 561, 24]),
  (510, .iconst 1, 511, 1, 0, 0, []),
  (511, .if_icmp .ne 119, 514, 630, 0, 0, []),
  (514, .aload_n 0, 515, 0, 0, 0, []),
  (515, .bipush 102, 517, 102, 0, 0, []),
  (517, .sipush 200, 520, 200, 0, 0, []),
  (520, .iconst 0, 521, 0, 0, 0, []),
  (521, .invokevirtual 13, 524, 18, 4, 100, [6, 558, 559, 560, 561, 24])]
def zb75_6 : List zOp := [(524, .iconst 2, 525, 2, 0, 0, []),
  (525, .if_icmp .ne 105, 528, 630, 0, 0, []),
  (528, .aload_n 0, 529, 0, 0, 0, []),
  (529, .bipush 102, 531, 102, 0, 0, []),
  (531, .invokevirtual 7, 534, 17, 2, 100, [6, 553, 554, 555, 556, 24]),
  (534, .iconst 2, 535, 2, 0, 0, []),
  (535, .if_icmp .ne 95, 538, 630, 0, 0, []),
  (538, .aload_n 0, 539, 0, 0, 0, []),
  (539, .iconst 0, 540, 0, 0, 0, []),
  (540, .bipush 102, 542, 102, 0, 0, []),
  (542, .iconst 0, 543, 0, 0, 0, []),
  (543, .iconst 0, 544, 0, 0, 0, []),
  (544, .invokestatic 84, 547, 72, 5, 104, [0, 550, 551, 0, 552, 23]),
  (547, .bipush (-73), 549, 73, 0, 1, []),
  (549, .if_icmp .ne 81, 552, 630, 0, 0, []),
  (552, .aload_n 0, 553, 0, 0, 0, []),
  (553, .sipush 200, 556, 200, 0, 0, []),
  (556, .invokevirtual 7, 559, 17, 2, 100, [6, 553, 554, 555, 556, 24]),
  (559, .ifCond .ne 71, 562, 630, 0, 0, []),
  (562, .aload_n 0, 563, 0, 0, 0, []),
  (563, .invokevirtual 68, 566, 31, 1, 100, [6, 491, 492, 493, 494, 24]),
  (566, .bipush 10, 568, 10, 0, 0, []),
  (568, .if_icmp .ne 62, 571, 630, 0, 0, []),
  (571, .aload_n 0, 572, 0, 0, 0, []),
  (572, .invokevirtual 65, 575, 33, 1, 100, [6, 476, 477, 478, 479, 24]),
  (575, .ifCond .ne 55, 578, 630, 0, 0, []),
  (578, .aload_n 0, 579, 0, 0, 0, []),
  (579, .iconst (-1), 580, 1, 0, 1, []),
  (580, .iconst 0, 581, 0, 0, 0, []),
  (581, .iconst 0, 582, 0, 0, 0, []),
  (582, .iconst 0, 583, 0, 0, 0, []),
  (583, .iconst 1, 584, 1, 0, 0, []),
  (584, .invokevirtual 58, 587, 16, 6, 100, [6, 118, 119, 120, 121, 24]),
  (587, .sipush 201, 590, 201, 0, 0, []),
  (590, .if_icmp .ne 40, 593, 630, 0, 0, []),
  (593, .aload_n 0, 594, 0, 0, 0, []),
  (594, .sipush 201, 597, 201, 0, 0, []),
  (597, .sipush 200, 600, 200, 0, 0, []),
  (600, .invokestatic 96, 603, 74, 3, 102, [0, 488, 489, 0, 490, 23]),
  (603, .ifCond .eq 27, 606, 630, 0, 0, []),
  (606, .aload_n 0, 607, 0, 0, 0, []),
  (607, .invokevirtual 65, 610, 33, 1, 100, [6, 476, 477, 478, 479, 24]),
  (610, .sipush 550, 613, 550, 0, 0, []),
  (613, .if_icmp .ne 17, 616, 630, 0, 0, []),
  (616, .aload_n 0, 617, 0, 0, 0, [])]
def zb75_7 : List zOp := [(617, .invokevirtual 100, 620, 34, 1, 100, [6, 484, 485, 486, 487, 24]),
  (620, .sipush 550, 623, 550, 0, 0, []),
  (623, .if_icmp .ne 7, 626, 630, 0, 0, []),
  (626, .iconst 1, 627, 1, 0, 0, []),
  (627, .goto 4, 630, 631, 0, 0, []),
  (630, .iconst 0, 631, 0, 0, 0, []),
  (631, .ireturn, 632, 0, 0, 2, [])]
def zb75 : List zOp := zb75_0 ++ (zb75_1 ++ (zb75_2 ++ (zb75_3 ++ (zb75_4 ++ (zb75_5 ++ (zb75_6 ++ (zb75_7)))))))
def zb76_0 : List zOp := [(0, .new 8, 3, 6, 6, 0, [45, 46, 24]),
  (3, .dup, 4, 0, 0, 0, []),
  (4, .invokespecial 92, 7, 15, 1, 101, [0, 47, 48, 0, 49, 24]),
  (7, .astore_n 0, 8, 0, 0, 0, []),
  (8, .aload_n 0, 9, 0, 0, 0, []),
  (9, .iconst (-1), 10, 1, 0, 1, []),
  (10, .iconst 0, 11, 0, 0, 0, []),
  (11, .iconst 1, 12, 1, 0, 0, []),
  (12, .iconst 0, 13, 0, 0, 0, []),
  (13, .iconst 2, 14, 2, 0, 0, []),
  (14, .invokevirtual 58, 17, 16, 6, 100, [6, 118, 119, 120, 121, 24]),
  (17, .bipush 100, 19, 100, 0, 0, []),
  (19, .if_icmp .ne 174, 22, 193, 0, 0, []),
  (22, .aload_n 0, 23, 0, 0, 0, []),
  (23, .iconst (-1), 24, 1, 0, 1, []),
  (24, .iconst 3, 25, 3, 0, 0, []),
  (25, .iconst (-1), 26, 1, 0, 1, []),
  (26, .iconst 1, 27, 1, 0, 0, []),
  (27, .iconst 1, 28, 1, 0, 0, []),
  (28, .invokevirtual 58, 31, 16, 6, 100, [6, 118, 119, 120, 121, 24]),
  (31, .bipush 101, 33, 101, 0, 0, []),
  (33, .if_icmp .ne 160, 36, 193, 0, 0, []),
  (36, .aload_n 0, 37, 0, 0, 0, []),
  (37, .iconst 0, 38, 0, 0, 0, []),
  (38, .invokevirtual 36, 41, 28, 2, 100, [6, 423, 424, 425, 426, 24]),
  (41, .bipush 10, 43, 10, 0, 0, []),
  (43, .if_icmp .ne 150, 46, 193, 0, 0, []),
  (46, .aload_n 0, 47, 0, 0, 0, []),
  (47, .bipush 100, 49, 100, 0, 0, []),
  (49, .invokevirtual 24, 52, 23, 2, 100, [6, 583, 584, 585, 586, 24]),
  (52, .iconst 1, 53, 1, 0, 0, []),
  (53, .if_icmp .ne 140, 56, 193, 0, 0, []),
  (56, .aload_n 0, 57, 0, 0, 0, []),
  (57, .bipush 101, 59, 101, 0, 0, []),
  (59, .invokevirtual 24, 62, 23, 2, 100, [6, 583, 584, 585, 586, 24]),
  (62, .iconst 2, 63, 2, 0, 0, []),
  (63, .if_icmp .ne 130, 66, 193, 0, 0, []),
  (66, .aload_n 0, 67, 0, 0, 0, []),
  (67, .iconst 0, 68, 0, 0, 0, []),
  (68, .invokevirtual 36, 71, 28, 2, 100, [6, 423, 424, 425, 426, 24]),
  (71, .bipush 10, 73, 10, 0, 0, []),
  (73, .if_icmp .ne 120, 76, 193, 0, 0, []),
  (76, .aload_n 0, 77, 0, 0, 0, []),
  (77, .bipush 100, 79, 100, 0, 0, []),
  (79, .invokevirtual 24, 82, 23, 2, 100, [6, 583, 584, 585, 586, 24])]
def zb76_1 : List zOp := [(82, .iconst 2, 83, 2, 0, 0, []),
  (83, .if_icmp .ne 110, 86, 193, 0, 0, []),
  (86, .aload_n 0, 87, 0, 0, 0, []),
  (87, .bipush 101, 89, 101, 0, 0, []),
  (89, .invokevirtual 24, 92, 23, 2, 100, [6, 583, 584, 585, 586, 24]),
  (92, .iconst 1, 93, 1, 0, 0, []),
  (93, .if_icmp .ne 100, 96, 193, 0, 0, []),
  (96, .aload_n 0, 97, 0, 0, 0, []),
  (97, .iconst 0, 98, 0, 0, 0, []),
  (98, .invokevirtual 36, 101, 28, 2, 100, [6, 423, 424, 425, 426, 24]),
  (101, .bipush 10, 103, 10, 0, 0, []),
  (103, .if_icmp .ne 90, 106, 193, 0, 0, []),
  (106, .aload_n 0, 107, 0, 0, 0, []),
  (107, .iconst 0, 108, 0, 0, 0, []),
  (108, .invokevirtual 36, 111, 28, 2, 100, [6, 423, 424, 425, 426, 24]),
  (111, .bipush 10, 113, 10, 0, 0, []),
  (113, .if_icmp .ne 80, 116, 193, 0, 0, []),
  (116, .aload_n 0, 117, 0, 0, 0, []),
  (117, .bipush 100, 119, 100, 0, 0, []),
  (119, .invokevirtual 24, 122, 23, 2, 100, [6, 583, 584, 585, 586, 24]),
  (122, .iconst 4, 123, 4, 0, 0, []),
  (123, .if_icmp .ne 70, 126, 193, 0, 0, []),
  (126, .aload_n 0, 127, 0, 0, 0, []),
  (127, .bipush 101, 129, 101, 0, 0, []),
  (129, .invokevirtual 24, 132, 23, 2, 100, [6, 583, 584, 585, 586, 24]),
  (132, .ifCond .ne 61, 135, 193, 0, 0, []),
  (135, .aload_n 0, 136, 0, 0, 0, []),
  (136, .invokevirtual 65, 139, 33, 1, 100, [6, 476, 477, 478, 479, 24]),
  (139, .sipush 644, 142, 644, 0, 0, []),
  (142, .if_icmp .ne 51, 145, 193, 0, 0, []),
  (145, .aload_n 0, 146, 0, 0, 0, []),
  (146, .invokevirtual 100, 149, 34, 1, 100, [6, 484, 485, 486, 487, 24]),
  (149, .sipush 644, 152, 644, 0, 0, []),
  (152, .if_icmp .ne 41, 155, 193, 0, 0, []),
  (155, .aload_n 0, 156, 0, 0, 0, []),
  (156, .iconst 0, 157, 0, 0, 0, []),
  (157, .invokevirtual 36, 160, 28, 2, 100, [6, 423, 424, 425, 426, 24]),
  (160, .bipush 10, 162, 10, 0, 0, []),
  (162, .if_icmp .ne 31, 165, 193, 0, 0, []),
  (165, .aload_n 0, 166, 0, 0, 0, []),
  (166, .bipush 101, 168, 101, 0, 0, []),
  (168, .invokevirtual 24, 171, 23, 2, 100, [6, 583, 584, 585, 586, 24]),
  (171, .iconst 1, 172, 1, 0, 0, []),
  (172, .if_icmp .ne 21, 175, 193, 0, 0, []),
  (175, .aload_n 0, 176, 0, 0, 0, [])]
def zb76_2 : List zOp := [(176, .invokevirtual 71, 179, 29, 1, 100, [6, 472, 473, 474, 475, 24]),
  (179, .iconst 5, 180, 5, 0, 0, []),
  (180, .if_icmp .ne 13, 183, 193, 0, 0, []),
  (183, .aload_n 0, 184, 0, 0, 0, []),
  (184, .bipush 100, 186, 100, 0, 0, []),
  (186, .invokevirtual 27, 189, 24, 2, 100, [6, 587, 588, 589, 590, 24]),
  (189, .iconst 2, 190, 2, 0, 0, []),
  (190, .if_icmp .eq 5, 193, 195, 0, 0, []),
  (193, .iconst 0, 194, 0, 0, 0, []),
  (194, .ireturn, 195, 0, 0, 2, []),
  (195, .new 8, 198, 6, 6, 0, [45, 46, 24]),
  (198, .dup, 199, 0, 0, 0, []),
  (199, .invokespecial 92, 202, 15, 1, 101, [0, 47, 48, 0, 49, 24]),
  (202, .astore_n 1, 203, 1, 0, 0, []),
  (203, .aload_n 1, 204, 1, 0, 0, []),
  (204, .iconst (-1), 205, 1, 0, 1, []),
  (205, .iconst 2, 206, 2, 0, 0, []),
  (206, .iconst 1, 207, 1, 0, 0, []),
  (207, .iconst 0, 208, 0, 0, 0, []),
  (208, .iconst 1, 209, 1, 0, 0, []),
  (209, .invokevirtual 58, 212, 16, 6, 100, [6, 118, 119, 120, 121, 24]),
  (212, .bipush 100, 214, 100, 0, 0, []),
  (214, .if_icmp .ne 189, 217, 403, 0, 0, []),
  (217, .aload_n 1, 218, 1, 0, 0, []),
  (218, .iconst (-1), 219, 1, 0, 1, []),
  (219, .iconst 4, 220, 4, 0, 0, []),
  (220, .iconst (-1), 221, 1, 0, 1, []),
  (221, .iconst 1, 222, 1, 0, 0, []),
  (222, .iconst 2, 223, 2, 0, 0, []),
  (223, .invokevirtual 58, 226, 16, 6, 100, [6, 118, 119, 120, 121, 24]),
  (226, .bipush 101, 228, 101, 0, 0, []),
  (228, .if_icmp .ne 175, 231, 403, 0, 0, []),
  (231, .aload_n 1, 232, 1, 0, 0, []),
  (232, .bipush 100, 234, 100, 0, 0, []),
  (234, .bipush 9, 236, 9, 0, 0, []),
  (236, .iconst 0, 237, 0, 0, 0, []),
  (237, .iconst 0, 238, 0, 0, 0, []),
  (238, .iconst 5, 239, 5, 0, 0, []),
  (239, .invokevirtual 58, 242, 16, 6, 100, [6, 118, 119, 120, 121, 24]),
  (242, .bipush 102, 244, 102, 0, 0, []),
  (244, .if_icmp .ne 159, 247, 403, 0, 0, []),
  (247, .aload_n 1, 248, 1, 0, 0, []),
  (248, .bipush 50, 250, 50, 0, 0, []),
  (250, .invokevirtual 36, 253, 28, 2, 100, [6, 423, 424, 425, 426, 24]),
  (253, .bipush 11, 255, 11, 0, 0, [])]
def zb76_3 : List zOp := [(255, .if_icmp .ne 148, 258, 403, 0, 0, []),
  (258, .aload_n 1, 259, 1, 0, 0, []),
  (259, .invokevirtual 61, 262, 21, 1, 100, [6, 419, 420, 421, 422, 24]),
  (262, .iconst 1, 263, 1, 0, 0, []),
  (263, .if_icmp .ne 140, 266, 403, 0, 0, []),
  (266, .aload_n 1, 267, 1, 0, 0, []),
  (267, .bipush 100, 269, 100, 0, 0, []),
  (269, .invokevirtual 88, 272, 20, 2, 100, [6, 415, 416, 417, 418, 24]),
  (272, .ifCond .ne 131, 275, 403, 0, 0, []),
  (275, .aload_n 1, 276, 1, 0, 0, []),
  (276, .bipush 102, 278, 102, 0, 0, []),
  (278, .invokevirtual 88, 281, 20, 2, 100, [6, 415, 416, 417, 418, 24]),
  (281, .ifCond .ne 122, 284, 403, 0, 0, []),
  (284, .aload_n 1, 285, 1, 0, 0, []),
  (285, .bipush 101, 287, 101, 0, 0, []),
  (287, .invokevirtual 27, 290, 24, 2, 100, [6, 587, 588, 589, 590, 24]),
  (290, .iconst 1, 291, 1, 0, 0, []),
  (291, .if_icmp .ne 112, 294, 403, 0, 0, []),
  (294, .aload_n 1, 295, 1, 0, 0, []),
  (295, .bipush 101, 297, 101, 0, 0, []),
  (297, .invokevirtual 24, 300, 23, 2, 100, [6, 583, 584, 585, 586, 24]),
  (300, .iconst 3, 301, 3, 0, 0, []),
  (301, .if_icmp .ne 102, 304, 403, 0, 0, []),
  (304, .aload_n 1, 305, 1, 0, 0, []),
  (305, .invokevirtual 65, 308, 33, 1, 100, [6, 476, 477, 478, 479, 24]),
  (308, .bipush 26, 310, 26, 0, 0, []),
  (310, .if_icmp .ne 93, 313, 403, 0, 0, []),
  (313, .aload_n 1, 314, 1, 0, 0, []),
  (314, .iconst (-1), 315, 1, 0, 1, []),
  (315, .iconst 2, 316, 2, 0, 0, []),
  (316, .iconst 0, 317, 0, 0, 0, []),
  (317, .iconst 0, 318, 0, 0, 0, []),
  (318, .iconst 3, 319, 3, 0, 0, []),
  (319, .invokevirtual 58, 322, 16, 6, 100, [6, 118, 119, 120, 121, 24]),
  (322, .sipush 200, 325, 200, 0, 0, []),
  (325, .if_icmp .ne 78, 328, 403, 0, 0, []),
  (328, .aload_n 1, 329, 1, 0, 0, []),
  (329, .iconst (-1), 330, 1, 0, 1, []),
  (330, .iconst 2, 331, 2, 0, 0, []),
  (331, .iconst 0, 332, 0, 0, 0, []),
  (332, .iconst 0, 333, 0, 0, 0, []),
  (333, .iconst 1, 334, 1, 0, 0, []),
  (334, .invokevirtual 58, 337, 16, 6, 100, [6, 118, 119, 120, 121, 24]),
  (337, .sipush 202, 340, 202, 0, 0, []),
  (340, .if_icmp .ne 63, 343, 403, 0, 0, [])]
def zb76_4 : List zOp := [(343, .aload_n 1, 344, 1, 0, 0, []),
  (344, .iconst 0, 345, 0, 0, 0, []),
  (345, .invokevirtual 36, 348, 28, 2, 100, [6, 423, 424, 425, 426, 24]),
  (348, .bipush 9, 350, 9, 0, 0, []),
  (350, .if_icmp .ne 53, 353, 403, 0, 0, []),
  (353, .aload_n 1, 354, 1, 0, 0, []),
  (354, .invokevirtual 61, 357, 21, 1, 100, [6, 419, 420, 421, 422, 24]),
  (357, .iconst 1, 358, 1, 0, 0, []),
  (358, .if_icmp .ne 45, 361, 403, 0, 0, []),
  (361, .aload_n 1, 362, 1, 0, 0, []),
  (362, .sipush 200, 365, 200, 0, 0, []),
  (365, .invokevirtual 27, 368, 24, 2, 100, [6, 587, 588, 589, 590, 24]),
  (368, .iconst 2, 369, 2, 0, 0, []),
  (369, .if_icmp .ne 34, 372, 403, 0, 0, []),
  (372, .aload_n 1, 373, 1, 0, 0, []),
  (373, .bipush 101, 375, 101, 0, 0, []),
  (375, .invokevirtual 88, 378, 20, 2, 100, [6, 415, 416, 417, 418, 24]),
  (378, .ifCond .ne 25, 381, 403, 0, 0, []),
  (381, .aload_n 1, 382, 1, 0, 0, []),
  (382, .sipush 202, 385, 202, 0, 0, []),
  (385, .invokevirtual 88, 388, 20, 2, 100, [6, 415, 416, 417, 418, 24]),
  (388, .ifCond .ne 15, 391, 403, 0, 0, []),
  (391, .aload_n 1, 392, 1, 0, 0, []),
  (392, .sipush 200, 395, 200, 0, 0, []),
  (395, .bipush 101, 397, 101, 0, 0, []),
  (397, .invokestatic 96, 400, 74, 3, 102, [0, 488, 489, 0, 490, 23]),
  (400, .ifCond .ne 5, 403, 405, 0, 0, []),
  (403, .iconst 0, 404, 0, 0, 0, []),
  (404, .ireturn, 405, 0, 0, 2, []),
  (405, .new 8, 408, 6, 6, 0, [45, 46, 24]),
  (408, .dup, 409, 0, 0, 0, []),
  (409, .invokespecial 92, 412, 15, 1, 101, [0, 47, 48, 0, 49, 24]),
  (412, .astore_n 2, 413, 2, 0, 0, []),
  (413, .aload_n 2, 414, 2, 0, 0, []),
  (414, .iconst (-1), 415, 1, 0, 1, []),
  (415, .iconst 0, 416, 0, 0, 0, []),
  (416, .iconst 0, 417, 0, 0, 0, []),
  (417, .iconst 0, 418, 0, 0, 0, []),
  (418, .iconst 1, 419, 1, 0, 0, []),
  (419, .invokevirtual 58, 422, 16, 6, 100, [6, 118, 119, 120, 121, 24]),
  (422, .bipush 100, 424, 100, 0, 0, []),
  (424, .if_icmp .ne 245, 427, 669, 0, 0, []),
  (427, .aload_n 2, 428, 2, 0, 0, []),
  (428, .iconst (-1), 429, 1, 0, 1, []),
  (429, .iconst 0, 430, 0, 0, 0, [])]
def zb76_5 : List zOp := [(430, .iconst 0, 431, 0, 0, 0, []),
  (431, .iconst 0, 432, 0, 0, 0, []),
  (432, .iconst 1, 433, 1, 0, 0, []),
  (433, .invokevirtual 58, 436, 16, 6, 100, [6, 118, 119, 120, 121, 24]),
  (436, .bipush 101, 438, 101, 0, 0, []),
  (438, .if_icmp .ne 231, 441, 669, 0, 0, []),
  (441, .aload_n 2, 442, 2, 0, 0, []),
  (442, .bipush 101, 444, 101, 0, 0, []),
  (444, .invokevirtual 7, 447, 17, 2, 100, [6, 553, 554, 555, 556, 24]),
  (447, .iconst 1, 448, 1, 0, 0, []),
  (448, .if_icmp .ne 221, 451, 669, 0, 0, []),
  (451, .aload_n 2, 452, 2, 0, 0, []),
  (452, .iconst 3, 453, 3, 0, 0, []),
  (453, .invokevirtual 36, 456, 28, 2, 100, [6, 423, 424, 425, 426, 24]),
  (456, .bipush 10, 458, 10, 0, 0, []),
  (458, .if_icmp .ne 211, 461, 669, 0, 0, []),
  (461, .aload_n 2, 462, 2, 0, 0, []),
  (462, .iconst 3, 463, 3, 0, 0, []),
  (463, .invokevirtual 36, 466, 28, 2, 100, [6, 423, 424, 425, 426, 24]),
  (466, .bipush 10, 468, 10, 0, 0, []),
  (468, .if_icmp .ne 201, 471, 669, 0, 0, []),
  (471, .aload_n 2, 472, 2, 0, 0, []),
  (472, .iconst 4, 473, 4, 0, 0, []),
  (473, .invokevirtual 36, 476, 28, 2, 100, [6, 423, 424, 425, 426, 24]),
  (476, .bipush 10, 478, 10, 0, 0, []),
  (478, .if_icmp .ne 191, 481, 669, 0, 0, []),
  (481, .aload_n 2, 482, 2, 0, 0, []),
  (482, .iconst 1, 483, 1, 0, 0, []),
  (483, .invokevirtual 36, 486, 28, 2, 100, [6, 423, 424, 425, 426, 24]),
  (486, .bipush 10, 488, 10, 0, 0, []),
  (488, .if_icmp .ne 181, 491, 669, 0, 0, []),
  (491, .aload_n 2, 492, 2, 0, 0, []),
  (492, .iconst 1, 493, 1, 0, 0, []),
  (493, .invokevirtual 36, 496, 28, 2, 100, [6, 423, 424, 425, 426, 24]),
  (496, .bipush 11, 498, 11, 0, 0, []),
  (498, .if_icmp .ne 171, 501, 669, 0, 0, []),
  (501, .aload_n 2, 502, 2, 0, 0, []),
  (502, .iconst (-1), 503, 1, 0, 1, []),
  (503, .iconst 5, 504, 5, 0, 0, []),
  (504, .iconst 0, 505, 0, 0, 0, []),
  (505, .iconst 0, 506, 0, 0, 0, []),
  (506, .iconst 1, 507, 1, 0, 0, []),
  (507, .invokevirtual 58, 510, 16, 6, 100, [6, 118, 119, 120, 121, 24]),
  (510, .sipush 201, 513, 201, 0, 0, []),
  (513, .if_icmp .ne 156, 516, 669, 0, 0, [])]
def zb76_6 : List zOp := [(516, .aload_n 2, 517, 2, 0, 0, []),
  (517, .sipush 201, 520, 201, 0, 0, []),
  (520, .invokevirtual 7, 523, 17, 2, 100, [6, 553, 554, 555, 556, 24]),
  (523, .iconst 1, 524, 1, 0, 0, []),
  (524, .if_icmp .ne 145, 527, 669, 0, 0, []),
  (527, .aload_n 2, 528, 2, 0, 0, []),
  (528, .bipush 10, 530, 10, 0, 0, []),
  (530, .invokevirtual 36, 533, 28, 2, 100, [6, 423, 424, 425, 426, 24]),
  (533, .bipush 10, 535, 10, 0, 0, []),
  (535, .if_icmp .ne 134, 538, 669, 0, 0, []),
  (538, .aload_n 2, 539, 2, 0, 0, []),
  (539, .iconst 5, 540, 5, 0, 0, []),
  (540, .invokevirtual 36, 543, 28, 2, 100, [6, 423, 424, 425, 426, 24]),
  (543, .bipush 10, 545, 10, 0, 0, []),
  (545, .if_icmp .ne 124, 548, 669, 0, 0, []),
  (548, .aload_n 2, 549, 2, 0, 0, []),
  (549, .iconst 1, 550, 1, 0, 0, []),
  (550, .invokevirtual 36, 553, 28, 2, 100, [6, 423, 424, 425, 426, 24]),
  (553, .bipush 11, 555, 11, 0, 0, []),
  (555, .if_icmp .ne 114, 558, 669, 0, 0, []),
  (558, .aload_n 2, 559, 2, 0, 0, []),
  (559, .iconst (-1), 560, 1, 0, 1, []),
  (560, .iconst 5, 561, 5, 0, 0, []),
  (561, .iconst 0, 562, 0, 0, 0, []),
  (562, .iconst 0, 563, 0, 0, 0, []),
  (563, .iconst 1, 564, 1, 0, 0, []),
  (564, .invokevirtual 58, 567, 16, 6, 100, [6, 118, 119, 120, 121, 24]),
  (567, .sipush 301, 570, 301, 0, 0, []),
  (570, .if_icmp .ne 99, 573, 669, 0, 0, []),
  (573, .aload_n 2, 574, 2, 0, 0, []),
  (574, .sipush 301, 577, 301, 0, 0, []),
  (577, .invokevirtual 7, 580, 17, 2, 100, [6, 553, 554, 555, 556, 24]),
  (580, .iconst 1, 581, 1, 0, 0, []),
  (581, .if_icmp .ne 88, 584, 669, 0, 0, []),
  (584, .aload_n 2, 585, 2, 0, 0, []),
  (585, .bipush 10, 587, 10, 0, 0, []),
  (587, .invokevirtual 36, 590, 28, 2, 100, [6, 423, 424, 425, 426, 24]),
  (590, .bipush 10, 592, 10, 0, 0, []),
  (592, .if_icmp .ne 77, 595, 669, 0, 0, []),
  (595, .aload_n 2, 596, 2, 0, 0, []),
  (596, .iconst 4, 597, 4, 0, 0, []),
  (597, .invokevirtual 36, 600, 28, 2, 100, [6, 423, 424, 425, 426, 24]),
  (600, .bipush 10, 602, 10, 0, 0, []),
  (602, .if_icmp .ne 67, 605, 669, 0, 0, []),
  (605, .aload_n 2, 606, 2, 0, 0, [])]
def zb76_7 : List zOp := [(606, .iconst (-1), 607, 1, 0, 1, []),
  (607, .iconst 5, 608, 5, 0, 0, []),
  (608, .iconst 0, 609, 0, 0, 0, []),
  (609, .iconst 0, 610, 0, 0, 0, []),
  (610, .iconst 1, 611, 1, 0, 0, []),
  (611, .invokevirtual 58, 614, 16, 6, 100, [6, 118, 119, 120, 121, 24]),
  (614, .bipush 102, 616, 102, 0, 0, []),
  (616, .if_icmp .ne 53, 619, 669, 0, 0, []),
  (619, .aload_n 2, 620, 2, 0, 0, []),
  (620, .bipush 102, 622, 102, 0, 0, []),
  (622, .invokevirtual 7, 625, 17, 2, 100, [6, 553, 554, 555, 556, 24]),
  (625, .iconst 1, 626, 1, 0, 0, []),
  (626, .if_icmp .ne 43, 629, 669, 0, 0, []),
  (629, .aload_n 2, 630, 2, 0, 0, []),
  (630, .bipush 12, 632, 12, 0, 0, []),
  (632, .invokevirtual 36, 635, 28, 2, 100, [6, 423, 424, 425, 426, 24]),
  (635, .bipush 10, 637, 10, 0, 0, []),
  (637, .if_icmp .ne 32, 640, 669, 0, 0, []),
  (640, .aload_n 2, 641, 2, 0, 0, []),
  (641, .bipush 15, 643, 15, 0, 0, []),
  (643, .invokevirtual 36, 646, 28, 2, 100, [6, 423, 424, 425, 426, 24]),
  (646, .bipush 11, 648, 11, 0, 0, []),
  (648, .if_icmp .ne 21, 651, 669, 0, 0, []),
  (651, .aload_n 2, 652, 2, 0, 0, []),
  (652, .iconst 1, 653, 1, 0, 0, []),
  (653, .invokevirtual 39, 656, 32, 2, 100, [6, 603, 604, 605, 606, 24]),
  (656, .iconst 3, 657, 3, 0, 0, []),
  (657, .if_icmp .ne 12, 660, 669, 0, 0, []),
  (660, .aload_n 2, 661, 2, 0, 0, []),
  (661, .iconst 2, 662, 2, 0, 0, []),
  (662, .invokevirtual 39, 665, 32, 2, 100, [6, 603, 604, 605, 606, 24]),
  (665, .iconst 1, 666, 1, 0, 0, []),
  (666, .if_icmp .eq 5, 669, 671, 0, 0, []),
  (669, .iconst 0, 670, 0, 0, 0, []),
  (670, .ireturn, 671, 0, 0, 2, []),
  (671, .aload_n 2, 672, 2, 0, 0, []),
  (672, .iconst (-1), 673, 1, 0, 1, []),
  (673, .iconst 5, 674, 5, 0, 0, []),
  (674, .iconst 0, 675, 0, 0, 0, []),
  (675, .iconst 0, 676, 0, 0, 0, []),
  (676, .iconst 1, 677, 1, 0, 0, []),
  (677, .invokevirtual 58, 680, 16, 6, 100, [6, 118, 119, 120, 121, 24]),
  (680, .sipush 401, 683, 401, 0, 0, []),
  (683, .if_icmp .ne 103, 686, 786, 0, 0, []),
  (686, .aload_n 2, 687, 2, 0, 0, [])]
def zb76_8 : List zOp := [(687, .iconst 3, 688, 3, 0, 0, []),
  (688, .invokevirtual 36, 691, 28, 2, 100, [6, 423, 424, 425, 426, 24]),
  (691, .bipush 10, 693, 10, 0, 0, []),
  (693, .if_icmp .ne 93, 696, 786, 0, 0, []),
  (696, .aload_n 2, 697, 2, 0, 0, []),
  (697, .sipush 401, 700, 401, 0, 0, []),
  (700, .invokevirtual 7, 703, 17, 2, 100, [6, 553, 554, 555, 556, 24]),
  (703, .iconst 1, 704, 1, 0, 0, []),
  (704, .if_icmp .ne 82, 707, 786, 0, 0, []),
  (707, .aload_n 2, 708, 2, 0, 0, []),
  (708, .invokevirtual 93, 711, 30, 1, 100, [6, 635, 636, 637, 638, 24]),
  (711, .iconst 1, 712, 1, 0, 0, []),
  (712, .if_icmp .ne 74, 715, 786, 0, 0, []),
  (715, .aload_n 2, 716, 2, 0, 0, []),
  (716, .iconst (-1), 717, 1, 0, 1, []),
  (717, .iconst 5, 718, 5, 0, 0, []),
  (718, .iconst 0, 719, 0, 0, 0, []),
  (719, .iconst 0, 720, 0, 0, 0, []),
  (720, .iconst 1, 721, 1, 0, 0, []),
  (721, .invokevirtual 58, 724, 16, 6, 100, [6, 118, 119, 120, 121, 24]),
  (724, .sipush 501, 727, 501, 0, 0, []),
  (727, .if_icmp .ne 59, 730, 786, 0, 0, []),
  (730, .aload_n 2, 731, 2, 0, 0, []),
  (731, .sipush 501, 734, 501, 0, 0, []),
  (734, .invokevirtual 7, 737, 17, 2, 100, [6, 553, 554, 555, 556, 24]),
  (737, .iconst 1, 738, 1, 0, 0, []),
  (738, .if_icmp .ne 48, 741, 786, 0, 0, []),
  (741, .aload_n 2, 742, 2, 0, 0, []),
  (742, .iconst 5, 743, 5, 0, 0, []),
  (743, .invokevirtual 36, 746, 28, 2, 100, [6, 423, 424, 425, 426, 24]),
  (746, .bipush 10, 748, 10, 0, 0, []),
  (748, .if_icmp .ne 38, 751, 786, 0, 0, []),
  (751, .aload_n 2, 752, 2, 0, 0, []),
  (752, .iconst 1, 753, 1, 0, 0, []),
  (753, .invokevirtual 36, 756, 28, 2, 100, [6, 423, 424, 425, 426, 24]),
  (756, .bipush 11, 758, 11, 0, 0, []),
  (758, .if_icmp .ne 28, 761, 786, 0, 0, []),
  (761, .aload_n 2, 762, 2, 0, 0, []),
  (762, .invokevirtual 71, 765, 29, 1, 100, [6, 472, 473, 474, 475, 24]),
  (765, .bipush 15, 767, 15, 0, 0, []),
  (767, .if_icmp .ne 19, 770, 786, 0, 0, []),
  (770, .aload_n 2, 771, 2, 0, 0, []),
  (771, .bipush 100, 773, 100, 0, 0, []),
  (773, .sipush 501, 776, 501, 0, 0, []),
  (776, .invokestatic 96, 779, 74, 3, 102, [0, 488, 489, 0, 490, 23])]
def zb76_9 : List zOp := [(779, .ifCond .eq 7, 782, 786, 0, 0, []),
  (782, .iconst 1, 783, 1, 0, 0, []),
  (783, .goto 4, 786, 787, 0, 0, []),
  (786, .iconst 0, 787, 0, 0, 0, []),
  (787, .ireturn, 788, 0, 0, 2, [])]
def zb76 : List zOp := zb76_0 ++ (zb76_1 ++ (zb76_2 ++ (zb76_3 ++ (zb76_4 ++ (zb76_5 ++ (zb76_6 ++ (zb76_7 ++ (zb76_8 ++ (zb76_9)))))))))
def zb77_0 : List zOp := [(0, .new 8, 3, 6, 6, 0, [45, 46, 24]),
  (3, .dup, 4, 0, 0, 0, []),
  (4, .invokespecial 92, 7, 15, 1, 101, [0, 47, 48, 0, 49, 24]),
  (7, .astore_n 0, 8, 0, 0, 0, []),
  (8, .iconst 0, 9, 0, 0, 0, []),
  (9, .istore_n 1, 10, 1, 0, 0, []),
  (10, .iload_n 1, 11, 1, 0, 0, []),
  (11, .bipush 9, 13, 9, 0, 0, []),
  (13, .if_icmp .ge 39, 16, 52, 0, 0, []),
  (16, .aload_n 0, 17, 0, 0, 0, []),
  (17, .iconst 0, 18, 0, 0, 0, []),
  (18, .iconst (-1), 19, 1, 0, 1, []),
  (19, .iload_n 1, 20, 1, 0, 0, []),
  (20, .iconst 0, 21, 0, 0, 0, []),
  (21, .iconst 0, 22, 0, 0, 0, []),
  (22, .iconst 1, 23, 1, 0, 0, []),
  (23, .invokestatic 78, 26, 73, 7, 104, [0, 512, 513, 0, 514, 23]),
  (26, .iload_n 1, 27, 1, 0, 0, []),
  (27, .bipush 8, 29, 8, 0, 0, []),
  (29, .if_icmp .ge 10, 32, 39, 0, 0, []),
  (32, .bipush 100, 34, 100, 0, 0, []),
  (34, .iload_n 1, 35, 1, 0, 0, []),
  (35, .iadd, 36, 0, 0, 0, []),
  (36, .goto 5, 39, 41, 0, 0, []),
  (39, .bipush (-73), 41, 73, 0, 1, []),
  (41, .if_icmp .eq 5, 44, 46, 0, 0, []),
  (44, .iconst 0, 45, 0, 0, 0, []),
  (45, .ireturn, 46, 0, 0, 2, []),
  (46, .iinc 1 1, 49, 1, 1, 0, []),
  (49, .goto (-39), 52, 10, 0, 0, []),
  (52, .iconst 0, 53, 0, 0, 0, []),
  (53, .istore_n 1, 54, 1, 0, 0, []),
  (54, .iload_n 1, 55, 1, 0, 0, []),
  (55, .iconst 4, 56, 4, 0, 0, []),
  (56, .if_icmp .ge 26, 59, 82, 0, 0, []),
  (59, .aload_n 0, 60, 0, 0, 0, []),
  (60, .bipush 100, 62, 100, 0, 0, []),
  (62, .iload_n 1, 63, 1, 0, 0, []),
  (63, .iadd, 64, 0, 0, 0, []),
  (64, .invokevirtual 7, 67, 17, 2, 100, [6, 553, 554, 555, 556, 24]),
  (67, .bipush 7, 69, 7, 0, 0, []),
  (69, .iload_n 1, 70, 1, 0, 0, []),
  (70, .isub, 71, 0, 0, 0, []),
  (71, .if_icmp .eq 5, 74, 76, 0, 0, []),
  (74, .iconst 0, 75, 0, 0, 0, [])]
def zb77_1 : List zOp := [(75, .ireturn, 76, 0, 0, 2, []),
  (76, .iinc 1 1, 79, 1, 1, 0, []),
  (79, .goto (-25), 82, 54, 0, 0, []),
  (82, .bipush 8, 84, 8, 0, 0, []),
  (84, .istore_n 1, 85, 1, 0, 0, []),
  (85, .iload_n 1, 86, 1, 0, 0, []),
  (86, .bipush 12, 88, 12, 0, 0, []),
  (88, .if_icmp .ge 83, 91, 171, 0, 0, []),
  (91, .aload_n 0, 92, 0, 0, 0, []),
  (92, .bipush 104, 94, 104, 0, 0, []),
  (94, .bipush 9, 96, 9, 0, 0, []),
  (96, .iconst 0, 97, 0, 0, 0, []),
  (97, .iconst 0, 98, 0, 0, 0, []),
  (98, .iconst 1, 99, 1, 0, 0, []),
  (99, .invokevirtual 58, 102, 16, 6, 100, [6, 118, 119, 120, 121, 24]),
  (102, .bipush 100, 104, 100, 0, 0, []),
  (104, .iload_n 1, 105, 1, 0, 0, []),
  (105, .iadd, 106, 0, 0, 0, []),
  (106, .if_icmp .eq 11, 109, 117, 0, 0, []),
  (109, .iload_n 1, 110, 1, 0, 0, []),
  (110, .bipush 11, 112, 11, 0, 0, []),
  (112, .if_icmp .ge 5, 115, 117, 0, 0, []),
  (115, .iconst 0, 116, 0, 0, 0, []),
  (116, .ireturn, 117, 0, 0, 2, []),
  (117, .iload_n 1, 118, 1, 0, 0, []),
  (118, .bipush 10, 120, 10, 0, 0, []),
  (120, .if_icmp .ne 36, 123, 156, 0, 0, []),
  (123, .aload_n 0, 124, 0, 0, 0, []),
  (124, .iconst 0, 125, 0, 0, 0, []),
  (125, .bipush 104, 127, 104, 0, 0, []),
  (127, .bipush 9, 129, 9, 0, 0, []),
  (129, .iconst 0, 130, 0, 0, 0, []),
  (130, .iconst 0, 131, 0, 0, 0, []),
  (131, .iconst 1, 132, 1, 0, 0, []),
  (132, .invokestatic 78, 135, 73, 7, 104, [0, 512, 513, 0, 514, 23]),
  (135, .bipush (-73), 137, 73, 0, 1, []),
  (137, .if_icmp .ne 17, 140, 154, 0, 0, []),
  (140, .aload_n 0, 141, 0, 0, 0, []),
  (141, .iconst (-1), 142, 1, 0, 1, []),
  (142, .iconst 0, 143, 0, 0, 0, []),
  (143, .iconst 0, 144, 0, 0, 0, []),
  (144, .iconst 0, 145, 0, 0, 0, []),
  (145, .iconst 1, 146, 1, 0, 0, []),
  (146, .invokevirtual 58, 149, 16, 6, 100, [6, 118, 119, 120, 121, 24]),
  (149, .bipush 111, 151, 111, 0, 0, [])]
def zb77_2 : List zOp := [(151, .if_icmp .eq 5, 154, 156, 0, 0, []),
  (154, .iconst 0, 155, 0, 0, 0, []),
  (155, .ireturn, 156, 0, 0, 2, []),
  (156, .iload_n 1, 157, 1, 0, 0, []),
  (157, .bipush 10, 159, 10, 0, 0, []),
  (159, .if_icmp .ne 6, 162, 165, 0, 0, []),
  (162, .goto 9, 165, 171, 0, 0, []),
  (165, .iinc 1 1, 168, 1, 1, 0, []),
  (168, .goto (-83), 171, 85, 0, 0, []),
  (171, .aload_n 0, 172, 0, 0, 0, []),
  (172, .invokevirtual 68, 175, 31, 1, 100, [6, 491, 492, 493, 494, 24]),
  (175, .ifCond .ne 113, 178, 288, 0, 0, []),
  (178, .aload_n 0, 179, 0, 0, 0, []),
  (179, .invokevirtual 61, 182, 21, 1, 100, [6, 419, 420, 421, 422, 24]),
  (182, .bipush 8, 184, 8, 0, 0, []),
  (184, .if_icmp .ne 104, 187, 288, 0, 0, []),
  (187, .aload_n 0, 188, 0, 0, 0, []),
  (188, .iconst 0, 189, 0, 0, 0, []),
  (189, .iconst (-1), 190, 1, 0, 1, []),
  (190, .iconst 0, 191, 0, 0, 0, []),
  (191, .iconst 0, 192, 0, 0, 0, []),
  (192, .iconst 0, 193, 0, 0, 0, []),
  (193, .iconst 1, 194, 1, 0, 0, []),
  (194, .invokestatic 78, 197, 73, 7, 104, [0, 512, 513, 0, 514, 23]),
  (197, .bipush (-73), 199, 73, 0, 1, []),
  (199, .if_icmp .ne 89, 202, 288, 0, 0, []),
  (202, .aload_n 0, 203, 0, 0, 0, []),
  (203, .bipush 104, 205, 104, 0, 0, []),
  (205, .invokevirtual 7, 208, 17, 2, 100, [6, 553, 554, 555, 556, 24]),
  (208, .iconst 4, 209, 4, 0, 0, []),
  (209, .if_icmp .ne 79, 212, 288, 0, 0, []),
  (212, .aload_n 0, 213, 0, 0, 0, []),
  (213, .invokevirtual 68, 216, 31, 1, 100, [6, 491, 492, 493, 494, 24]),
  (216, .ifCond .ne 72, 219, 288, 0, 0, []),
  (219, .aload_n 0, 220, 0, 0, 0, []),
  (220, .iconst (-1), 221, 1, 0, 1, []),
  (221, .bipush 8, 223, 8, 0, 0, []),
  (223, .iconst 0, 224, 0, 0, 0, []),
  (224, .iconst 1, 225, 1, 0, 0, []),
  (225, .iconst 1, 226, 1, 0, 0, []),
  (226, .invokevirtual 58, 229, 16, 6, 100, [6, 118, 119, 120, 121, 24]),
  (229, .sipush 200, 232, 200, 0, 0, []),
  (232, .if_icmp .ne 56, 235, 288, 0, 0, []),
  (235, .aload_n 0, 236, 0, 0, 0, []),
  (236, .invokevirtual 68, 239, 31, 1, 100, [6, 491, 492, 493, 494, 24])]
def zb77_3 : List zOp := [(239, .bipush 7, 241, 7, 0, 0, []),
  (241, .if_icmp .ne 47, 244, 288, 0, 0, []),
  (244, .aload_n 0, 245, 0, 0, 0, []),
  (245, .sipush 200, 248, 200, 0, 0, []),
  (248, .invokevirtual 21, 251, 22, 2, 100, [6, 579, 580, 581, 582, 24]),
  (251, .bipush 12, 253, 12, 0, 0, []),
  (253, .if_icmp .ne 35, 256, 288, 0, 0, []),
  (256, .aload_n 0, 257, 0, 0, 0, []),
  (257, .iconst 0, 258, 0, 0, 0, []),
  (258, .invokevirtual 39, 261, 32, 2, 100, [6, 603, 604, 605, 606, 24]),
  (261, .iconst 2, 262, 2, 0, 0, []),
  (262, .if_icmp .ne 26, 265, 288, 0, 0, []),
  (265, .aload_n 0, 266, 0, 0, 0, []),
  (266, .bipush 111, 268, 111, 0, 0, []),
  (268, .invokevirtual 21, 271, 22, 2, 100, [6, 579, 580, 581, 582, 24]),
  (271, .bipush 11, 273, 11, 0, 0, []),
  (273, .if_icmp .ne 15, 276, 288, 0, 0, []),
  (276, .aload_n 0, 277, 0, 0, 0, []),
  (277, .sipush 200, 280, 200, 0, 0, []),
  (280, .bipush 104, 282, 104, 0, 0, []),
  (282, .invokestatic 96, 285, 74, 3, 102, [0, 488, 489, 0, 490, 23]),
  (285, .ifCond .ne 5, 288, 290, 0, 0, []),
  (288, .iconst 0, 289, 0, 0, 0, []),
  (289, .ireturn, 290, 0, 0, 2, []),
  (290, .bipush 13, 292, 13, 0, 0, []),
  (292, .istore_n 1, 293, 1, 0, 0, []),
  (293, .iload_n 1, 294, 1, 0, 0, []),
  (294, .bipush 41, 296, 41, 0, 0, []),
  (296, .if_icmp .ge 55, 299, 351, 0, 0, []),
  (299, .aload_n 0, 300, 0, 0, 0, []),
  (300, .iconst 0, 301, 0, 0, 0, []),
  (301, .iconst (-1), 302, 1, 0, 1, []),
  (302, .iconst 0, 303, 0, 0, 0, []),
  (303, .iconst 0, 304, 0, 0, 0, []),
  (304, .iconst 0, 305, 0, 0, 0, []),
  (305, .iconst 1, 306, 1, 0, 0, []),
  (306, .invokestatic 78, 309, 73, 7, 104, [0, 512, 513, 0, 514, 23]),
  (309, .istore_n 2, 310, 2, 0, 0, []),
  (310, .iload_n 1, 311, 1, 0, 0, []),
  (311, .bipush 40, 313, 40, 0, 0, []),
  (313, .if_icmp .ne 12, 316, 325, 0, 0, []),
  (316, .iload_n 2, 317, 2, 0, 0, []),
  (317, .bipush (-73), 319, 73, 0, 1, []),
  (319, .if_icmp .eq 26, 322, 345, 0, 0, []),
  (322, .goto 21, 325, 343, 0, 0, [])]
def zb77_4 : List zOp := [(325, .aload_n 0, 326, 0, 0, 0, []),
  (326, .iload_n 2, 327, 2, 0, 0, []),
  (327, .invokevirtual 21, 330, 22, 2, 100, [6, 579, 580, 581, 582, 24]),
  (330, .iload_n 1, 331, 1, 0, 0, []),
  (331, .if_icmp .ne 12, 334, 343, 0, 0, []),
  (334, .aload_n 0, 335, 0, 0, 0, []),
  (335, .iload_n 2, 336, 2, 0, 0, []),
  (336, .invokevirtual 7, 339, 17, 2, 100, [6, 553, 554, 555, 556, 24]),
  (339, .iconst 5, 340, 5, 0, 0, []),
  (340, .if_icmp .eq 5, 343, 345, 0, 0, []),
  (343, .iconst 0, 344, 0, 0, 0, []),
  (344, .ireturn, 345, 0, 0, 2, []),
  (345, .iinc 1 1, 348, 1, 1, 0, []),
  (348, .goto (-55), 351, 293, 0, 0, []),
  (351, .aload_n 0, 352, 0, 0, 0, []),
  (352, .iconst 1, 353, 1, 0, 0, []),
  (353, .iconst 0, 354, 0, 0, 0, []),
  (354, .iconst 0, 355, 0, 0, 0, []),
  (355, .iconst 0, 356, 0, 0, 0, []),
  (356, .iconst 0, 357, 0, 0, 0, []),
  (357, .iconst 1, 358, 1, 0, 0, []),
  (358, .invokestatic 78, 361, 73, 7, 104, [0, 512, 513, 0, 514, 23]),
  (361, .iconst 1, 362, 1, 0, 0, []),
  (362, .if_icmp .ne 19, 365, 381, 0, 0, []),
  (365, .aload_n 0, 366, 0, 0, 0, []),
  (366, .iconst 0, 367, 0, 0, 0, []),
  (367, .invokevirtual 36, 370, 28, 2, 100, [6, 423, 424, 425, 426, 24]),
  (370, .ifCond .lt 11, 373, 381, 0, 0, []),
  (373, .aload_n 0, 374, 0, 0, 0, []),
  (374, .invokevirtual 61, 377, 21, 1, 100, [6, 419, 420, 421, 422, 24]),
  (377, .iconst 5, 378, 5, 0, 0, []),
  (378, .if_icmp .eq 5, 381, 383, 0, 0, []),
  (381, .iconst 0, 382, 0, 0, 0, []),
  (382, .ireturn, 383, 0, 0, 2, []),
  (383, .new 8, 386, 6, 6, 0, [45, 46, 24]),
  (386, .dup, 387, 0, 0, 0, []),
  (387, .invokespecial 92, 390, 15, 1, 101, [0, 47, 48, 0, 49, 24]),
  (390, .astore_n 1, 391, 1, 0, 0, []),
  (391, .aload_n 1, 392, 1, 0, 0, []),
  (392, .iconst 0, 393, 0, 0, 0, []),
  (393, .iconst 5, 394, 5, 0, 0, []),
  (394, .iconst 0, 395, 0, 0, 0, []),
  (395, .iconst 0, 396, 0, 0, 0, []),
  (396, .iconst 1, 397, 1, 0, 0, []),
  (397, .invokevirtual 54, 400, 27, 6, 100, [6, 518, 519, 520, 521, 24])]
def zb77_5 : List zOp := [(400, .iconst 1, 401, 1, 0, 0, []),
  (401, .if_icmp .ne 208, 404, 609, 0, 0, []),
  (404, .aload_n 1, 405, 1, 0, 0, []),
  (405, .iconst 2, 406, 2, 0, 0, []),
  (406, .iconst 5, 407, 5, 0, 0, []),
  (407, .iconst 1, 408, 1, 0, 0, []),
  (408, .iconst 1, 409, 1, 0, 0, []),
  (409, .iconst 1, 410, 1, 0, 0, []),
  (410, .invokevirtual 54, 413, 27, 6, 100, [6, 518, 519, 520, 521, 24]),
  (413, .iconst 2, 414, 2, 0, 0, []),
  (414, .if_icmp .ne 195, 417, 609, 0, 0, []),
  (417, .aload_n 1, 418, 1, 0, 0, []),
  (418, .iconst 0, 419, 0, 0, 0, []),
  (419, .bipush 9, 421, 9, 0, 0, []),
  (421, .iconst 1, 422, 1, 0, 0, []),
  (422, .iconst 0, 423, 0, 0, 0, []),
  (423, .iconst 4, 424, 4, 0, 0, []),
  (424, .invokevirtual 54, 427, 27, 6, 100, [6, 518, 519, 520, 521, 24]),
  (427, .iconst 3, 428, 3, 0, 0, []),
  (428, .if_icmp .ne 181, 431, 609, 0, 0, []),
  (431, .aload_n 1, 432, 1, 0, 0, []),
  (432, .invokevirtual 61, 435, 21, 1, 100, [6, 419, 420, 421, 422, 24]),
  (435, .ifCond .ne 174, 438, 609, 0, 0, []),
  (438, .aload_n 1, 439, 1, 0, 0, []),
  (439, .bipush 50, 441, 50, 0, 0, []),
  (441, .invokevirtual 36, 444, 28, 2, 100, [6, 423, 424, 425, 426, 24]),
  (444, .bipush 10, 446, 10, 0, 0, []),
  (446, .if_icmp .ne 163, 449, 609, 0, 0, []),
  (449, .aload_n 1, 450, 1, 0, 0, []),
  (450, .bipush 100, 452, 100, 0, 0, []),
  (452, .invokevirtual 24, 455, 23, 2, 100, [6, 583, 584, 585, 586, 24]),
  (455, .iconst 5, 456, 5, 0, 0, []),
  (456, .if_icmp .ne 153, 459, 609, 0, 0, []),
  (459, .aload_n 1, 460, 1, 0, 0, []),
  (460, .bipush 101, 462, 101, 0, 0, []),
  (462, .invokevirtual 24, 465, 23, 2, 100, [6, 583, 584, 585, 586, 24]),
  (465, .bipush 9, 467, 9, 0, 0, []),
  (467, .if_icmp .ne 142, 470, 609, 0, 0, []),
  (470, .aload_n 1, 471, 1, 0, 0, []),
  (471, .bipush 101, 473, 101, 0, 0, []),
  (473, .invokevirtual 21, 476, 22, 2, 100, [6, 579, 580, 581, 582, 24]),
  (476, .iconst 1, 477, 1, 0, 0, []),
  (477, .if_icmp .ne 132, 480, 609, 0, 0, []),
  (480, .aload_n 1, 481, 1, 0, 0, []),
  (481, .iconst 1, 482, 1, 0, 0, [])]
def zb77_6 : List zOp := [(482, .iconst 0, 483, 0, 0, 0, []),
  (483, .iconst 0, 484, 0, 0, 0, []),
  (484, .iconst 0, 485, 0, 0, 0, []),
  (485, .iconst 0, 486, 0, 0, 0, []),
  (486, .iconst 1, 487, 1, 0, 0, []),
  (487, .invokestatic 78, 490, 73, 7, 104, [0, 512, 513, 0, 514, 23]),
  (490, .bipush (-72), 492, 72, 0, 1, []),
  (492, .if_icmp .ne 117, 495, 609, 0, 0, []),
  (495, .aload_n 1, 496, 1, 0, 0, []),
  (496, .bipush 50, 498, 50, 0, 0, []),
  (498, .invokevirtual 36, 501, 28, 2, 100, [6, 423, 424, 425, 426, 24]),
  (501, .bipush 10, 503, 10, 0, 0, []),
  (503, .if_icmp .ne 106, 506, 609, 0, 0, []),
  (506, .aload_n 1, 507, 1, 0, 0, []),
  (507, .bipush 101, 509, 101, 0, 0, []),
  (509, .invokevirtual 24, 512, 23, 2, 100, [6, 583, 584, 585, 586, 24]),
  (512, .bipush 8, 514, 8, 0, 0, []),
  (514, .if_icmp .ne 95, 517, 609, 0, 0, []),
  (517, .aload_n 1, 518, 1, 0, 0, []),
  (518, .iconst 2, 519, 2, 0, 0, []),
  (519, .iconst 4, 520, 4, 0, 0, []),
  (520, .iconst 1, 521, 1, 0, 0, []),
  (521, .iconst 1, 522, 1, 0, 0, []),
  (522, .iconst 2, 523, 2, 0, 0, []),
  (523, .invokevirtual 54, 526, 27, 6, 100, [6, 518, 519, 520, 521, 24]),
  (526, .iconst 4, 527, 4, 0, 0, []),
  (527, .if_icmp .ne 82, 530, 609, 0, 0, []),
  (530, .aload_n 1, 531, 1, 0, 0, []),
  (531, .iconst 0, 532, 0, 0, 0, []),
  (532, .invokevirtual 36, 535, 28, 2, 100, [6, 423, 424, 425, 426, 24]),
  (535, .bipush 8, 537, 8, 0, 0, []),
  (537, .if_icmp .ne 72, 540, 609, 0, 0, []),
  (540, .aload_n 1, 541, 1, 0, 0, []),
  (541, .invokevirtual 61, 544, 21, 1, 100, [6, 419, 420, 421, 422, 24]),
  (544, .iconst 3, 545, 3, 0, 0, []),
  (545, .if_icmp .ne 64, 548, 609, 0, 0, []),
  (548, .aload_n 1, 549, 1, 0, 0, []),
  (549, .bipush 100, 551, 100, 0, 0, []),
  (551, .invokevirtual 88, 554, 20, 2, 100, [6, 415, 416, 417, 418, 24]),
  (554, .ifCond .ne 55, 557, 609, 0, 0, []),
  (557, .aload_n 1, 558, 1, 0, 0, []),
  (558, .bipush 103, 560, 103, 0, 0, []),
  (560, .invokevirtual 27, 563, 24, 2, 100, [6, 587, 588, 589, 590, 24]),
  (563, .iconst 1, 564, 1, 0, 0, []),
  (564, .if_icmp .ne 45, 567, 609, 0, 0, [])]
def zb77_7 : List zOp := [(567, .aload_n 1, 568, 1, 0, 0, []),
  (568, .bipush 102, 570, 102, 0, 0, []),
  (570, .invokevirtual 24, 573, 23, 2, 100, [6, 583, 584, 585, 586, 24]),
  (573, .bipush 6, 575, 6, 0, 0, []),
  (575, .if_icmp .ne 34, 578, 609, 0, 0, []),
  (578, .aload_n 1, 579, 1, 0, 0, []),
  (579, .bipush 103, 581, 103, 0, 0, []),
  (581, .invokevirtual 24, 584, 23, 2, 100, [6, 583, 584, 585, 586, 24]),
  (584, .iconst 5, 585, 5, 0, 0, []),
  (585, .if_icmp .ne 24, 588, 609, 0, 0, []),
  (588, .aload_n 1, 589, 1, 0, 0, []),
  (589, .invokevirtual 65, 592, 33, 1, 100, [6, 476, 477, 478, 479, 24]),
  (592, .sipush 1602, 595, 1602, 0, 0, []),
  (595, .if_icmp .ne 14, 598, 609, 0, 0, []),
  (598, .aload_n 1, 599, 1, 0, 0, []),
  (599, .invokevirtual 100, 602, 34, 1, 100, [6, 484, 485, 486, 487, 24]),
  (602, .aload_n 1, 603, 1, 0, 0, []),
  (603, .invokevirtual 65, 606, 33, 1, 100, [6, 476, 477, 478, 479, 24]),
  (606, .if_icmp .eq 5, 609, 611, 0, 0, []),
  (609, .iconst 0, 610, 0, 0, 0, []),
  (610, .ireturn, 611, 0, 0, 2, []),
  (611, .iconst 5, 612, 5, 0, 0, []),
  (612, .istore_n 2, 613, 2, 0, 0, []),
  (613, .iload_n 2, 614, 2, 0, 0, []),
  (614, .bipush 22, 616, 22, 0, 0, []),
  (616, .if_icmp .ge 38, 619, 654, 0, 0, []),
  (619, .aload_n 1, 620, 1, 0, 0, []),
  (620, .iconst 1, 621, 1, 0, 0, []),
  (621, .sipush 500, 624, 500, 0, 0, []),
  (624, .iconst 0, 625, 0, 0, 0, []),
  (625, .iconst 0, 626, 0, 0, 0, []),
  (626, .iconst 0, 627, 0, 0, 0, []),
  (627, .iconst 1, 628, 1, 0, 0, []),
  (628, .invokestatic 78, 631, 73, 7, 104, [0, 512, 513, 0, 514, 23]),
  (631, .iload_n 2, 632, 2, 0, 0, []),
  (632, .bipush 21, 634, 21, 0, 0, []),
  (634, .if_icmp .ge 7, 637, 641, 0, 0, []),
  (637, .iload_n 2, 638, 2, 0, 0, []),
  (638, .goto 5, 641, 643, 0, 0, []),
  (641, .bipush (-73), 643, 73, 0, 1, []),
  (643, .if_icmp .eq 5, 646, 648, 0, 0, []),
  (646, .iconst 0, 647, 0, 0, 0, []),
  (647, .ireturn, 648, 0, 0, 2, []),
  (648, .iinc 2 1, 651, 2, 1, 0, []),
  (651, .goto (-38), 654, 613, 0, 0, [])]
def zb77_8 : List zOp := [(654, .new 8, 657, 6, 6, 0, [45, 46, 24]),
  (657, .dup, 658, 0, 0, 0, []),
  (658, .invokespecial 92, 661, 15, 1, 101, [0, 47, 48, 0, 49, 24]),
  (661, .astore_n 2, 662, 2, 0, 0, []),
  (662, .aload_n 2, 663, 2, 0, 0, []),
  (663, .iconst (-1), 664, 1, 0, 1, []),
  (664, .iconst 0, 665, 0, 0, 0, []),
  (665, .iconst 0, 666, 0, 0, 0, []),
  (666, .iconst 0, 667, 0, 0, 0, []),
  (667, .iconst 1, 668, 1, 0, 0, []),
  (668, .invokevirtual 58, 671, 16, 6, 100, [6, 118, 119, 120, 121, 24]),
  (671, .bipush 100, 673, 100, 0, 0, []),
  (673, .if_icmp .ne 274, 676, 947, 0, 0, []),
  (676, .aload_n 2, 677, 2, 0, 0, []),
  (677, .iconst (-1), 678, 1, 0, 1, []),
  (678, .iconst 5, 679, 5, 0, 0, []),
  (679, .iconst 0, 680, 0, 0, 0, []),
  (680, .iconst 0, 681, 0, 0, 0, []),
  (681, .iconst 1, 682, 1, 0, 0, []),
  (682, .invokevirtual 58, 685, 16, 6, 100, [6, 118, 119, 120, 121, 24]),
  (685, .bipush 101, 687, 101, 0, 0, []),
  (687, .if_icmp .ne 260, 690, 947, 0, 0, []),
  (690, .aload_n 2, 691, 2, 0, 0, []),
  (691, .iconst (-1), 692, 1, 0, 1, []),
  (692, .bipush 9, 694, 9, 0, 0, []),
  (694, .iconst 0, 695, 0, 0, 0, []),
  (695, .iconst 0, 696, 0, 0, 0, []),
  (696, .iconst 1, 697, 1, 0, 0, []),
  (697, .invokevirtual 58, 700, 16, 6, 100, [6, 118, 119, 120, 121, 24]),
  (700, .bipush 102, 702, 102, 0, 0, []),
  (702, .if_icmp .ne 245, 705, 947, 0, 0, []),
  (705, .aload_n 2, 706, 2, 0, 0, []),
  (706, .iconst (-1), 707, 1, 0, 1, []),
  (707, .iconst 3, 708, 3, 0, 0, []),
  (708, .iconst 0, 709, 0, 0, 0, []),
  (709, .iconst 0, 710, 0, 0, 0, []),
  (710, .iconst 1, 711, 1, 0, 0, []),
  (711, .invokevirtual 58, 714, 16, 6, 100, [6, 118, 119, 120, 121, 24]),
  (714, .bipush 103, 716, 103, 0, 0, []),
  (716, .if_icmp .ne 231, 719, 947, 0, 0, []),
  (719, .aload_n 2, 720, 2, 0, 0, []),
  (720, .bipush 102, 722, 102, 0, 0, []),
  (722, .invokevirtual 45, 725, 36, 2, 100, [6, 613, 614, 615, 616, 24]),
  (725, .ifCond .ne 222, 728, 947, 0, 0, []),
  (728, .aload_n 2, 729, 2, 0, 0, [])]
def zb77_9 : List zOp := [(729, .bipush 101, 731, 101, 0, 0, []),
  (731, .invokevirtual 45, 734, 36, 2, 100, [6, 613, 614, 615, 616, 24]),
  (734, .iconst 1, 735, 1, 0, 0, []),
  (735, .if_icmp .ne 212, 738, 947, 0, 0, []),
  (738, .aload_n 2, 739, 2, 0, 0, []),
  (739, .bipush 100, 741, 100, 0, 0, []),
  (741, .invokevirtual 45, 744, 36, 2, 100, [6, 613, 614, 615, 616, 24]),
  (744, .iconst 2, 745, 2, 0, 0, []),
  (745, .if_icmp .ne 202, 748, 947, 0, 0, []),
  (748, .aload_n 2, 749, 2, 0, 0, []),
  (749, .invokevirtual 74, 752, 37, 1, 100, [6, 495, 496, 497, 498, 24]),
  (752, .bipush 7, 754, 7, 0, 0, []),
  (754, .if_icmp .ne 193, 757, 947, 0, 0, []),
  (757, .aload_n 2, 758, 2, 0, 0, []),
  (758, .bipush 103, 760, 103, 0, 0, []),
  (760, .invokevirtual 45, 763, 36, 2, 100, [6, 613, 614, 615, 616, 24]),
  (763, .iconst 3, 764, 3, 0, 0, []),
  (764, .if_icmp .ne 183, 767, 947, 0, 0, []),
  (767, .aload_n 2, 768, 2, 0, 0, []),
  (768, .invokevirtual 74, 771, 37, 1, 100, [6, 495, 496, 497, 498, 24]),
  (771, .bipush 14, 773, 14, 0, 0, []),
  (773, .if_icmp .ne 174, 776, 947, 0, 0, []),
  (776, .aload_n 2, 777, 2, 0, 0, []),
  (777, .bipush 9, 779, 9, 0, 0, []),
  (779, .invokevirtual 42, 782, 35, 2, 100, [6, 608, 609, 610, 611, 24]),
  (782, .ifCond .ne 165, 785, 947, 0, 0, []),
  (785, .aload_n 2, 786, 2, 0, 0, []),
  (786, .invokevirtual 74, 789, 37, 1, 100, [6, 495, 496, 497, 498, 24]),
  (789, .bipush 11, 791, 11, 0, 0, []),
  (791, .if_icmp .ne 156, 794, 947, 0, 0, []),
  (794, .aload_n 2, 795, 2, 0, 0, []),
  (795, .iconst 4, 796, 4, 0, 0, []),
  (796, .invokevirtual 42, 799, 35, 2, 100, [6, 608, 609, 610, 611, 24]),
  (799, .bipush 9, 801, 9, 0, 0, []),
  (801, .if_icmp .ne 146, 804, 947, 0, 0, []),
  (804, .aload_n 2, 805, 2, 0, 0, []),
  (805, .invokevirtual 74, 808, 37, 1, 100, [6, 495, 496, 497, 498, 24]),
  (808, .bipush 14, 810, 14, 0, 0, []),
  (810, .if_icmp .ne 137, 813, 947, 0, 0, []),
  (813, .aload_n 2, 814, 2, 0, 0, []),
  (814, .iconst 0, 815, 0, 0, 0, []),
  (815, .invokevirtual 36, 818, 28, 2, 100, [6, 423, 424, 425, 426, 24]),
  (818, .bipush 8, 820, 8, 0, 0, []),
  (820, .if_icmp .ne 127, 823, 947, 0, 0, []),
  (823, .aload_n 2, 824, 2, 0, 0, [])]
def zb77_10 : List zOp := [(824, .bipush 103, 826, 103, 0, 0, []),
  (826, .invokevirtual 45, 829, 36, 2, 100, [6, 613, 614, 615, 616, 24]),
  (829, .iconst 4, 830, 4, 0, 0, []),
  (830, .if_icmp .ne 117, 833, 947, 0, 0, []),
  (833, .aload_n 2, 834, 2, 0, 0, []),
  (834, .invokevirtual 74, 837, 37, 1, 100, [6, 495, 496, 497, 498, 24]),
  (837, .bipush 26, 839, 26, 0, 0, []),
  (839, .if_icmp .ne 108, 842, 947, 0, 0, []),
  (842, .aload_n 2, 843, 2, 0, 0, []),
  (843, .bipush 103, 845, 103, 0, 0, []),
  (845, .invokevirtual 7, 848, 17, 2, 100, [6, 553, 554, 555, 556, 24]),
  (848, .iconst 3, 849, 3, 0, 0, []),
  (849, .if_icmp .ne 98, 852, 947, 0, 0, []),
  (852, .aload_n 2, 853, 2, 0, 0, []),
  (853, .invokevirtual 74, 856, 37, 1, 100, [6, 495, 496, 497, 498, 24]),
  (856, .bipush 7, 858, 7, 0, 0, []),
  (858, .if_icmp .ne 89, 861, 947, 0, 0, []),
  (861, .aload_n 2, 862, 2, 0, 0, []),
  (862, .iconst 0, 863, 0, 0, 0, []),
  (863, .invokevirtual 36, 866, 28, 2, 100, [6, 423, 424, 425, 426, 24]),
  (866, .bipush 8, 868, 8, 0, 0, []),
  (868, .if_icmp .ne 79, 871, 947, 0, 0, []),
  (871, .aload_n 2, 872, 2, 0, 0, []),
  (872, .iconst 0, 873, 0, 0, 0, []),
  (873, .invokevirtual 36, 876, 28, 2, 100, [6, 423, 424, 425, 426, 24]),
  (876, .bipush 8, 878, 8, 0, 0, []),
  (878, .if_icmp .ne 69, 881, 947, 0, 0, []),
  (881, .aload_n 2, 882, 2, 0, 0, []),
  (882, .iconst 0, 883, 0, 0, 0, []),
  (883, .invokevirtual 36, 886, 28, 2, 100, [6, 423, 424, 425, 426, 24]),
  (886, .bipush 8, 888, 8, 0, 0, []),
  (888, .if_icmp .ne 59, 891, 947, 0, 0, []),
  (891, .aload_n 2, 892, 2, 0, 0, []),
  (892, .invokevirtual 74, 895, 37, 1, 100, [6, 495, 496, 497, 498, 24]),
  (895, .bipush 7, 897, 7, 0, 0, []),
  (897, .if_icmp .ne 50, 900, 947, 0, 0, []),
  (900, .aload_n 2, 901, 2, 0, 0, []),
  (901, .iconst 0, 902, 0, 0, 0, []),
  (902, .invokevirtual 36, 905, 28, 2, 100, [6, 423, 424, 425, 426, 24]),
  (905, .bipush 8, 907, 8, 0, 0, []),
  (907, .if_icmp .ne 40, 910, 947, 0, 0, []),
  (910, .aload_n 2, 911, 2, 0, 0, []),
  (911, .invokevirtual 74, 914, 37, 1, 100, [6, 495, 496, 497, 498, 24]),
  (914, .ifCond .ne 33, 917, 947, 0, 0, []),
  (917, .aload_n 2, 918, 2, 0, 0, [])]
def zb77_11 : List zOp := [(918, .bipush 101, 920, 101, 0, 0, []),
  (920, .invokevirtual 45, 923, 36, 2, 100, [6, 613, 614, 615, 616, 24]),
  (923, .iconst 5, 924, 5, 0, 0, []),
  (924, .if_icmp .ne 23, 927, 947, 0, 0, []),
  (927, .aload_n 2, 928, 2, 0, 0, []),
  (928, .invokevirtual 74, 931, 37, 1, 100, [6, 495, 496, 497, 498, 24]),
  (931, .bipush 32, 933, 32, 0, 0, []),
  (933, .if_icmp .ne 14, 936, 947, 0, 0, []),
  (936, .aload_n 2, 937, 2, 0, 0, []),
  (937, .bipush 100, 939, 100, 0, 0, []),
  (939, .bipush 103, 941, 103, 0, 0, []),
  (941, .invokestatic 96, 944, 74, 3, 102, [0, 488, 489, 0, 490, 23]),
  (944, .ifCond .ne 5, 947, 949, 0, 0, []),
  (947, .iconst 0, 948, 0, 0, 0, []),
  (948, .ireturn, 949, 0, 0, 2, []),
  (949, .bipush 6, 951, 6, 0, 0, []),
  (951, .istore_n 3, 952, 3, 0, 0, []),
  (952, .iload_n 3, 953, 3, 0, 0, []),
  (953, .bipush 31, 955, 31, 0, 0, []),
  (955, .if_icmp .ge 36, 958, 991, 0, 0, []),
  (958, .aload_n 2, 959, 2, 0, 0, []),
  (959, .bipush 11, 961, 11, 0, 0, []),
  (961, .bipush 101, 963, 101, 0, 0, []),
  (963, .iconst 0, 964, 0, 0, 0, []),
  (964, .iconst 0, 965, 0, 0, 0, []),
  (965, .invokestatic 84, 968, 72, 5, 104, [0, 550, 551, 0, 552, 23]),
  (968, .iload_n 3, 969, 3, 0, 0, []),
  (969, .bipush 30, 971, 30, 0, 0, []),
  (971, .if_icmp .ge 7, 974, 978, 0, 0, []),
  (974, .iload_n 3, 975, 3, 0, 0, []),
  (975, .goto 5, 978, 980, 0, 0, []),
  (978, .bipush (-73), 980, 73, 0, 1, []),
  (980, .if_icmp .eq 5, 983, 985, 0, 0, []),
  (983, .iconst 0, 984, 0, 0, 0, []),
  (984, .ireturn, 985, 0, 0, 2, []),
  (985, .iinc 3 1, 988, 3, 1, 0, []),
  (988, .goto (-36), 991, 952, 0, 0, []),
  (991, .aload_n 2, 992, 2, 0, 0, []),
  (992, .invokevirtual 74, 995, 37, 1, 100, [6, 495, 496, 497, 498, 24]),
  (995, .sipush 224, 998, 224, 0, 0, []),
  (998, .if_icmp .ne 7, 1001, 1005, 0, 0, []),
  (1001, .iconst 1, 1002, 1, 0, 0, []),
  (1002, .goto 4, 1005, 1006, 0, 0, []),
  (1005, .iconst 0, 1006, 0, 0, 0, []),
  (1006, .ireturn, 1007, 0, 0, 2, [])]
def zb77 : List zOp := zb77_0 ++ (zb77_1 ++ (zb77_2 ++ (zb77_3 ++ (zb77_4 ++ (zb77_5 ++ (zb77_6 ++ (zb77_7 ++ (zb77_8 ++ (zb77_9 ++ (zb77_10 ++ (zb77_11)))))))))))
def zb78_0 : List zOp := [(0, .invokestatic 103, 3, 75, 0, 102, [0, 632, 633, 0, 634, 23]),
  (3, .ifCond .eq 15, 6, 18, 0, 0, []),
  (6, .invokestatic 107, 9, 76, 0, 102, [0, 640, 641, 0, 642, 23]),
  (9, .ifCond .eq 9, 12, 18, 0, 0, []),
  (12, .invokestatic 109, 15, 77, 0, 102, [0, 643, 644, 0, 645, 23]),
  (15, .ifCond .ne 5, 18, 20, 0, 0, []),
  (18, .iconst 0, 19, 0, 0, 0, []),
  (19, .ireturn, 20, 0, 0, 2, []),
  (20, .new 8, 23, 6, 6, 0, [45, 46, 24]),
  (23, .dup, 24, 0, 0, 0, []),
  (24, .invokespecial 92, 27, 15, 1, 101, [0, 47, 48, 0, 49, 24]),
  (27, .astore_n 1, 28, 1, 0, 0, []),
  (28, .aload_n 1, 29, 1, 0, 0, []),
  (29, .iconst (-1), 30, 1, 0, 1, []),
  (30, .iconst 0, 31, 0, 0, 0, []),
  (31, .iconst 0, 32, 0, 0, 0, []),
  (32, .iconst 0, 33, 0, 0, 0, []),
  (33, .bipush 9, 35, 9, 0, 0, []),
  (35, .invokevirtual 58, 38, 16, 6, 100, [6, 118, 119, 120, 121, 24]),
  (38, .istore_n 2, 39, 2, 0, 0, []),
  (39, .iconst 0, 40, 0, 0, 0, []),
  (40, .istore_n 3, 41, 3, 0, 0, []),
  (41, .iload_n 3, 42, 3, 0, 0, []),
  (42, .bipush 24, 44, 24, 0, 0, []),
  (44, .if_icmp .ge 114, 47, 158, 0, 0, []),
  (47, .aload_n 0, 48, 0, 0, 0, []),
  (48, .arraylength, 49, 0, 0, 0, []),
  (49, .ifCond .ne 10, 52, 59, 0, 0, []),
  (52, .bipush 31, 54, 31, 0, 0, []),
  (54, .iload_n 3, 55, 3, 0, 0, []),
  (55, .imul, 56, 0, 0, 0, []),
  (56, .goto 12, 59, 68, 0, 0, []),
  (59, .aload_n 0, 60, 0, 0, 0, []),
  (60, .iload_n 3, 61, 3, 0, 0, []),
  (61, .aload_n 0, 62, 0, 0, 0, []),
  (62, .arraylength, 63, 0, 0, 0, []),
  (63, .irem, 64, 0, 0, 0, []),
  (64, .iaload, 65, 0, 0, 0, []),
  (65, .bipush 8, 67, 8, 0, 0, []),
  (67, .iushr, 68, 0, 0, 0, []),
  (68, .istore 4, 70, 4, 0, 0, []),
  (70, .aload_n 1, 71, 1, 0, 0, []),
  (71, .invokevirtual 61, 74, 21, 1, 100, [6, 419, 420, 421, 422, 24]),
  (74, .bipush 8, 76, 8, 0, 0, []),
  (76, .if_icmp .ge 32, 79, 108, 0, 0, [])]
def zb78_1 : List zOp := [(79, .aload_n 1, 80, 1, 0, 0, []),
  (80, .iconst (-1), 81, 1, 0, 1, []),
  (81, .iload 4, 83, 4, 0, 0, []),
  (83, .bipush 10, 85, 10, 0, 0, []),
  (85, .irem, 86, 0, 0, 0, []),
  (86, .iload 4, 88, 4, 0, 0, []),
  (88, .iconst 3, 89, 3, 0, 0, []),
  (89, .irem, 90, 0, 0, 0, []),
  (90, .iconst 1, 91, 1, 0, 0, []),
  (91, .isub, 92, 0, 0, 0, []),
  (92, .iconst 0, 93, 0, 0, 0, []),
  (93, .iconst 1, 94, 1, 0, 0, []),
  (94, .iload 4, 96, 4, 0, 0, []),
  (96, .bipush 9, 98, 9, 0, 0, []),
  (98, .irem, 99, 0, 0, 0, []),
  (99, .iadd, 100, 0, 0, 0, []),
  (100, .invokevirtual 58, 103, 16, 6, 100, [6, 118, 119, 120, 121, 24]),
  (103, .bipush 100, 105, 100, 0, 0, []),
  (105, .if_icmp .lt 45, 108, 150, 0, 0, []),
  (108, .aload_n 1, 109, 1, 0, 0, []),
  (109, .iload 4, 111, 4, 0, 0, []),
  (111, .bipush 51, 113, 51, 0, 0, []),
  (113, .irem, 114, 0, 0, 0, []),
  (114, .invokevirtual 36, 117, 28, 2, 100, [6, 423, 424, 425, 426, 24]),
  (117, .bipush 11, 119, 11, 0, 0, []),
  (119, .if_icmp .gt 31, 122, 150, 0, 0, []),
  (122, .aload_n 1, 123, 1, 0, 0, []),
  (123, .invokevirtual 65, 126, 33, 1, 100, [6, 476, 477, 478, 479, 24]),
  (126, .aload_n 1, 127, 1, 0, 0, []),
  (127, .invokevirtual 100, 130, 34, 1, 100, [6, 484, 485, 486, 487, 24]),
  (130, .if_icmp .ne 20, 133, 150, 0, 0, []),
  (133, .iload_n 3, 134, 3, 0, 0, []),
  (134, .bipush 6, 136, 6, 0, 0, []),
  (136, .irem, 137, 0, 0, 0, []),
  (137, .ifCond .ne 15, 140, 152, 0, 0, []),
  (140, .aload_n 1, 141, 1, 0, 0, []),
  (141, .iload_n 2, 142, 2, 0, 0, []),
  (142, .bipush 99, 144, 99, 0, 0, []),
  (144, .invokestatic 96, 147, 74, 3, 102, [0, 488, 489, 0, 490, 23]),
  (147, .ifCond .ne 5, 150, 152, 0, 0, []),
  (150, .iconst 0, 151, 0, 0, 0, []),
  (151, .ireturn, 152, 0, 0, 2, []),
  (152, .iinc 3 1, 155, 3, 1, 0, []),
  (155, .goto (-114), 158, 41, 0, 0, []),
  (158, .aload_n 1, 159, 1, 0, 0, [])]
def zb78_2 : List zOp := [(159, .iload_n 2, 160, 2, 0, 0, []),
  (160, .invokevirtual 88, 163, 20, 2, 100, [6, 415, 416, 417, 418, 24]),
  (163, .ifCond .eq 16, 166, 179, 0, 0, []),
  (166, .aload_n 1, 167, 1, 0, 0, []),
  (167, .invokevirtual 71, 170, 29, 1, 100, [6, 472, 473, 474, 475, 24]),
  (170, .bipush 24, 172, 24, 0, 0, []),
  (172, .if_icmp .ne 7, 175, 179, 0, 0, []),
  (175, .iconst 1, 176, 1, 0, 0, []),
  (176, .goto 4, 179, 180, 0, 0, []),
  (179, .iconst 0, 180, 0, 0, 0, []),
  (180, .ireturn, 181, 0, 0, 2, [])]
def zb78 : List zOp := zb78_0 ++ (zb78_1 ++ (zb78_2))
def zbody : Nat → List zOp := fun y => match y with
  | 0 => zb0
  | 1 => zb1
  | 2 => zb2
  | 3 => zb3
  | 4 => zb4
  | 5 => zb5
  | 6 => zb6
  | 7 => zb7
  | 8 => zb8
  | 9 => zb9
  | 10 => zb10
  | 11 => zb11
  | 12 => zb12
  | 13 => zb13
  | 14 => zb14
  | 15 => zb15
  | 16 => zb16
  | 17 => zb17
  | 18 => zb18
  | 19 => zb19
  | 20 => zb20
  | 21 => zb21
  | 22 => zb22
  | 23 => zb23
  | 24 => zb24
  | 25 => zb25
  | 26 => zb26
  | 27 => zb27
  | 28 => zb28
  | 29 => zb29
  | 30 => zb30
  | 31 => zb31
  | 32 => zb32
  | 33 => zb33
  | 34 => zb34
  | 35 => zb35
  | 36 => zb36
  | 37 => zb37
  | 38 => zb38
  | 39 => zb39
  | 40 => zb40
  | 41 => zb41
  | 42 => zb42
  | 43 => zb43
  | 44 => zb44
  | 45 => zb45
  | 46 => zb46
  | 47 => zb47
  | 48 => zb48
  | 49 => zb49
  | 50 => zb50
  | 51 => zb51
  | 52 => zb52
  | 53 => zb53
  | 54 => zb54
  | 55 => zb55
  | 56 => zb56
  | 57 => zb57
  | 58 => zb58
  | 59 => zb59
  | 60 => zb60
  | 61 => zb61
  | 62 => zb62
  | 63 => zb63
  | 64 => zb64
  | 65 => zb65
  | 66 => zb66
  | 67 => zb67
  | 68 => zb68
  | 69 => zb69
  | 70 => zb70
  | 71 => zb71
  | 72 => zb72
  | 73 => zb73
  | 74 => zb74
  | 75 => zb75
  | 76 => zb76
  | 77 => zb77
  | 78 => zb78
  | _ => []
def zNm : Nat → MethodName := fun y => match y with
  | 0 => yX0_init
  | 1 => yX0_countedLinksTo
  | 2 => yX0_holdOthers
  | 3 => yX0_move
  | 4 => yX1_init
  | 5 => yX2_init
  | 6 => yX2_countFree
  | 7 => yX2_settle
  | 8 => yX2_sweepAll
  | 9 => yX2_goOn
  | 10 => yX2_takeStep
  | 11 => yX2_mark
  | 12 => yX2_lookAt
  | 13 => yX3_init
  | 14 => yX4_init
  | 15 => yX5_init
  | 16 => yX5_spawn
  | 17 => yX5_unroot
  | 18 => yX5_tie
  | 19 => yX5_untie
  | 20 => yX5_isHeld
  | 21 => yX5_held
  | 22 => yX5_number
  | 23 => yX5_cell
  | 24 => yX5_lives
  | 25 => yX5_linkAt
  | 26 => yX5_count
  | 27 => yX5_wave
  | 28 => yX5_frame
  | 29 => yX5_frames
  | 30 => yX5_sweep
  | 31 => yX5_free
  | 32 => yX5_age
  | 33 => yX5_sum
  | 34 => yX5_sumByReplay
  | 35 => yX5_listen
  | 36 => yX5_sound
  | 37 => yX5_heard
  | 38 => yX5_isCell
  | 39 => yX5_areTraits
  | 40 => yX5_findHeld
  | 41 => yX5_heldActor
  | 42 => yX5_countHeld
  | 43 => yX5_sumOfHeld
  | 44 => yX5_hasRoomForOne
  | 45 => yX5_enter
  | 46 => yX5_noteHeld
  | 47 => yX5_holdLinked
  | 48 => yX5_runWaves
  | 49 => yX5_moveHeld
  | 50 => yX5_hitInCells
  | 51 => yX5_isHeldIn
  | 52 => yX5_hitAllIn
  | 53 => yX5_nearestSound
  | 54 => yX5_canBeHeard
  | 55 => yJxa1e45_init_da8c8
  | 56 => yJxc12de_init_da8c8
  | 57 => yJx4a65c_init_da8c8
  | 58 => yJx4a65c_grow_92f84
  | 59 => yJx4a65c_grow_d5877
  | 60 => yJx4a65c_size_8abf5
  | 61 => yJx4a65c_elementData_915e3
  | 62 => yJx4a65c_get_915e3
  | 63 => yJx4a65c_add_72be8
  | 64 => yJx4a65c_add_9ea2d
  | 65 => yJx4a65c_remove_915e3
  | 66 => yJx4a65c_fastRemove_b59b0
  | 67 => yJ7_copyOf_1904c
  | 68 => yJ7_copyOf_6403c
  | 69 => yJ15_checkIndex_7cf53
  | 70 => yJ8_newLength_cabcc
  | 71 => yJ3_checkIndex_8e157
  | 72 => yL_act
  | 73 => yL_come
  | 74 => yL_refuses
  | 75 => yL_links
  | 76 => yL_frames
  | 77 => yL_crowds
  | 78 => yL_law
  | _ => ⟨"", "", ""⟩
def zB : Nat → ByteArray := fun y => match y with
  | 0 => cX0_init
  | 1 => cX0_countedLinksTo
  | 2 => cX0_holdOthers
  | 3 => cX0_move
  | 4 => cX1_init
  | 5 => cX2_init
  | 6 => cX2_countFree
  | 7 => cX2_settle
  | 8 => cX2_sweepAll
  | 9 => cX2_goOn
  | 10 => cX2_takeStep
  | 11 => cX2_mark
  | 12 => cX2_lookAt
  | 13 => cX3_init
  | 14 => cX4_init
  | 15 => cX5_init
  | 16 => cX5_spawn
  | 17 => cX5_unroot
  | 18 => cX5_tie
  | 19 => cX5_untie
  | 20 => cX5_isHeld
  | 21 => cX5_held
  | 22 => cX5_number
  | 23 => cX5_cell
  | 24 => cX5_lives
  | 25 => cX5_linkAt
  | 26 => cX5_count
  | 27 => cX5_wave
  | 28 => cX5_frame
  | 29 => cX5_frames
  | 30 => cX5_sweep
  | 31 => cX5_free
  | 32 => cX5_age
  | 33 => cX5_sum
  | 34 => cX5_sumByReplay
  | 35 => cX5_listen
  | 36 => cX5_sound
  | 37 => cX5_heard
  | 38 => cX5_isCell
  | 39 => cX5_areTraits
  | 40 => cX5_findHeld
  | 41 => cX5_heldActor
  | 42 => cX5_countHeld
  | 43 => cX5_sumOfHeld
  | 44 => cX5_hasRoomForOne
  | 45 => cX5_enter
  | 46 => cX5_noteHeld
  | 47 => cX5_holdLinked
  | 48 => cX5_runWaves
  | 49 => cX5_moveHeld
  | 50 => cX5_hitInCells
  | 51 => cX5_isHeldIn
  | 52 => cX5_hitAllIn
  | 53 => cX5_nearestSound
  | 54 => cX5_canBeHeard
  | 55 => cJxa1e45_init_da8c8
  | 56 => cJxc12de_init_da8c8
  | 57 => cJx4a65c_init_da8c8
  | 58 => cJx4a65c_grow_92f84
  | 59 => cJx4a65c_grow_d5877
  | 60 => cJx4a65c_size_8abf5
  | 61 => cJx4a65c_elementData_915e3
  | 62 => cJx4a65c_get_915e3
  | 63 => cJx4a65c_add_72be8
  | 64 => cJx4a65c_add_9ea2d
  | 65 => cJx4a65c_remove_915e3
  | 66 => cJx4a65c_fastRemove_b59b0
  | 67 => cJ7_copyOf_1904c
  | 68 => cJ7_copyOf_6403c
  | 69 => cJ15_checkIndex_7cf53
  | 70 => cJ8_newLength_cabcc
  | 71 => cJ3_checkIndex_8e157
  | 72 => cL_act
  | 73 => cL_come
  | 74 => cL_refuses
  | 75 => cL_links
  | 76 => cL_frames
  | 77 => cL_crowds
  | 78 => cL_law
  | _ => ⟨#[]⟩
def zOwn : Nat → String := fun y => match y with
  | 0 => RX0
  | 1 => RX0
  | 2 => RX0
  | 3 => RX0
  | 4 => RX1
  | 5 => RX2
  | 6 => RX2
  | 7 => RX2
  | 8 => RX2
  | 9 => RX2
  | 10 => RX2
  | 11 => RX2
  | 12 => RX2
  | 13 => RX3
  | 14 => RX4
  | 15 => RX5
  | 16 => RX5
  | 17 => RX5
  | 18 => RX5
  | 19 => RX5
  | 20 => RX5
  | 21 => RX5
  | 22 => RX5
  | 23 => RX5
  | 24 => RX5
  | 25 => RX5
  | 26 => RX5
  | 27 => RX5
  | 28 => RX5
  | 29 => RX5
  | 30 => RX5
  | 31 => RX5
  | 32 => RX5
  | 33 => RX5
  | 34 => RX5
  | 35 => RX5
  | 36 => RX5
  | 37 => RX5
  | 38 => RX5
  | 39 => RX5
  | 40 => RX5
  | 41 => RX5
  | 42 => RX5
  | 43 => RX5
  | 44 => RX5
  | 45 => RX5
  | 46 => RX5
  | 47 => RX5
  | 48 => RX5
  | 49 => RX5
  | 50 => RX5
  | 51 => RX5
  | 52 => RX5
  | 53 => RX5
  | 54 => RX5
  | 55 => RJxa1e45
  | 56 => RJxc12de
  | 57 => RJx4a65c
  | 58 => RJx4a65c
  | 59 => RJx4a65c
  | 60 => RJx4a65c
  | 61 => RJx4a65c
  | 62 => RJx4a65c
  | 63 => RJx4a65c
  | 64 => RJx4a65c
  | 65 => RJx4a65c
  | 66 => RJx4a65c
  | 67 => RJ7
  | 68 => RJ7
  | 69 => RJ15
  | 70 => RJ8
  | 71 => RJ3
  | 72 => RL
  | 73 => RL
  | 74 => RL
  | 75 => RL
  | 76 => RL
  | 77 => RL
  | 78 => RL
  | _ => ""
def zX : Nat → Nat := fun y => match y with
  | 0 => 6
  | 1 => 5
  | 2 => 5
  | 3 => 1
  | 4 => 3
  | 5 => 1
  | 6 => 3
  | 7 => 3
  | 8 => 4
  | 9 => 5
  | 10 => 1
  | 11 => 3
  | 12 => 3
  | 13 => 3
  | 14 => 6
  | 15 => 1
  | 16 => 8
  | 17 => 3
  | 18 => 6
  | 19 => 4
  | 20 => 2
  | 21 => 1
  | 22 => 2
  | 23 => 2
  | 24 => 2
  | 25 => 5
  | 26 => 6
  | 27 => 6
  | 28 => 2
  | 29 => 1
  | 30 => 1
  | 31 => 1
  | 32 => 2
  | 33 => 1
  | 34 => 1
  | 35 => 3
  | 36 => 3
  | 37 => 4
  | 38 => 1
  | 39 => 4
  | 40 => 4
  | 41 => 3
  | 42 => 3
  | 43 => 4
  | 44 => 1
  | 45 => 2
  | 46 => 3
  | 47 => 4
  | 48 => 4
  | 49 => 3
  | 50 => 2
  | 51 => 5
  | 52 => 4
  | 53 => 8
  | 54 => 2
  | 55 => 1
  | 56 => 1
  | 57 => 1
  | 58 => 4
  | 59 => 1
  | 60 => 1
  | 61 => 2
  | 62 => 2
  | 63 => 4
  | 64 => 2
  | 65 => 4
  | 66 => 4
  | 67 => 2
  | 68 => 4
  | 69 => 2
  | 70 => 4
  | 71 => 3
  | 72 => 6
  | 73 => 8
  | 74 => 20
  | 75 => 1
  | 76 => 3
  | 77 => 4
  | 78 => 5
  | _ => 0
def zRt : Nat → Option FieldType := fun y => match y with
  | 0 => none
  | 1 => (some .int)
  | 2 => (some .boolean)
  | 3 => none
  | 4 => none
  | 5 => none
  | 6 => (some .int)
  | 7 => none
  | 8 => (some .int)
  | 9 => none
  | 10 => none
  | 11 => none
  | 12 => none
  | 13 => none
  | 14 => none
  | 15 => none
  | 16 => (some .int)
  | 17 => (some .int)
  | 18 => (some .int)
  | 19 => (some .int)
  | 20 => (some .boolean)
  | 21 => (some .int)
  | 22 => (some .int)
  | 23 => (some .int)
  | 24 => (some .int)
  | 25 => (some .int)
  | 26 => (some .int)
  | 27 => (some .int)
  | 28 => (some .int)
  | 29 => (some .int)
  | 30 => (some .int)
  | 31 => (some .int)
  | 32 => (some .int)
  | 33 => (some .int)
  | 34 => (some .int)
  | 35 => (some .int)
  | 36 => (some .int)
  | 37 => (some .int)
  | 38 => (some .boolean)
  | 39 => (some .boolean)
  | 40 => (some (.object "Spritehall$Actor"))
  | 41 => (some (.object "Spritehall$Actor"))
  | 42 => (some .int)
  | 43 => (some .int)
  | 44 => (some .boolean)
  | 45 => (some (.object "Spritehall$Actor"))
  | 46 => none
  | 47 => (some .boolean)
  | 48 => none
  | 49 => none
  | 50 => none
  | 51 => (some .boolean)
  | 52 => none
  | 53 => (some .int)
  | 54 => (some .boolean)
  | 55 => none
  | 56 => none
  | 57 => none
  | 58 => (some (.array (.object "java/lang/Object")))
  | 59 => (some (.array (.object "java/lang/Object")))
  | 60 => (some .int)
  | 61 => (some (.object "java/lang/Object"))
  | 62 => (some (.object "java/lang/Object"))
  | 63 => none
  | 64 => (some .boolean)
  | 65 => (some (.object "java/lang/Object"))
  | 66 => none
  | 67 => (some (.array (.object "java/lang/Object")))
  | 68 => (some (.array (.object "java/lang/Object")))
  | 69 => (some .int)
  | 70 => (some .int)
  | 71 => (some .int)
  | 72 => (some .int)
  | 73 => (some .int)
  | 74 => (some .boolean)
  | 75 => (some .boolean)
  | 76 => (some .boolean)
  | 77 => (some .boolean)
  | 78 => some .boolean
  | _ => none
def zTb : Nat → List (Nat × Nat × Nat × Nat) := fun y => match y with
  | 0 => []
  | 1 => []
  | 2 => []
  | 3 => []
  | 4 => []
  | 5 => []
  | 6 => []
  | 7 => []
  | 8 => []
  | 9 => []
  | 10 => []
  | 11 => []
  | 12 => []
  | 13 => []
  | 14 => []
  | 15 => []
  | 16 => []
  | 17 => []
  | 18 => []
  | 19 => []
  | 20 => []
  | 21 => []
  | 22 => []
  | 23 => []
  | 24 => []
  | 25 => []
  | 26 => []
  | 27 => []
  | 28 => []
  | 29 => []
  | 30 => []
  | 31 => []
  | 32 => []
  | 33 => []
  | 34 => []
  | 35 => []
  | 36 => []
  | 37 => []
  | 38 => []
  | 39 => []
  | 40 => []
  | 41 => []
  | 42 => []
  | 43 => []
  | 44 => []
  | 45 => []
  | 46 => []
  | 47 => []
  | 48 => []
  | 49 => []
  | 50 => []
  | 51 => []
  | 52 => []
  | 53 => []
  | 54 => []
  | 55 => []
  | 56 => []
  | 57 => []
  | 58 => []
  | 59 => []
  | 60 => []
  | 61 => []
  | 62 => []
  | 63 => []
  | 64 => []
  | 65 => []
  | 66 => []
  | 67 => []
  | 68 => []
  | 69 => []
  | 70 => []
  | 71 => []
  | 72 => [(0, 157, 158, 48), (0, 157, 163, 50), (0, 157, 168, 52)]
  | 73 => [(0, 31, 32, 48), (0, 31, 37, 50), (0, 31, 42, 52)]
  | 74 => []
  | 75 => []
  | 76 => []
  | 77 => []
  | 78 => []
  | _ => []
def zHd : Nat → List (Nat × Nat × Nat × Nat) := fun y => match y with
  | 0 => []
  | 1 => []
  | 2 => []
  | 3 => []
  | 4 => []
  | 5 => []
  | 6 => []
  | 7 => []
  | 8 => []
  | 9 => []
  | 10 => []
  | 11 => []
  | 12 => []
  | 13 => []
  | 14 => []
  | 15 => []
  | 16 => []
  | 17 => []
  | 18 => []
  | 19 => []
  | 20 => []
  | 21 => []
  | 22 => []
  | 23 => []
  | 24 => []
  | 25 => []
  | 26 => []
  | 27 => []
  | 28 => []
  | 29 => []
  | 30 => []
  | 31 => []
  | 32 => []
  | 33 => []
  | 34 => []
  | 35 => []
  | 36 => []
  | 37 => []
  | 38 => []
  | 39 => []
  | 40 => []
  | 41 => []
  | 42 => []
  | 43 => []
  | 44 => []
  | 45 => []
  | 46 => []
  | 47 => []
  | 48 => []
  | 49 => []
  | 50 => []
  | 51 => []
  | 52 => []
  | 53 => []
  | 54 => []
  | 55 => []
  | 56 => []
  | 57 => []
  | 58 => []
  | 59 => []
  | 60 => []
  | 61 => []
  | 62 => []
  | 63 => []
  | 64 => []
  | 65 => []
  | 66 => []
  | 67 => []
  | 68 => []
  | 69 => []
  | 70 => []
  | 71 => []
  | 72 => [(0, 157, 158, 0), (0, 157, 163, 1), (0, 157, 168, 2)]
  | 73 => [(0, 31, 32, 0), (0, 31, 37, 1), (0, 31, 42, 2)]
  | 74 => []
  | 75 => []
  | 76 => []
  | 77 => []
  | 78 => []
  | _ => []
def zIn : Nat → Bool := fun y => match y with
  | 0 => true
  | 1 => false
  | 2 => false
  | 3 => false
  | 4 => true
  | 5 => true
  | 6 => false
  | 7 => false
  | 8 => false
  | 9 => false
  | 10 => false
  | 11 => false
  | 12 => false
  | 13 => true
  | 14 => true
  | 15 => true
  | 16 => false
  | 17 => false
  | 18 => false
  | 19 => false
  | 20 => false
  | 21 => false
  | 22 => false
  | 23 => false
  | 24 => false
  | 25 => false
  | 26 => false
  | 27 => false
  | 28 => false
  | 29 => false
  | 30 => false
  | 31 => false
  | 32 => false
  | 33 => false
  | 34 => false
  | 35 => false
  | 36 => false
  | 37 => false
  | 38 => false
  | 39 => false
  | 40 => false
  | 41 => false
  | 42 => false
  | 43 => false
  | 44 => false
  | 45 => false
  | 46 => false
  | 47 => false
  | 48 => false
  | 49 => false
  | 50 => false
  | 51 => false
  | 52 => false
  | 53 => false
  | 54 => false
  | 55 => true
  | 56 => true
  | 57 => true
  | 58 => false
  | 59 => false
  | 60 => false
  | 61 => false
  | 62 => false
  | 63 => false
  | 64 => false
  | 65 => false
  | 66 => false
  | 67 => false
  | 68 => false
  | 69 => false
  | 70 => false
  | 71 => false
  | 72 => false
  | 73 => false
  | 74 => false
  | 75 => false
  | 76 => false
  | 77 => false
  | 78 => false
  | _ => false
def zFr : Nat → Nat := fun y => match y with
  | 0 => 4
  | 1 => 3
  | 2 => 3
  | 3 => 1
  | 4 => 1
  | 5 => 1
  | 6 => 0
  | 7 => 1
  | 8 => 0
  | 9 => 2
  | 10 => 1
  | 11 => 0
  | 12 => 0
  | 13 => 1
  | 14 => 1
  | 15 => 4
  | 16 => 8
  | 17 => 7
  | 18 => 7
  | 19 => 7
  | 20 => 4
  | 21 => 4
  | 22 => 7
  | 23 => 7
  | 24 => 7
  | 25 => 7
  | 26 => 7
  | 27 => 7
  | 28 => 9
  | 29 => 0
  | 30 => 1
  | 31 => 1
  | 32 => 6
  | 33 => 4
  | 34 => 4
  | 35 => 6
  | 36 => 7
  | 37 => 4
  | 38 => 0
  | 39 => 1
  | 40 => 3
  | 41 => 6
  | 42 => 3
  | 43 => 3
  | 44 => 4
  | 45 => 7
  | 46 => 5
  | 47 => 4
  | 48 => 8
  | 49 => 3
  | 50 => 6
  | 51 => 3
  | 52 => 3
  | 53 => 3
  | 54 => 0
  | 55 => 1
  | 56 => 2
  | 57 => 3
  | 58 => 3
  | 59 => 4
  | 60 => 0
  | 61 => 0
  | 62 => 2
  | 63 => 5
  | 64 => 6
  | 65 => 2
  | 66 => 1
  | 67 => 2
  | 68 => 1
  | 69 => 1
  | 70 => 1
  | 71 => 0
  | 72 => 10
  | 73 => 9
  | 74 => 11
  | 75 => 12
  | 76 => 12
  | 77 => 12
  | 78 => 13
  | _ => 0
def zLo : Nat → Nat := fun y => match y with
  | 0 => 81
  | 1 => 64
  | 2 => 64
  | 3 => 20
  | 4 => 21
  | 5 => 21
  | 6 => 0
  | 7 => 23
  | 8 => 0
  | 9 => 42
  | 10 => 22
  | 11 => 0
  | 12 => 0
  | 13 => 21
  | 14 => 21
  | 15 => 81
  | 16 => 212
  | 17 => 133
  | 18 => 191
  | 19 => 133
  | 20 => 87
  | 21 => 86
  | 22 => 112
  | 23 => 112
  | 24 => 112
  | 25 => 112
  | 26 => 112
  | 27 => 191
  | 28 => 235
  | 29 => 0
  | 30 => 23
  | 31 => 22
  | 32 => 90
  | 33 => 87
  | 34 => 87
  | 35 => 90
  | 36 => 191
  | 37 => 91
  | 38 => 0
  | 39 => 20
  | 40 => 64
  | 41 => 90
  | 42 => 64
  | 43 => 64
  | 44 => 86
  | 45 => 191
  | 46 => 111
  | 47 => 88
  | 48 => 212
  | 49 => 64
  | 50 => 133
  | 51 => 64
  | 52 => 64
  | 53 => 64
  | 54 => 0
  | 55 => 21
  | 56 => 41
  | 57 => 61
  | 58 => 104
  | 59 => 127
  | 60 => 0
  | 61 => 0
  | 62 => 43
  | 63 => 147
  | 64 => 170
  | 65 => 83
  | 66 => 60
  | 67 => 83
  | 68 => 60
  | 69 => 22
  | 70 => 21
  | 71 => 0
  | 72 => 256
  | 73 => 239
  | 74 => 281
  | 75 => 320
  | 76 => 320
  | 77 => 320
  | 78 => 343
  | _ => 0
def zCw : Nat → Nat := fun y => match y with
  | 0 => 267
  | 1 => 602
  | 2 => 411
  | 3 => 441
  | 4 => 388
  | 5 => 83
  | 6 => 322
  | 7 => 318
  | 8 => 326
  | 9 => 458
  | 10 => 462
  | 11 => 470
  | 12 => 466
  | 13 => 621
  | 14 => 527
  | 15 => 49
  | 16 => 121
  | 17 => 556
  | 18 => 561
  | 19 => 568
  | 20 => 418
  | 21 => 422
  | 22 => 582
  | 23 => 586
  | 24 => 590
  | 25 => 594
  | 26 => 598
  | 27 => 521
  | 28 => 426
  | 29 => 475
  | 30 => 638
  | 31 => 494
  | 32 => 606
  | 33 => 479
  | 34 => 487
  | 35 => 611
  | 36 => 616
  | 37 => 498
  | 38 => 222
  | 39 => 219
  | 40 => 129
  | 41 => 125
  | 42 => 246
  | 43 => 483
  | 44 => 242
  | 45 => 314
  | 46 => 403
  | 47 => 407
  | 48 => 432
  | 49 => 437
  | 50 => 446
  | 51 => 450
  | 52 => 454
  | 53 => 502
  | 54 => 510
  | 55 => 63
  | 56 => 60
  | 57 => 57
  | 58 => 342
  | 59 => 338
  | 60 => 133
  | 61 => 147
  | 62 => 137
  | 63 => 334
  | 64 => 330
  | 65 => 573
  | 66 => 577
  | 67 => 355
  | 68 => 372
  | 69 => 140
  | 70 => 345
  | 71 => 143
  | 72 => 552
  | 73 => 514
  | 74 => 490
  | 75 => 634
  | 76 => 642
  | 77 => 645
  | 78 => 0
  | _ => 0
def zHl : Nat → List Nat := fun y => match y with
  | 0 => []
  | 1 => []
  | 2 => []
  | 3 => []
  | 4 => []
  | 5 => []
  | 6 => []
  | 7 => []
  | 8 => []
  | 9 => []
  | 10 => []
  | 11 => []
  | 12 => []
  | 13 => []
  | 14 => []
  | 15 => []
  | 16 => []
  | 17 => []
  | 18 => []
  | 19 => []
  | 20 => []
  | 21 => []
  | 22 => []
  | 23 => []
  | 24 => []
  | 25 => []
  | 26 => []
  | 27 => []
  | 28 => []
  | 29 => []
  | 30 => []
  | 31 => []
  | 32 => []
  | 33 => []
  | 34 => []
  | 35 => []
  | 36 => []
  | 37 => []
  | 38 => []
  | 39 => []
  | 40 => []
  | 41 => []
  | 42 => []
  | 43 => []
  | 44 => []
  | 45 => []
  | 46 => []
  | 47 => []
  | 48 => []
  | 49 => []
  | 50 => []
  | 51 => []
  | 52 => []
  | 53 => []
  | 54 => []
  | 55 => []
  | 56 => []
  | 57 => []
  | 58 => []
  | 59 => []
  | 60 => []
  | 61 => []
  | 62 => []
  | 63 => []
  | 64 => []
  | 65 => []
  | 66 => []
  | 67 => []
  | 68 => []
  | 69 => []
  | 70 => []
  | 71 => []
  | 72 => [515, 516, 517]
  | 73 => [515, 516, 517]
  | 74 => []
  | 75 => []
  | 76 => []
  | 77 => []
  | 78 => []
  | _ => []
abbrev mAc_init : Nat := 0
abbrev mAc_countedLinksTo : Nat := 1
abbrev mAc_holdOthers : Nat := 2
abbrev mAc_move : Nat := 3
abbrev mLi_init : Nat := 4
abbrev mSl_init : Nat := 5
abbrev mSl_countFree : Nat := 6
abbrev mSl_settle : Nat := 7
abbrev mSl_sweepAll : Nat := 8
abbrev mSl_goOn : Nat := 9
abbrev mSl_takeStep : Nat := 10
abbrev mSl_mark : Nat := 11
abbrev mSl_lookAt : Nat := 12
abbrev mSo_init : Nat := 13
abbrev mWa_init : Nat := 14
abbrev mH_init : Nat := 15
abbrev mH_spawn : Nat := 16
abbrev mH_unroot : Nat := 17
abbrev mH_tie : Nat := 18
abbrev mH_untie : Nat := 19
abbrev mH_isHeld : Nat := 20
abbrev mH_held : Nat := 21
abbrev mH_number : Nat := 22
abbrev mH_cell : Nat := 23
abbrev mH_lives : Nat := 24
abbrev mH_linkAt : Nat := 25
abbrev mH_count : Nat := 26
abbrev mH_wave : Nat := 27
abbrev mH_frame : Nat := 28
abbrev mH_frames : Nat := 29
abbrev mH_sweep : Nat := 30
abbrev mH_free : Nat := 31
abbrev mH_age : Nat := 32
abbrev mH_sum : Nat := 33
abbrev mH_sumByReplay : Nat := 34
abbrev mH_listen : Nat := 35
abbrev mH_sound : Nat := 36
abbrev mH_heard : Nat := 37
abbrev mH_isCell : Nat := 38
abbrev mH_areTraits : Nat := 39
abbrev mH_findHeld : Nat := 40
abbrev mH_heldActor : Nat := 41
abbrev mH_countHeld : Nat := 42
abbrev mH_sumOfHeld : Nat := 43
abbrev mH_hasRoomForOne : Nat := 44
abbrev mH_enter : Nat := 45
abbrev mH_noteHeld : Nat := 46
abbrev mH_holdLinked : Nat := 47
abbrev mH_runWaves : Nat := 48
abbrev mH_moveHeld : Nat := 49
abbrev mH_hitInCells : Nat := 50
abbrev mH_isHeldIn : Nat := 51
abbrev mH_hitAllIn : Nat := 52
abbrev mH_nearestSound : Nat := 53
abbrev mH_canBeHeard : Nat := 54
abbrev mJC_init_da8c8 : Nat := 55
abbrev mJL_init_da8c8 : Nat := 56
abbrev mAL_init_da8c8 : Nat := 57
abbrev mAL_grow_92f84 : Nat := 58
abbrev mAL_grow_d5877 : Nat := 59
abbrev mAL_size_8abf5 : Nat := 60
abbrev mAL_elementData_915e3 : Nat := 61
abbrev mAL_get_915e3 : Nat := 62
abbrev mAL_add_72be8 : Nat := 63
abbrev mAL_add_9ea2d : Nat := 64
abbrev mAL_remove_915e3 : Nat := 65
abbrev mAL_fastRemove_b59b0 : Nat := 66
abbrev mJ7_copyOf_1904c : Nat := 67
abbrev mJ7_copyOf_6403c : Nat := 68
abbrev mJ15_checkIndex_7cf53 : Nat := 69
abbrev mJ8_newLength_cabcc : Nat := 70
abbrev mJ3_checkIndex_8e157 : Nat := 71
abbrev mL_act : Nat := 72
abbrev mL_come : Nat := 73
abbrev mL_refuses : Nat := 74
abbrev mL_links : Nat := 75
abbrev mL_frames : Nat := 76
abbrev mL_crowds : Nat := 77
abbrev mL_law : Nat := 78
end
section
/-! ===== WHAT THE DATA CLAIM OF THE BYTES AND THE TABLES, decided by the kernel ===== -/
/-- the good words of the law's tables: every method here is proved over these -/
def zBig : List Cond := lw_tbl.filter goodWord
def zhas (i : Nat) (w : Cond) : Bool := decide (lw_tbl[i]? = some w) && goodWord w
theorem zhas_in {i : Nat} {w : Cond} (h : zhas i w = true) : w ∈ zBig := by
  simp only [zhas, Bool.and_eq_true, decide_eq_true_eq] at h
  exact List.mem_filter.mpr ⟨List.mem_of_getElem? h.1, h.2⟩
def zmem (i : Nat) (w : Cond) : Bool := decide (lw_tbl[i]? = some w)
theorem zmem_in {i : Nat} {w : Cond} (h : zmem i w = true) : w ∈ lw_tbl := List.mem_of_getElem? (of_decide_eq_true h)
def zTC (x : Nat) : u_T := match x with
  | 0 => TJx4a65c | 1 => TX0 | 2 => TX1 | 3 => TX2 | 4 => TX3 | 5 => TX4 | 6 => TX5 | _ => TX6
def zRC (x : Nat) : String := match x with
  | 0 => RJx4a65c | 1 => RX0 | 2 => RX1 | 3 => RX2 | 4 => RX3 | 5 => RX4 | 6 => RX5 | _ => RX6
def zNf (x : Nat) : Nat := match x with
  | 0 => 3 | 1 => 10 | 2 => 2 | 3 => 3 | 4 => 2 | 5 => 5 | 6 => 6 | _ => 6
def zty (x k : Nat) : FieldType := match x with
  | 0 => tyJx4a65c k | 1 => tyX0 k | 2 => tyX1 k | 3 => tyX2 k | 4 => tyX3 k | 5 => tyX4 k | 6 => tyX5 k | _ => tyX6 k
def zref (t : FieldType) : Bool := match t with
  | .object _ => true
  | .array _ => true
  | _ => false
def zEx (e : Nat) : String := match e with
  | 0 => "java/lang/IndexOutOfBoundsException" | 1 => "java/lang/IllegalArgumentException" | _ => "java/lang/IllegalStateException"
def zgi (l : List Nat) (i : Nat) : Nat := l.getD i 0
/-- the check of one instruction of the method y -/
def zok (y : Nat) (o : zOp) : Bool :=
  let pc := o.1
  let n := o.2.2.1
  let x := o.2.2.2.1
  let v := o.2.2.2.2.1
  let z := o.2.2.2.2.2.1
  let ws := o.2.2.2.2.2.2
  decide (decode (zB y) pc = .ok (o.2.1, n - pc)) && (decide (pc < n) &&
  match o.2.1 with
  | .iconst i => decide (Int32.ofInt i = zcst z x) && decide (n = pc + 1)
  | .bipush i => decide ((Int8.ofInt i).toInt32 = zcst z x) && decide (n = pc + 2)
  | .sipush i => decide ((Int16.ofInt i).toInt32 = zcst z x) && decide (n = pc + 3)
  | .ldc i => decide (n = pc + 2) && (if z = 5 then zhas (zgi ws 0) (.classLink (zOwn y) i "[Ljava/lang/Object;") else zhas (zgi ws 0) (.constant (zOwn y) i (nI x)))
  | .iload_n k => decide ((k : Nat) = x) && decide (n = pc + 1)
  | .iload k => decide (k = x) && decide (n = pc + 2)
  | .aload_n k => decide ((k : Nat) = x) && decide (n = pc + 1)
  | .aload k => decide (k = x) && decide (n = pc + 2)
  | .istore_n k => decide ((k : Nat) = x) && decide (n = pc + 1)
  | .istore k => decide (k = x) && decide (n = pc + 2)
  | .astore_n k => decide ((k : Nat) = x) && decide (n = pc + 1)
  | .astore k => decide (k = x) && decide (n = pc + 2)
  | .iinc k i => decide (k = x) && decide (Int32.ofInt i = zcst z v) && decide (n = pc + 3)
  | .goto off => decide ((pc : Int) + off = (x : Int)) && decide (n = pc + 3)
  | .ifCond _ off => decide ((pc : Int) + off = (x : Int)) && decide (n = pc + 3)
  | .if_icmp _ off => decide ((pc : Int) + off = (x : Int)) && decide (n = pc + 3)
  | .if_acmp _ off => decide ((pc : Int) + off = (x : Int)) && decide (n = pc + 3)
  | .ifnull off => decide ((pc : Int) + off = (x : Int)) && decide (n = pc + 3)
  | .ifnonnull off => decide ((pc : Int) + off = (x : Int)) && decide (n = pc + 3)
  | .getfield i => decide (n = pc + 3) && (decide (x < 8) && (decide (v < zNf x) && (decide (z = if zref (zty x v) then 1 else 0) &&
      (zhas (zgi ws 0) (.fieldLink (zOwn y) i (zTC x v).1 (zTC x v).2.1 (zTC x v).2.2.1) ||
       (zhas (zgi ws 0) (.fieldLink (zOwn y) i RJx4a65c (zTC x v).2.1 (zTC x v).2.2.1) && zhas (zgi ws 1) (.sameField RJx4a65c (zTC x v).1 (zTC x v).2.1 (zTC x v).2.2.1))))))
  | .putfield i => decide (n = pc + 3) && (decide (x < 8) && (decide (v < zNf x) && ((if zref (zty x v) then decide (z = 1) else if zty x v = .boolean then decide (z = 2) else decide (z = 0) && decide (zty x v = .int)) &&
      ((if (zTC x v).2.2.2 then zIn y && decide ((zTC x v).1 = zOwn y) else true) &&
      (zhas (zgi ws 0) (.fieldLink (zOwn y) i (zTC x v).1 (zTC x v).2.1 (zTC x v).2.2.1) ||
       (zhas (zgi ws 0) (.fieldLink (zOwn y) i RJx4a65c (zTC x v).2.1 (zTC x v).2.2.1) && zhas (zgi ws 1) (.sameField RJx4a65c (zTC x v).1 (zTC x v).2.1 (zTC x v).2.2.1)))))))
  | .getstatic i => decide (n = pc + 3) && zhas (zgi ws 0) (.fieldLink (zOwn y) i RJx4a65c "DEFAULTCAPACITY_EMPTY_ELEMENTDATA" "[Ljava/lang/Object;")
  | .new i => decide (n = pc + 3) && (if z = 9 then
        decide (decode (zB y) (pc + 3) = .ok (.dup, 1)) && (decide (decode (zB y) (pc + 4) = .ok (.ldc v, 2)) && (decide (decode (zB y) (pc + 6) = .ok (.invokespecial (zgi ws 0), 3)) && (decide (decode (zB y) (pc + 9) = .ok (.athrow, 1)) &&
        (zhas (zgi ws 1) (.classLink (zOwn y) i (zEx x)) && (zhas (zgi ws 2) (.initialized (zEx x)) &&
        (decide (zTb y = []) && decide (6 ≤ zFr y) && decide (90 ≤ zLo y)))))))
      else decide (x < 8) && (decide (v = zNf x) && (zhas (zgi ws 0) (.classLink (zOwn y) i (zRC x)) && (zhas (zgi ws 1) (.instantiable (zRC x) (zNf x)) && zhas (zgi ws 2) (.initialized (zRC x))))))
  | .newarray t => decide (n = pc + 2) && (decide (x = 9) && decide (t = .int) && zhas (zgi ws 0) (.arrayClass .int))
  | .anewarray i => decide (n = pc + 3) && ((decide (x = 11) && zhas (zgi ws 0) (.classLink (zOwn y) i RX0) && zmem (zgi ws 1) (.arrayOver (.object RX0))) || (decide (x = 12) && zhas (zgi ws 0) (.classLink (zOwn y) i "java/lang/Object") && zmem (zgi ws 1) (.arrayOver (.object "java/lang/Object"))))
  | .checkcast i => decide (n = pc + 3) && (decide (x < 8) && zhas (zgi ws 0) (.classLink (zOwn y) i (zRC x)))
  | .tableswitch d lo hi offs => decide ((pc : Int) + d = (x : Int)) && (decide (lo = 0) && (decide (hi + 1 = (ws.length : Int)) && (decide (offs.size = ws.length) && (List.range ws.length).all (fun i => decide ((pc : Int) + offs.getD i 0 = ((ws.getD i 0 : Nat) : Int))))))
  | .invokevirtual i => decide (n = pc + 3) && (if z = 100 then
        decide (zgi ws 0 < 8) && (decide (zRC (zgi ws 0) = (zNm x).cls) && (zhas (zgi ws 1) (.methodLink (zOwn y) i (zNm x)) && (zhas (zgi ws 2) (.instanceMethod (zNm x)) && (zhas (zgi ws 3) (.selects (zRC (zgi ws 0)) (zNm x) (zNm x)) && (zhas (zgi ws 4) (.code (zNm x) (zB x) (zX x) (zRt x)) && (zhas (zgi ws 5) (.initialized (zNm x).cls) &&
        (decide (zTb x = []) && (decide ((zNm x).cls ≠ "java/lang/invoke/MethodHandle" ∧ (zNm x).cls ≠ "java/lang/invoke/VarHandle") && (decide ((parseMethodDescriptor (zNm x).desc).map (fun d => d.parameters.length) = some (v - 1)) && (decide (1 ≤ v) && (decide (v ≤ zX x) && (decide (zFr x + 1 ≤ zFr y) && decide (8 + (zX x + 11) + zLo x ≤ zLo y)))))))))))))
      else if z = 215 then zhas (zgi ws 0) (.methodLink (zOwn y) i ⟨"java/lang/Object", "getClass", "()Ljava/lang/Class;"⟩) && (zhas (zgi ws 1) (.selects "[Ljava/lang/Object;" ⟨"java/lang/Object", "getClass", "()Ljava/lang/Class;"⟩ ⟨"java/lang/Object", "getClass", "()Ljava/lang/Class;"⟩) && (zhas (zgi ws 2) (.instanceMethod ⟨"java/lang/Object", "getClass", "()Ljava/lang/Class;"⟩) && (zhas (zgi ws 3) (.native ⟨"java/lang/Object", "getClass", "()Ljava/lang/Class;"⟩) && (decide (1 ≤ zFr y) && decide (60 ≤ zLo y)))))
      else false)
  | .invokespecial i => decide (n = pc + 3) && (if z = 101 then
        zhas (zgi ws 1) (.methodLink (zOwn y) i (zNm x)) && (zhas (zgi ws 2) (.instanceMethod (zNm x)) && (zhas (zgi ws 4) (.code (zNm x) (zB x) (zX x) (zRt x)) && (zhas (zgi ws 5) (.initialized (zNm x).cls) &&
        (decide (zTb x = []) && (decide ((zNm x).name = "<init>") && (decide (zRt x = none) && (decide ((zNm x).cls ≠ "java/lang/invoke/MethodHandle" ∧ (zNm x).cls ≠ "java/lang/invoke/VarHandle") && (decide ((parseMethodDescriptor (zNm x).desc).map (fun d => d.parameters.length) = some (v - 1)) && (decide (1 ≤ v) && (decide (v ≤ zX x) && (decide (zFr x + 1 ≤ zFr y) && decide (8 + (zX x + 11) + zLo x ≤ zLo y))))))))))))
      else if z = 210 then zhas (zgi ws 0) (.methodLink (zOwn y) i objectInit) && (zhas (zgi ws 1) (.instanceMethod objectInit) && (zhas (zgi ws 2) (.code objectInit ⟨#[0xb1]⟩ 1 none) && (decide (1 ≤ zFr y) && decide (21 ≤ zLo y))))
      else false)
  | .invokestatic i => decide (n = pc + 3) && (if z = 102 ∨ z = 103 ∨ z = 104 then
        (if z = 103 then zmem (zgi ws 1) (.methodLinkNest (zOwn y) i (zNm x) RX5) else zhas (zgi ws 1) (.methodLink (zOwn y) i (zNm x))) && (zhas (zgi ws 2) (.static (zNm x)) && ((if z = 104 then zhas (zgi ws 4) (.codeWith (zNm x) (zB x) (zX x) (zRt x) (zTb x)) && decide (zTb x ≠ []) else zhas (zgi ws 4) (.code (zNm x) (zB x) (zX x) (zRt x)) && decide (zTb x = [])) && (zhas (zgi ws 5) (.initialized (zNm x).cls) &&
        (decide ((zNm x).cls ≠ "java/lang/invoke/MethodHandle" ∧ (zNm x).cls ≠ "java/lang/invoke/VarHandle") && (decide ((parseMethodDescriptor (zNm x).desc).map (fun d => d.parameters.length) = some v) && (decide (v ≤ zX x) && (decide (zFr x + 1 ≤ zFr y) && decide (8 + (zX x + 11) + zLo x ≤ zLo y))))))))
      else if z = 211 then zhas (zgi ws 0) (.methodLink (zOwn y) i Lib.Math.max.name) && (zhas (zgi ws 1) (.static Lib.Math.max.name) && (zhas (zgi ws 2) (.initialized "java/lang/Math") && (zhas (zgi ws 3) (.code Lib.Math.max.name Lib.Math.max.code 2 (some .int)) && (decide (1 ≤ zFr y) && decide (21 ≤ zLo y)))))
      else if z = 212 then zhas (zgi ws 0) (.methodLink (zOwn y) i Lib.Math.min.name) && (zhas (zgi ws 1) (.static Lib.Math.min.name) && (zhas (zgi ws 2) (.initialized "java/lang/Math") && (zhas (zgi ws 3) (.code Lib.Math.min.name Lib.Math.min.code 2 (some .int)) && (decide (1 ≤ zFr y) && decide (21 ≤ zLo y)))))
      else if z = 213 then zhas (zgi ws 0) (.methodLink (zOwn y) i Lib.Math.abs.name) && (zhas (zgi ws 1) (.static Lib.Math.abs.name) && (zhas (zgi ws 2) (.initialized "java/lang/Math") && (zhas (zgi ws 3) (.code Lib.Math.abs.name Lib.Math.abs.code 1 (some .int)) && (decide (1 ≤ zFr y) && decide (21 ≤ zLo y)))))
      else if z = 214 then zhas (zgi ws 0) (.methodLink (zOwn y) i arraycopyName) && (zhas (zgi ws 1) (.native arraycopyName) && (zhas (zgi ws 2) (.static arraycopyName) && (zhas (zgi ws 3) (.initialized "java/lang/System") && (decide (1 ≤ zFr y) && decide (60 ≤ zLo y)))))
      else false)
  | .ireturn => decide (n = pc + 1) && (if z = 2 then decide (zRt y = some .boolean) else decide (zRt y = some .int))
  | .areturn => decide (n = pc + 1) && (match zRt y with | some t => zref t | none => false)
  | .return_ => decide (n = pc + 1) && decide (zRt y = none)
  | _ => decide (n = pc + 1))
end
section
theorem zk_0 : zb0.all (zok 0) = true := by decide +kernel
theorem zk_1 : zb1.all (zok 1) = true := by decide +kernel
theorem zk_2 : zb2.all (zok 2) = true := by decide +kernel
theorem zk_3 : zb3.all (zok 3) = true := by decide +kernel
theorem zk_4 : zb4.all (zok 4) = true := by decide +kernel
theorem zk_5 : zb5.all (zok 5) = true := by decide +kernel
theorem zk_6 : zb6.all (zok 6) = true := by decide +kernel
theorem zk_7 : zb7.all (zok 7) = true := by decide +kernel
theorem zk_8 : zb8.all (zok 8) = true := by decide +kernel
theorem zk_9 : zb9.all (zok 9) = true := by decide +kernel
theorem zk_10 : zb10.all (zok 10) = true := by decide +kernel
theorem zk_11 : zb11.all (zok 11) = true := by decide +kernel
theorem zk_12 : zb12.all (zok 12) = true := by decide +kernel
theorem zk_13 : zb13.all (zok 13) = true := by decide +kernel
theorem zk_14 : zb14.all (zok 14) = true := by decide +kernel
theorem zk_15 : zb15.all (zok 15) = true := by decide +kernel
theorem zk_16_0 : zb16_0.all (zok 16) = true := by decide +kernel
theorem zk_16_1 : zb16_1.all (zok 16) = true := by decide +kernel
theorem zk_17 : zb17.all (zok 17) = true := by decide +kernel
theorem zk_18 : zb18.all (zok 18) = true := by decide +kernel
theorem zk_19 : zb19.all (zok 19) = true := by decide +kernel
theorem zk_20 : zb20.all (zok 20) = true := by decide +kernel
theorem zk_21 : zb21.all (zok 21) = true := by decide +kernel
theorem zk_22 : zb22.all (zok 22) = true := by decide +kernel
theorem zk_23 : zb23.all (zok 23) = true := by decide +kernel
theorem zk_24 : zb24.all (zok 24) = true := by decide +kernel
theorem zk_25 : zb25.all (zok 25) = true := by decide +kernel
theorem zk_26 : zb26.all (zok 26) = true := by decide +kernel
theorem zk_27 : zb27.all (zok 27) = true := by decide +kernel
theorem zk_28 : zb28.all (zok 28) = true := by decide +kernel
theorem zk_29 : zb29.all (zok 29) = true := by decide +kernel
theorem zk_30 : zb30.all (zok 30) = true := by decide +kernel
theorem zk_31 : zb31.all (zok 31) = true := by decide +kernel
theorem zk_32 : zb32.all (zok 32) = true := by decide +kernel
theorem zk_33 : zb33.all (zok 33) = true := by decide +kernel
theorem zk_34 : zb34.all (zok 34) = true := by decide +kernel
theorem zk_35 : zb35.all (zok 35) = true := by decide +kernel
theorem zk_36 : zb36.all (zok 36) = true := by decide +kernel
theorem zk_37 : zb37.all (zok 37) = true := by decide +kernel
theorem zk_38 : zb38.all (zok 38) = true := by decide +kernel
theorem zk_39 : zb39.all (zok 39) = true := by decide +kernel
end
section
theorem zk_40 : zb40.all (zok 40) = true := by decide +kernel
theorem zk_41 : zb41.all (zok 41) = true := by decide +kernel
theorem zk_42 : zb42.all (zok 42) = true := by decide +kernel
theorem zk_43 : zb43.all (zok 43) = true := by decide +kernel
theorem zk_44 : zb44.all (zok 44) = true := by decide +kernel
theorem zk_45 : zb45.all (zok 45) = true := by decide +kernel
theorem zk_46 : zb46.all (zok 46) = true := by decide +kernel
theorem zk_47 : zb47.all (zok 47) = true := by decide +kernel
theorem zk_48_0 : zb48_0.all (zok 48) = true := by decide +kernel
theorem zk_48_1 : zb48_1.all (zok 48) = true := by decide +kernel
theorem zk_49 : zb49.all (zok 49) = true := by decide +kernel
theorem zk_50 : zb50.all (zok 50) = true := by decide +kernel
theorem zk_51 : zb51.all (zok 51) = true := by decide +kernel
theorem zk_52 : zb52.all (zok 52) = true := by decide +kernel
theorem zk_53_0 : zb53_0.all (zok 53) = true := by decide +kernel
theorem zk_53_1 : zb53_1.all (zok 53) = true := by decide +kernel
theorem zk_54 : zb54.all (zok 54) = true := by decide +kernel
theorem zk_55 : zb55.all (zok 55) = true := by decide +kernel
theorem zk_56 : zb56.all (zok 56) = true := by decide +kernel
theorem zk_57 : zb57.all (zok 57) = true := by decide +kernel
theorem zk_58 : zb58.all (zok 58) = true := by decide +kernel
theorem zk_59 : zb59.all (zok 59) = true := by decide +kernel
theorem zk_60 : zb60.all (zok 60) = true := by decide +kernel
theorem zk_61 : zb61.all (zok 61) = true := by decide +kernel
theorem zk_62 : zb62.all (zok 62) = true := by decide +kernel
theorem zk_63 : zb63.all (zok 63) = true := by decide +kernel
theorem zk_64 : zb64.all (zok 64) = true := by decide +kernel
theorem zk_65 : zb65.all (zok 65) = true := by decide +kernel
theorem zk_66 : zb66.all (zok 66) = true := by decide +kernel
theorem zk_67 : zb67.all (zok 67) = true := by decide +kernel
theorem zk_68 : zb68.all (zok 68) = true := by decide +kernel
theorem zk_69 : zb69.all (zok 69) = true := by decide +kernel
theorem zk_70 : zb70.all (zok 70) = true := by decide +kernel
theorem zk_71 : zb71.all (zok 71) = true := by decide +kernel
theorem zk_72_0 : zb72_0.all (zok 72) = true := by decide +kernel
theorem zk_72_1 : zb72_1.all (zok 72) = true := by decide +kernel
theorem zk_72_2 : zb72_2.all (zok 72) = true := by decide +kernel
theorem zk_73 : zb73.all (zok 73) = true := by decide +kernel
theorem zk_74_0 : zb74_0.all (zok 74) = true := by decide +kernel
end
section
theorem zk_74_1 : zb74_1.all (zok 74) = true := by decide +kernel
theorem zk_74_2 : zb74_2.all (zok 74) = true := by decide +kernel
theorem zk_74_3 : zb74_3.all (zok 74) = true := by decide +kernel
theorem zk_74_4 : zb74_4.all (zok 74) = true := by decide +kernel
theorem zk_74_5 : zb74_5.all (zok 74) = true := by decide +kernel
theorem zk_74_6 : zb74_6.all (zok 74) = true := by decide +kernel
theorem zk_74_7 : zb74_7.all (zok 74) = true := by decide +kernel
theorem zk_74_8 : zb74_8.all (zok 74) = true := by decide +kernel
theorem zk_75_0 : zb75_0.all (zok 75) = true := by decide +kernel
theorem zk_75_1 : zb75_1.all (zok 75) = true := by decide +kernel
theorem zk_75_2 : zb75_2.all (zok 75) = true := by decide +kernel
theorem zk_75_3 : zb75_3.all (zok 75) = true := by decide +kernel
theorem zk_75_4 : zb75_4.all (zok 75) = true := by decide +kernel
theorem zk_75_5 : zb75_5.all (zok 75) = true := by decide +kernel
theorem zk_75_6 : zb75_6.all (zok 75) = true := by decide +kernel
theorem zk_75_7 : zb75_7.all (zok 75) = true := by decide +kernel
theorem zk_76_0 : zb76_0.all (zok 76) = true := by decide +kernel
theorem zk_76_1 : zb76_1.all (zok 76) = true := by decide +kernel
end
section
theorem zk_76_2 : zb76_2.all (zok 76) = true := by decide +kernel
theorem zk_76_3 : zb76_3.all (zok 76) = true := by decide +kernel
theorem zk_76_4 : zb76_4.all (zok 76) = true := by decide +kernel
theorem zk_76_5 : zb76_5.all (zok 76) = true := by decide +kernel
theorem zk_76_6 : zb76_6.all (zok 76) = true := by decide +kernel
theorem zk_76_7 : zb76_7.all (zok 76) = true := by decide +kernel
theorem zk_76_8 : zb76_8.all (zok 76) = true := by decide +kernel
theorem zk_76_9 : zb76_9.all (zok 76) = true := by decide +kernel
theorem zk_77_0 : zb77_0.all (zok 77) = true := by decide +kernel
theorem zk_77_1 : zb77_1.all (zok 77) = true := by decide +kernel
theorem zk_77_2 : zb77_2.all (zok 77) = true := by decide +kernel
theorem zk_77_3 : zb77_3.all (zok 77) = true := by decide +kernel
theorem zk_77_4 : zb77_4.all (zok 77) = true := by decide +kernel
theorem zk_77_5 : zb77_5.all (zok 77) = true := by decide +kernel
theorem zk_77_6 : zb77_6.all (zok 77) = true := by decide +kernel
theorem zk_77_7 : zb77_7.all (zok 77) = true := by decide +kernel
theorem zk_77_8 : zb77_8.all (zok 77) = true := by decide +kernel
theorem zk_77_9 : zb77_9.all (zok 77) = true := by decide +kernel
end
section
theorem zk_77_10 : zb77_10.all (zok 77) = true := by decide +kernel
theorem zk_77_11 : zb77_11.all (zok 77) = true := by decide +kernel
theorem zk_78_0 : zb78_0.all (zok 78) = true := by decide +kernel
theorem zk_78_1 : zb78_1.all (zok 78) = true := by decide +kernel
theorem zk_78_2 : zb78_2.all (zok 78) = true := by decide +kernel
end
section
theorem zall_app {α : Type} {f : α → Bool} {a b : List α} (ha : a.all f = true) (hb : b.all f = true) : (a ++ b).all f = true := by rw [List.all_append, ha, hb]; rfl
/-- every instruction of every method is as the data say -/
theorem zall : ∀ y, (zbody y).all (zok y) = true := fun y => match y with
  | 0 => zk_0
  | 1 => zk_1
  | 2 => zk_2
  | 3 => zk_3
  | 4 => zk_4
  | 5 => zk_5
  | 6 => zk_6
  | 7 => zk_7
  | 8 => zk_8
  | 9 => zk_9
  | 10 => zk_10
  | 11 => zk_11
  | 12 => zk_12
  | 13 => zk_13
  | 14 => zk_14
  | 15 => zk_15
  | 16 => (zall_app zk_16_0 zk_16_1)
  | 17 => zk_17
  | 18 => zk_18
  | 19 => zk_19
  | 20 => zk_20
  | 21 => zk_21
  | 22 => zk_22
  | 23 => zk_23
  | 24 => zk_24
  | 25 => zk_25
  | 26 => zk_26
  | 27 => zk_27
  | 28 => zk_28
  | 29 => zk_29
  | 30 => zk_30
  | 31 => zk_31
  | 32 => zk_32
  | 33 => zk_33
  | 34 => zk_34
  | 35 => zk_35
  | 36 => zk_36
  | 37 => zk_37
  | 38 => zk_38
  | 39 => zk_39
  | 40 => zk_40
  | 41 => zk_41
  | 42 => zk_42
  | 43 => zk_43
  | 44 => zk_44
  | 45 => zk_45
  | 46 => zk_46
  | 47 => zk_47
  | 48 => (zall_app zk_48_0 zk_48_1)
  | 49 => zk_49
  | 50 => zk_50
  | 51 => zk_51
  | 52 => zk_52
  | 53 => (zall_app zk_53_0 zk_53_1)
  | 54 => zk_54
  | 55 => zk_55
  | 56 => zk_56
  | 57 => zk_57
  | 58 => zk_58
  | 59 => zk_59
  | 60 => zk_60
  | 61 => zk_61
  | 62 => zk_62
  | 63 => zk_63
  | 64 => zk_64
  | 65 => zk_65
  | 66 => zk_66
  | 67 => zk_67
  | 68 => zk_68
  | 69 => zk_69
  | 70 => zk_70
  | 71 => zk_71
  | 72 => (zall_app zk_72_0 (zall_app zk_72_1 zk_72_2))
  | 73 => zk_73
  | 74 => (zall_app zk_74_0 (zall_app zk_74_1 (zall_app zk_74_2 (zall_app zk_74_3 (zall_app zk_74_4 (zall_app zk_74_5 (zall_app zk_74_6 (zall_app zk_74_7 zk_74_8))))))))
  | 75 => (zall_app zk_75_0 (zall_app zk_75_1 (zall_app zk_75_2 (zall_app zk_75_3 (zall_app zk_75_4 (zall_app zk_75_5 (zall_app zk_75_6 zk_75_7)))))))
  | 76 => (zall_app zk_76_0 (zall_app zk_76_1 (zall_app zk_76_2 (zall_app zk_76_3 (zall_app zk_76_4 (zall_app zk_76_5 (zall_app zk_76_6 (zall_app zk_76_7 (zall_app zk_76_8 zk_76_9)))))))))
  | 77 => (zall_app zk_77_0 (zall_app zk_77_1 (zall_app zk_77_2 (zall_app zk_77_3 (zall_app zk_77_4 (zall_app zk_77_5 (zall_app zk_77_6 (zall_app zk_77_7 (zall_app zk_77_8 (zall_app zk_77_9 (zall_app zk_77_10 zk_77_11)))))))))))
  | 78 => (zall_app zk_78_0 (zall_app zk_78_1 zk_78_2))
  | _ + 79 => rfl
end
section
/-! ===== THE MACHINE KEEPS THE RUN: soundness of one step ===== -/
def zTys (T : Nat → ClassId) : List (ClassId × FieldType) := [(T 0, .int), (T 0, .int), (T 2, .object RX0), (T 3, .object "java/lang/Object")]
def zV (x k : Nat) (μ : zM) (a : Nat) : Value := if zref (zty x k) then va_rf (zR μ a k) else .int (zI μ a k)
def zfs (x : Nat) (μ : zM) (a : Nat) : List Value := (List.range (zNf x)).map (fun k => zV x k μ a)
def zE (T : Nat → ClassId) (μ : zM) (a : Nat) : va_E := match (zK μ a).1 with
  | 9 => .inl (T 0, (zK μ a).2, .inl (zI μ a))
  | 10 => .inl (T 0, (zK μ a).2, .inl (zI μ a))
  | 11 => .inl (T 2, (zK μ a).2, .inr (.inr (.inr (.inr (zR μ a)))))
  | 12 => .inl (T 3, (zK μ a).2, .inr (.inr (.inr (.inr (zR μ a)))))
  | 13 => .inl (T 0, (zK μ a).2, .inl (zI μ a))
  | t => .inr (t - 1, zfs (t - 1) μ a)
def zEmp (U : State) (a : Nat) (H : Heap) : Prop := ∃ cell : Cell, H[a]? = some cell ∧ U.isArrayOf cell (.object "java/lang/Object") ∧ cell.vm ≠ .unknown ∧ cell.slots.size = 0
def zat (D : va_G) (T : Nat → ClassId) (U0 : State) (μ : zM) (a : Nat) (H : Heap) : Prop :=
  (1 ≤ (zK μ a).1 ∧ (zK μ a).1 ≤ 13 → va_at D vwCl (a, zE T μ a) H) ∧ ((zK μ a).1 = 14 → va_X a (zK μ a).2 (zI μ a) U0 H) ∧ ((zK μ a).1 = 15 → zEmp U0 a H ∧ (zK μ a).2 = 0)
/-- the heap holds the memory -/
def zHp (D : va_G) (T : Nat → ClassId) (B0 : Nat) (U0 : State) (μ : zM) (H : Heap) : Prop :=
  (∀ a, zat D T U0 μ a H) ∧ H.size = zS μ ∧ (∀ q, q < B0 → H[q]? = U0.heap[q]?) ∧ B0 ≤ zS μ ∧ (∀ a, 1 ≤ (zK μ a).1 ∧ (zK μ a).1 ≤ 13 → B0 ≤ a) ∧ ∀ a, 14 ≤ (zK μ a).1 → a < B0
/-- the locals hold the list -/
def zlv (ls : Array Slot) (nL : Nat) (L : List (Option Value)) : Prop := ls.size = nL ∧ lv_wf ls ∧ L.length = nL ∧ ∀ (i : Nat) (v : Value), L[i]? = some (some v) → ls[i]? = some (.val v) ∧ v.category = 1
/-- what holds at every place of a body of method y -/
def zCtx (D : va_G) (T : Nat → ClassId) (B0 de mi : Nat) (U0 : State) (y : Nat) (p : Program) (l : Launch) (R : Room) (s : State) (m : MethodId) (args : Array Value) (meth : Method) (c : Code) : Prop :=
  p.tables.exec = Jvm.exec ∧ c.code = zB y ∧ s.vm.findClass (zOwn y) = some m.cls ∧ (∀ w ∈ zBig, w.before args s = true) ∧ c.maxLocals = zX y ∧ meth.locks = false ∧ meth.sig.returnType = zRt y ∧
  zFr y ≤ R.frames ∧ zLo y ≤ R.locals ∧ U0.WarmedH s.vm ∧ (∀ q, q < B0 → s.heap[q]? = U0.heap[q]?) ∧ B0 ≤ s.heap.size ∧ (zIn y = true → meth.name = "<init>") ∧ c.exceptionTable.toList = tableOf (zTb y)
/-- what is known of the start of the law -/
def zEnv (D : va_G) (T : Nat → ClassId) (B0 de mi : Nat) (U0 : State) (l : Launch) : Prop :=
  va_K D vwCl (zTys T) U0 ∧ B0 = U0.heap.size ∧ (∃ a0 : Array Value, ∀ w ∈ lw_tbl, w.before a0 U0 = true) ∧ va_Z "java/util/ArrayList" "DEFAULTCAPACITY_EMPTY_ELEMENTDATA" "[Ljava/lang/Object;" (.ref de) (fun q => B0 ≤ q) U0 U0.heap ∧
  l.stackTraces = false ∧ vx_Zq Bundle.tN "UNASSIGNED_STACK" Bundle.steD (fun q => B0 ≤ q) U0 U0.heap ∧ vx_Zq Bundle.tN "SUPPRESSED_SENTINEL" Bundle.listD (fun q => B0 ≤ q) U0 U0.heap ∧ va_Mi "[Ljava/lang/Object;" mi U0
def zGoal (D : va_G) (T : Nat → ClassId) (B0 de mi : Nat) (U0 : State) (y : Nat) (o : zOp) : Prop :=
  ∀ (p : Program) (l : Launch) (e : Env) (R : Room) (s : State) (m : MethodId) (args : Array Value) (below : List Frame) (meth : Method) (cc : Code), zEnv D T B0 de mi U0 l → zCtx D T B0 de mi U0 y p l R s m args meth cc →
  ∀ (ls : List (Option Value)) (st : List Value) (μ : zM) (c : zCf), zstep de mi o ls st μ = some c →
  ∀ (H : Heap) (locs : List Loc) (lsA : Array Slot) (cells slots : Nat) (Q : State → Prop), zHp D T B0 U0 μ H → zlv lsA (zX y) ls → (∀ z ∈ locs, B0 ≤ z.base) →
  cells + (zC c.2.2.2 - zC μ) ≤ R.cells → slots + (zL c.2.2.2 - zL μ) ≤ R.slots →
  (∀ (H' : Heap) (locs' : List Loc) (lsA' : Array Slot), zHp D T B0 U0 c.2.2.2 H' → zlv lsA' (zX y) c.2.1 → (∀ z ∈ locs', B0 ≤ z.base) →
    W p l e R s m args below meth cc H' locs' (cells + (zC c.2.2.2 - zC μ)) (slots + (zL c.2.2.2 - zL μ)) Q (F0 m c.1 lsA' c.2.2.1)) →
  W p l e R s m args below meth cc H locs cells slots Q (F0 m o.1 lsA st)
theorem zlv_at {ls : Array Slot} {nL : Nat} {L : List (Option Value)} (h : zlv ls nL L) {i : Nat} {v : Value} (hi : zld L i = some v) : ls[i]? = some (.val v) := by
  refine (h.2.2.2 i v ?_).1
  unfold zld at hi
  split at hi
  · next w hw => rw [hw]; cases hi; rfl
  · cases hi
def zas (L : List (Option Value)) : List (Nat × Value) := L.zipIdx.filterMap (fun q => q.1.map (fun v => (q.2, v)))
theorem zas_mem {L : List (Option Value)} {i : Nat} {v : Value} : (i, v) ∈ zas L ↔ L[i]? = some (some v) := by
  unfold zas
  rw [List.mem_filterMap]
  constructor
  · rintro ⟨⟨o, j⟩, h1, h2⟩
    rw [List.mem_zipIdx_iff_getElem?] at h1
    cases o with
    | none => cases h2
    | some w =>
      simp only [Option.map_some, Option.some.injEq, Prod.mk.injEq] at h2
      obtain ⟨rfl, rfl⟩ := h2
      exact h1
  · intro h
    exact ⟨(some v, i), by rw [List.mem_zipIdx_iff_getElem?]; exact h, rfl⟩
theorem zlv_has {ls : Array Slot} {nL : Nat} {L : List (Option Value)} (h : zlv ls nL L) : lv_has ls nL (zas L) := by
  refine ⟨h.1, h.2.1, fun q hq => ?_⟩
  obtain ⟨i, v⟩ := q
  exact (h.2.2.2 i v (zas_mem.mp hq)).1
theorem zlv_set {ls ls' : Array Slot} {nL : Nat} {L : List (Option Value)} {i : Nat} {v : Value} (h : zlv ls nL L) (hv : v.category = 1) (hi : i < L.length) (h' : lv_has ls' nL ((i, v) :: (zas L).filter (fun q => !(q.1 == i) && !(q.1 + 1 == i && q.2.category == 2)))) : zlv ls' nL (L.set i (some v)) := by
  refine ⟨h'.1, h'.2.1, by rw [List.length_set]; exact h.2.2.1, fun j w hj => ?_⟩
  by_cases e : j = i
  · subst e
    rw [List.getElem?_set_self hi] at hj
    cases hj
    exact ⟨h'.2.2 (j, v) List.mem_cons_self, hv⟩
  · rw [List.getElem?_set_ne (Ne.symm e)] at hj
    have hc := (h.2.2.2 j w hj).2
    refine ⟨h'.2.2 (j, w) (List.mem_cons_of_mem _ (List.mem_filter.mpr ⟨zas_mem.mpr hj, ?_⟩)), hc⟩
    simp [e, hc]
theorem zlv_setN {ls : Array Slot} {nL : Nat} {L : List (Option Value)} {i : Nat} {v : Value} (h : zlv ls nL (L.set i (some v))) : zlv ls nL (L.set i none) := by
  refine ⟨h.1, h.2.1, by have := h.2.2.1; rwa [List.length_set] at this ⊢, fun j w hj => ?_⟩
  by_cases e : j = i
  · subst e
    by_cases hl : j < L.length
    · rw [List.getElem?_set_self hl] at hj; cases hj
    · rw [List.getElem?_eq_none (by rw [List.length_set]; omega)] at hj; cases hj
  · refine h.2.2.2 j w ?_
    rw [List.getElem?_set_ne (Ne.symm e)] at hj ⊢
    exact hj
theorem zat_kept {D : va_G} {T : Nat → ClassId} {U0 : State} {μ : zM} {a : Nat} {H H1 : Heap} (h : zat D T U0 μ a H) (hq : H1[a]? = H[a]?) : zat D T U0 μ a H1 := by
  refine ⟨fun k => (h.1 k).kept hq, fun k => (h.2.1 k).kept hq, fun k => ?_⟩
  obtain ⟨⟨c, h1, h2⟩, h3⟩ := h.2.2 k
  exact ⟨⟨c, by rw [hq]; exact h1, h2⟩, h3⟩
theorem zat_cong {D : va_G} {T : Nat → ClassId} {U0 : State} {μ μ' : zM} {a : Nat} {H : Heap} (h : zat D T U0 μ a H) (hK : zK μ' a = zK μ a) (hI : zI μ' a = zI μ a) (hR : zR μ' a = zR μ a) (hJ : zJ μ' a = zJ μ a) : zat D T U0 μ' a H := by
  have he : zE T μ' a = zE T μ a := by
    unfold zE
    rw [hK, hI, hR, hJ]
    have hf : ∀ x, zfs x μ' a = zfs x μ a := fun x => by unfold zfs zV; rw [hI, hR]
    simp only [hf]
  unfold zat
  rw [hK, he, hI]
  exact h
theorem zup_ne {α : Type} {f : Nat → Nat → α} {a k : Nat} {v : α} {b : Nat} (h : b ≠ a) : zup f a k v b = f b := by
  funext j
  simp [zup, h]
/-- a cell of the memory written anew -/
theorem zHp_put {D : va_G} {T : Nat → ClassId} {B0 : Nat} {U0 : State} {μ μ' : zM} {H H1 : Heap} {a : Nat} (h : zHp D T B0 U0 μ H) (hB : B0 ≤ a) (hz : H1.size = H.size) (hq : ∀ q, q ≠ a → H1[q]? = H[q]?) (ha : zat D T U0 μ' a H1)
    (hK : zK μ' = zK μ) (hI : ∀ b, b ≠ a → zI μ' b = zI μ b) (hR : ∀ b, b ≠ a → zR μ' b = zR μ b) (hJ : ∀ b, b ≠ a → zJ μ' b = zJ μ b) (hS : zS μ' = zS μ) : zHp D T B0 U0 μ' H1 := by
  obtain ⟨h1, h2, h3, h4, h5, h6⟩ := h
  refine ⟨fun b => ?_, by rw [hz, h2, hS], fun q hq0 => by rw [hq q (by omega)]; exact h3 q hq0, by rw [hS]; exact h4, by rw [hK]; exact h5, by rw [hK]; exact h6⟩
  by_cases e : b = a
  · subst e; exact ha
  · exact zat_cong (zat_kept (h1 b) (hq b e)) (by rw [hK]) (hI b e) (hR b e) (hJ b e)
/-- a new cell -/
theorem zHp_new {D : va_G} {T : Nat → ClassId} {B0 : Nat} {U0 : State} {μ : zM} {H H1 : Heap} {t n w : Nat} (h : zHp D T B0 U0 μ H) (hz : H1.size = H.size + 1) (hq : ∀ q, q < H.size → H1[q]? = H[q]?) (ht : t ≤ 13) (ha : 1 ≤ t → va_at D vwCl (zS μ, zE T (znew μ t n w) (zS μ)) H1) : zHp D T B0 U0 (znew μ t n w) H1 := by
  obtain ⟨h1, h2, h3, h4, h5, h6⟩ := h
  refine ⟨fun b => ?_, by rw [hz, h2]; rfl, fun q hq0 => by rw [hq q (by omega)]; exact h3 q hq0, by show B0 ≤ zS μ + 1; omega, fun b => ?_, fun b => ?_⟩
  · by_cases e : b = zS μ
    · subst e
      have hk : zK (znew μ t n w) (zS μ) = (t, n) := by rw [zK_new, if_pos rfl]
      refine ⟨fun k => ?_, fun k => ?_, fun k => ?_⟩
      · rw [hk] at k; exact ha k.1
      · rw [hk] at k; simp only at k; omega
      · rw [hk] at k; simp only at k; omega
    · have hI : zI (znew μ t n w) b = zI μ b := by funext k; rw [zI_new, if_neg e]
      have hR : zR (znew μ t n w) b = zR μ b := by funext k; rw [zR_new, if_neg e]
      have hJ : zJ (znew μ t n w) b = zJ μ b := by funext k; rw [zJ_new, if_neg e]
      have hK : zK (znew μ t n w) b = zK μ b := by rw [zK_new, if_neg e]
      by_cases hl : b < H.size
      · exact zat_cong (zat_kept (h1 b) (hq b hl)) hK hI hR hJ
      · have hn : H[b]? = none := Array.getElem?_eq_none (by omega)
        have n1 : ∀ q : Nat × va_E, q.1 = b → ¬ va_at D vwCl q H := fun q e9 h9 => by have := h9.lt; omega
        refine ⟨fun k => ?_, fun k => ?_, fun k => ?_⟩
        · rw [hK] at k; exact absurd ((h1 b).1 k) (n1 _ rfl)
        · rw [hK] at k; obtain ⟨c, h9, -⟩ := (h1 b).2.1 k; rw [hn] at h9; cases h9
        · rw [hK] at k; obtain ⟨⟨c, h9, -⟩, -⟩ := (h1 b).2.2 k; rw [hn] at h9; cases h9
  · rw [zK_new]
    by_cases e : b = zS μ
    · rw [if_pos e]; intro _; omega
    · rw [if_neg e]; exact h5 b
  · rw [zK_new]
    by_cases e : b = zS μ
    · rw [if_pos e]; intro (h9 : 14 ≤ t); omega
    · rw [if_neg e]; exact h6 b
theorem zdec {b : ByteArray} {pc k : Nat} {i : Instr} (h : decode b pc = .ok (i, pc + k - pc)) : decode b pc = .ok (i, k) := by
  rw [Nat.add_sub_cancel_left] at h
  exact h
theorem zopt_rf {v : Value} {r : Option Nat} (h : zopt v = some r) : v = va_rf r := by
  unfold zopt at h
  split at h
  · cases h; rfl
  · cases h; rfl
  · cases h
end
section
theorem zs_iadd {D : va_G} {T : Nat → ClassId} {B0 de mi : Nat} {U0 : State} {y pc n x v z : Nat} {ws : List Nat} (hO : zok y (pc, .iadd, n, x, v, z, ws) = true) : zGoal D T B0 de mi U0 y (pc, .iadd, n, x, v, z, ws) := by
  intro p l e R s m args below meth cc hE hC ls st μ c h H locs lsA cells slots Q hH hL hlo hc1 hc2 k
  obtain ⟨hx, hb, hown, hwd, hml, hlk, hrt, hfr, hlc, hW0, hs0, hsz, hin, htb⟩ := hC
  simp only [zok, Bool.and_eq_true, decide_eq_true_eq] at hO
  obtain ⟨hd, -, hn⟩ := hO
  subst hn
  simp only [zstep] at h
  split at h
  · cases h
    simp only [Nat.sub_self, Nat.add_zero] at k
    exact lv_iadd hx hb (zdec hd) (k H locs lsA hH hL hlo)
  · cases h
theorem zs_isub {D : va_G} {T : Nat → ClassId} {B0 de mi : Nat} {U0 : State} {y pc n x v z : Nat} {ws : List Nat} (hO : zok y (pc, .isub, n, x, v, z, ws) = true) : zGoal D T B0 de mi U0 y (pc, .isub, n, x, v, z, ws) := by
  intro p l e R s m args below meth cc hE hC ls st μ c h H locs lsA cells slots Q hH hL hlo hc1 hc2 k
  obtain ⟨hx, hb, hown, hwd, hml, hlk, hrt, hfr, hlc, hW0, hs0, hsz, hin, htb⟩ := hC
  simp only [zok, Bool.and_eq_true, decide_eq_true_eq] at hO
  obtain ⟨hd, -, hn⟩ := hO
  subst hn
  simp only [zstep] at h
  split at h
  · cases h
    simp only [Nat.sub_self, Nat.add_zero] at k
    exact lv_isub hx hb (zdec hd) (k H locs lsA hH hL hlo)
  · cases h
theorem zs_imul {D : va_G} {T : Nat → ClassId} {B0 de mi : Nat} {U0 : State} {y pc n x v z : Nat} {ws : List Nat} (hO : zok y (pc, .imul, n, x, v, z, ws) = true) : zGoal D T B0 de mi U0 y (pc, .imul, n, x, v, z, ws) := by
  intro p l e R s m args below meth cc hE hC ls st μ c h H locs lsA cells slots Q hH hL hlo hc1 hc2 k
  obtain ⟨hx, hb, hown, hwd, hml, hlk, hrt, hfr, hlc, hW0, hs0, hsz, hin, htb⟩ := hC
  simp only [zok, Bool.and_eq_true, decide_eq_true_eq] at hO
  obtain ⟨hd, -, hn⟩ := hO
  subst hn
  simp only [zstep] at h
  split at h
  · cases h
    simp only [Nat.sub_self, Nat.add_zero] at k
    exact lv_imul hx hb (zdec hd) (k H locs lsA hH hL hlo)
  · cases h
theorem zs_iand {D : va_G} {T : Nat → ClassId} {B0 de mi : Nat} {U0 : State} {y pc n x v z : Nat} {ws : List Nat} (hO : zok y (pc, .iand, n, x, v, z, ws) = true) : zGoal D T B0 de mi U0 y (pc, .iand, n, x, v, z, ws) := by
  intro p l e R s m args below meth cc hE hC ls st μ c h H locs lsA cells slots Q hH hL hlo hc1 hc2 k
  obtain ⟨hx, hb, hown, hwd, hml, hlk, hrt, hfr, hlc, hW0, hs0, hsz, hin, htb⟩ := hC
  simp only [zok, Bool.and_eq_true, decide_eq_true_eq] at hO
  obtain ⟨hd, -, hn⟩ := hO
  subst hn
  simp only [zstep] at h
  split at h
  · cases h
    simp only [Nat.sub_self, Nat.add_zero] at k
    exact lv_iand hx hb (zdec hd) (k H locs lsA hH hL hlo)
  · cases h
theorem zs_ior {D : va_G} {T : Nat → ClassId} {B0 de mi : Nat} {U0 : State} {y pc n x v z : Nat} {ws : List Nat} (hO : zok y (pc, .ior, n, x, v, z, ws) = true) : zGoal D T B0 de mi U0 y (pc, .ior, n, x, v, z, ws) := by
  intro p l e R s m args below meth cc hE hC ls st μ c h H locs lsA cells slots Q hH hL hlo hc1 hc2 k
  obtain ⟨hx, hb, hown, hwd, hml, hlk, hrt, hfr, hlc, hW0, hs0, hsz, hin, htb⟩ := hC
  simp only [zok, Bool.and_eq_true, decide_eq_true_eq] at hO
  obtain ⟨hd, -, hn⟩ := hO
  subst hn
  simp only [zstep] at h
  split at h
  · cases h
    simp only [Nat.sub_self, Nat.add_zero] at k
    exact lv_ior hx hb (zdec hd) (k H locs lsA hH hL hlo)
  · cases h
theorem zs_ishl {D : va_G} {T : Nat → ClassId} {B0 de mi : Nat} {U0 : State} {y pc n x v z : Nat} {ws : List Nat} (hO : zok y (pc, .ishl, n, x, v, z, ws) = true) : zGoal D T B0 de mi U0 y (pc, .ishl, n, x, v, z, ws) := by
  intro p l e R s m args below meth cc hE hC ls st μ c h H locs lsA cells slots Q hH hL hlo hc1 hc2 k
  obtain ⟨hx, hb, hown, hwd, hml, hlk, hrt, hfr, hlc, hW0, hs0, hsz, hin, htb⟩ := hC
  simp only [zok, Bool.and_eq_true, decide_eq_true_eq] at hO
  obtain ⟨hd, -, hn⟩ := hO
  subst hn
  simp only [zstep] at h
  split at h
  · cases h
    simp only [Nat.sub_self, Nat.add_zero] at k
    exact lv_ishl hx hb (zdec hd) (k H locs lsA hH hL hlo)
  · cases h
theorem zs_ishr {D : va_G} {T : Nat → ClassId} {B0 de mi : Nat} {U0 : State} {y pc n x v z : Nat} {ws : List Nat} (hO : zok y (pc, .ishr, n, x, v, z, ws) = true) : zGoal D T B0 de mi U0 y (pc, .ishr, n, x, v, z, ws) := by
  intro p l e R s m args below meth cc hE hC ls st μ c h H locs lsA cells slots Q hH hL hlo hc1 hc2 k
  obtain ⟨hx, hb, hown, hwd, hml, hlk, hrt, hfr, hlc, hW0, hs0, hsz, hin, htb⟩ := hC
  simp only [zok, Bool.and_eq_true, decide_eq_true_eq] at hO
  obtain ⟨hd, -, hn⟩ := hO
  subst hn
  simp only [zstep] at h
  split at h
  · cases h
    simp only [Nat.sub_self, Nat.add_zero] at k
    exact lv_ishr hx hb (zdec hd) (k H locs lsA hH hL hlo)
  · cases h
theorem zs_ineg {D : va_G} {T : Nat → ClassId} {B0 de mi : Nat} {U0 : State} {y pc n x v z : Nat} {ws : List Nat} (hO : zok y (pc, .ineg, n, x, v, z, ws) = true) : zGoal D T B0 de mi U0 y (pc, .ineg, n, x, v, z, ws) := by
  intro p l e R s m args below meth cc hE hC ls st μ c h H locs lsA cells slots Q hH hL hlo hc1 hc2 k
  obtain ⟨hx, hb, hown, hwd, hml, hlk, hrt, hfr, hlc, hW0, hs0, hsz, hin, htb⟩ := hC
  simp only [zok, Bool.and_eq_true, decide_eq_true_eq] at hO
  obtain ⟨hd, -, hn⟩ := hO
  subst hn
  simp only [zstep] at h
  split at h
  · cases h
    simp only [Nat.sub_self, Nat.add_zero] at k
    exact lv_ineg hx hb (zdec hd) (k H locs lsA hH hL hlo)
  · cases h
theorem zs_lcmp {D : va_G} {T : Nat → ClassId} {B0 de mi : Nat} {U0 : State} {y pc n x v z : Nat} {ws : List Nat} (hO : zok y (pc, .lcmp, n, x, v, z, ws) = true) : zGoal D T B0 de mi U0 y (pc, .lcmp, n, x, v, z, ws) := by
  intro p l e R s m args below meth cc hE hC ls st μ c h H locs lsA cells slots Q hH hL hlo hc1 hc2 k
  obtain ⟨hx, hb, hown, hwd, hml, hlk, hrt, hfr, hlc, hW0, hs0, hsz, hin, htb⟩ := hC
  simp only [zok, Bool.and_eq_true, decide_eq_true_eq] at hO
  obtain ⟨hd, -, hn⟩ := hO
  subst hn
  simp only [zstep] at h
  split at h
  · cases h
    simp only [Nat.sub_self, Nat.add_zero] at k
    exact W.lcmp hx hb (zdec hd) (k H locs lsA hH hL hlo)
  · cases h
theorem zs_iushr {D : va_G} {T : Nat → ClassId} {B0 de mi : Nat} {U0 : State} {y pc n x v z : Nat} {ws : List Nat} (hO : zok y (pc, .iushr, n, x, v, z, ws) = true) : zGoal D T B0 de mi U0 y (pc, .iushr, n, x, v, z, ws) := by
  intro p l e R s m args below meth cc hE hC ls st μ c h H locs lsA cells slots Q hH hL hlo hc1 hc2 k
  obtain ⟨hx, hb, hown, hwd, hml, hlk, hrt, hfr, hlc, hW0, hs0, hsz, hin, htb⟩ := hC
  simp only [zok, Bool.and_eq_true, decide_eq_true_eq] at hO
  obtain ⟨hd, -, hn⟩ := hO
  subst hn
  simp only [zstep] at h
  split at h
  · cases h
    simp only [Nat.sub_self, Nat.add_zero] at k
    exact lv_iushr hx hb (zdec hd) rfl (k H locs lsA hH hL hlo)
  · cases h
theorem zs_i2l {D : va_G} {T : Nat → ClassId} {B0 de mi : Nat} {U0 : State} {y pc n x v z : Nat} {ws : List Nat} (hO : zok y (pc, .i2l, n, x, v, z, ws) = true) : zGoal D T B0 de mi U0 y (pc, .i2l, n, x, v, z, ws) := by
  intro p l e R s m args below meth cc hE hC ls st μ c h H locs lsA cells slots Q hH hL hlo hc1 hc2 k
  obtain ⟨hx, hb, hown, hwd, hml, hlk, hrt, hfr, hlc, hW0, hs0, hsz, hin, htb⟩ := hC
  simp only [zok, Bool.and_eq_true, decide_eq_true_eq] at hO
  obtain ⟨hd, -, hn⟩ := hO
  subst hn
  simp only [zstep] at h
  split at h
  · cases h
    simp only [Nat.sub_self, Nat.add_zero] at k
    exact lv_i2l hx hb (zdec hd) rfl (k H locs lsA hH hL hlo)
  · cases h
theorem zs_idiv {D : va_G} {T : Nat → ClassId} {B0 de mi : Nat} {U0 : State} {y pc n x v z : Nat} {ws : List Nat} (hO : zok y (pc, .idiv, n, x, v, z, ws) = true) : zGoal D T B0 de mi U0 y (pc, .idiv, n, x, v, z, ws) := by
  intro p l e R s m args below meth cc hE hC ls st μ c h H locs lsA cells slots Q hH hL hlo hc1 hc2 k
  obtain ⟨hx, hb, hown, hwd, hml, hlk, hrt, hfr, hlc, hW0, hs0, hsz, hin, htb⟩ := hC
  simp only [zok, Bool.and_eq_true, decide_eq_true_eq] at hO
  obtain ⟨hd, -, hn⟩ := hO
  subst hn
  simp only [zstep] at h
  split at h
  · split at h
    · cases h
    · next hz =>
      cases h
      simp only [Nat.sub_self, Nat.add_zero] at k
      exact lv_idiv hx hb (zdec hd) hz (k H locs lsA hH hL hlo)
  · cases h
theorem zs_irem {D : va_G} {T : Nat → ClassId} {B0 de mi : Nat} {U0 : State} {y pc n x v z : Nat} {ws : List Nat} (hO : zok y (pc, .irem, n, x, v, z, ws) = true) : zGoal D T B0 de mi U0 y (pc, .irem, n, x, v, z, ws) := by
  intro p l e R s m args below meth cc hE hC ls st μ c h H locs lsA cells slots Q hH hL hlo hc1 hc2 k
  obtain ⟨hx, hb, hown, hwd, hml, hlk, hrt, hfr, hlc, hW0, hs0, hsz, hin, htb⟩ := hC
  simp only [zok, Bool.and_eq_true, decide_eq_true_eq] at hO
  obtain ⟨hd, -, hn⟩ := hO
  subst hn
  simp only [zstep] at h
  split at h
  · split at h
    · cases h
    · next hz =>
      cases h
      simp only [Nat.sub_self, Nat.add_zero] at k
      exact lv_irem hx hb (zdec hd) hz (k H locs lsA hH hL hlo)
  · cases h
theorem zs_dup {D : va_G} {T : Nat → ClassId} {B0 de mi : Nat} {U0 : State} {y pc n x v z : Nat} {ws : List Nat} (hO : zok y (pc, .dup, n, x, v, z, ws) = true) : zGoal D T B0 de mi U0 y (pc, .dup, n, x, v, z, ws) := by
  intro p l e R s m args below meth cc hE hC ls st μ c h H locs lsA cells slots Q hH hL hlo hc1 hc2 k
  obtain ⟨hx, hb, hown, hwd, hml, hlk, hrt, hfr, hlc, hW0, hs0, hsz, hin, htb⟩ := hC
  simp only [zok, Bool.and_eq_true, decide_eq_true_eq] at hO
  obtain ⟨hd, -, hn⟩ := hO
  subst hn
  simp only [zstep] at h
  split at h
  · split at h
    · next hz =>
      cases h
      simp only [Nat.sub_self, Nat.add_zero] at k
      exact lv_dup hx hb (zdec hd) hz (k H locs lsA hH hL hlo)
    · cases h
  · cases h
theorem zs_pop {D : va_G} {T : Nat → ClassId} {B0 de mi : Nat} {U0 : State} {y pc n x v z : Nat} {ws : List Nat} (hO : zok y (pc, .pop, n, x, v, z, ws) = true) : zGoal D T B0 de mi U0 y (pc, .pop, n, x, v, z, ws) := by
  intro p l e R s m args below meth cc hE hC ls st μ c h H locs lsA cells slots Q hH hL hlo hc1 hc2 k
  obtain ⟨hx, hb, hown, hwd, hml, hlk, hrt, hfr, hlc, hW0, hs0, hsz, hin, htb⟩ := hC
  simp only [zok, Bool.and_eq_true, decide_eq_true_eq] at hO
  obtain ⟨hd, -, hn⟩ := hO
  subst hn
  simp only [zstep] at h
  split at h
  · split at h
    · next hz =>
      cases h
      simp only [Nat.sub_self, Nat.add_zero] at k
      exact lv_pop hx hb (zdec hd) hz (k H locs lsA hH hL hlo)
    · cases h
  · cases h
theorem zs_dup_x1 {D : va_G} {T : Nat → ClassId} {B0 de mi : Nat} {U0 : State} {y pc n x v z : Nat} {ws : List Nat} (hO : zok y (pc, .dup_x1, n, x, v, z, ws) = true) : zGoal D T B0 de mi U0 y (pc, .dup_x1, n, x, v, z, ws) := by
  intro p l e R s m args below meth cc hE hC ls st μ c h H locs lsA cells slots Q hH hL hlo hc1 hc2 k
  obtain ⟨hx, hb, hown, hwd, hml, hlk, hrt, hfr, hlc, hW0, hs0, hsz, hin, htb⟩ := hC
  simp only [zok, Bool.and_eq_true, decide_eq_true_eq] at hO
  obtain ⟨hd, -, hn⟩ := hO
  subst hn
  simp only [zstep] at h
  split at h
  · split at h
    · next hz =>
      cases h
      simp only [Nat.sub_self, Nat.add_zero] at k
      exact lv_dup_x1 hx hb (zdec hd) hz.1 hz.2 (k H locs lsA hH hL hlo)
    · cases h
  · cases h
theorem zs_dup2 {D : va_G} {T : Nat → ClassId} {B0 de mi : Nat} {U0 : State} {y pc n x v z : Nat} {ws : List Nat} (hO : zok y (pc, .dup2, n, x, v, z, ws) = true) : zGoal D T B0 de mi U0 y (pc, .dup2, n, x, v, z, ws) := by
  intro p l e R s m args below meth cc hE hC ls st μ c h H locs lsA cells slots Q hH hL hlo hc1 hc2 k
  obtain ⟨hx, hb, hown, hwd, hml, hlk, hrt, hfr, hlc, hW0, hs0, hsz, hin, htb⟩ := hC
  simp only [zok, Bool.and_eq_true, decide_eq_true_eq] at hO
  obtain ⟨hd, -, hn⟩ := hO
  subst hn
  simp only [zstep] at h
  split at h
  · split at h
    · next hz =>
      cases h
      simp only [Nat.sub_self, Nat.add_zero] at k
      exact lv_dup2_11 hx hb (zdec hd) hz.1 hz.2 (k H locs lsA hH hL hlo)
    · cases h
  · cases h
theorem zs_aconst_null {D : va_G} {T : Nat → ClassId} {B0 de mi : Nat} {U0 : State} {y pc n x v z : Nat} {ws : List Nat} (hO : zok y (pc, .aconst_null, n, x, v, z, ws) = true) : zGoal D T B0 de mi U0 y (pc, .aconst_null, n, x, v, z, ws) := by
  intro p l e R s m args below meth cc hE hC ls st μ c h H locs lsA cells slots Q hH hL hlo hc1 hc2 k
  obtain ⟨hx, hb, hown, hwd, hml, hlk, hrt, hfr, hlc, hW0, hs0, hsz, hin, htb⟩ := hC
  simp only [zok, Bool.and_eq_true, decide_eq_true_eq] at hO
  obtain ⟨hd, -, hn⟩ := hO
  subst hn
  simp only [zstep] at h
  cases h
  simp only [Nat.sub_self, Nat.add_zero] at k
  exact lv_null hx hb (zdec hd) (k H locs lsA hH hL hlo)
theorem zs_iconst {D : va_G} {T : Nat → ClassId} {B0 de mi : Nat} {U0 : State} {y pc n x v z : Nat} {ws : List Nat} {i : Int} (hO : zok y (pc, (.iconst i), n, x, v, z, ws) = true) : zGoal D T B0 de mi U0 y (pc, (.iconst i), n, x, v, z, ws) := by
  intro p l e R s m args below meth cc hE hC ls st μ c h H locs lsA cells slots Q hH hL hlo hc1 hc2 k
  obtain ⟨hx, hb, hown, hwd, hml, hlk, hrt, hfr, hlc, hW0, hs0, hsz, hin, htb⟩ := hC
  simp only [zok, Bool.and_eq_true, decide_eq_true_eq] at hO
  obtain ⟨hd, -, hv, hn⟩ := hO
  subst hn
  simp only [zstep] at h
  cases h
  simp only [Nat.sub_self, Nat.add_zero] at k
  exact lv_iconst hx hb (zdec hd) hv (k H locs lsA hH hL hlo)
theorem zs_bipush {D : va_G} {T : Nat → ClassId} {B0 de mi : Nat} {U0 : State} {y pc n x v z : Nat} {ws : List Nat} {i : Int} (hO : zok y (pc, (.bipush i), n, x, v, z, ws) = true) : zGoal D T B0 de mi U0 y (pc, (.bipush i), n, x, v, z, ws) := by
  intro p l e R s m args below meth cc hE hC ls st μ c h H locs lsA cells slots Q hH hL hlo hc1 hc2 k
  obtain ⟨hx, hb, hown, hwd, hml, hlk, hrt, hfr, hlc, hW0, hs0, hsz, hin, htb⟩ := hC
  simp only [zok, Bool.and_eq_true, decide_eq_true_eq] at hO
  obtain ⟨hd, -, hv, hn⟩ := hO
  subst hn
  simp only [zstep] at h
  cases h
  simp only [Nat.sub_self, Nat.add_zero] at k
  exact lv_bipush hx hb (zdec hd) hv (k H locs lsA hH hL hlo)
theorem zs_sipush {D : va_G} {T : Nat → ClassId} {B0 de mi : Nat} {U0 : State} {y pc n x v z : Nat} {ws : List Nat} {i : Int} (hO : zok y (pc, (.sipush i), n, x, v, z, ws) = true) : zGoal D T B0 de mi U0 y (pc, (.sipush i), n, x, v, z, ws) := by
  intro p l e R s m args below meth cc hE hC ls st μ c h H locs lsA cells slots Q hH hL hlo hc1 hc2 k
  obtain ⟨hx, hb, hown, hwd, hml, hlk, hrt, hfr, hlc, hW0, hs0, hsz, hin, htb⟩ := hC
  simp only [zok, Bool.and_eq_true, decide_eq_true_eq] at hO
  obtain ⟨hd, -, hv, hn⟩ := hO
  subst hn
  simp only [zstep] at h
  cases h
  simp only [Nat.sub_self, Nat.add_zero] at k
  exact lv_sipush hx hb (zdec hd) hv (k H locs lsA hH hL hlo)
theorem zs_goto {D : va_G} {T : Nat → ClassId} {B0 de mi : Nat} {U0 : State} {y pc n x v z : Nat} {ws : List Nat} {off : Int} (hO : zok y (pc, (.goto off), n, x, v, z, ws) = true) : zGoal D T B0 de mi U0 y (pc, (.goto off), n, x, v, z, ws) := by
  intro p l e R s m args below meth cc hE hC ls st μ c h H locs lsA cells slots Q hH hL hlo hc1 hc2 k
  obtain ⟨hx, hb, hown, hwd, hml, hlk, hrt, hfr, hlc, hW0, hs0, hsz, hin, htb⟩ := hC
  simp only [zok, Bool.and_eq_true, decide_eq_true_eq] at hO
  obtain ⟨hd, -, ht, hn⟩ := hO
  subst hn
  simp only [zstep] at h
  cases h
  simp only [Nat.sub_self, Nat.add_zero] at k
  exact lv_goto hx hb (zdec hd) ht (k H locs lsA hH hL hlo)
theorem zs_iload_n {D : va_G} {T : Nat → ClassId} {B0 de mi : Nat} {U0 : State} {y pc n x v z : Nat} {ws : List Nat} {k0 : Fin 4} (hO : zok y (pc, (.iload_n k0), n, x, v, z, ws) = true) : zGoal D T B0 de mi U0 y (pc, (.iload_n k0), n, x, v, z, ws) := by
  intro p l e R s m args below meth cc hE hC ls st μ c h H locs lsA cells slots Q hH hL hlo hc1 hc2 k
  obtain ⟨hx, hb, hown, hwd, hml, hlk, hrt, hfr, hlc, hW0, hs0, hsz, hin, htb⟩ := hC
  simp only [zok, Bool.and_eq_true, decide_eq_true_eq] at hO
  obtain ⟨hd, -, hi, hn⟩ := hO
  subst hn
  subst hi
  simp only [zstep] at h
  split at h
  · next w hw =>
    cases h
    simp only [Nat.sub_self, Nat.add_zero] at k
    exact lv_iload_n hx hb (zdec hd) rfl (zlv_at hL hw) (k H locs lsA hH hL hlo)
  · cases h
theorem zs_iload {D : va_G} {T : Nat → ClassId} {B0 de mi : Nat} {U0 : State} {y pc n x v z : Nat} {ws : List Nat} {k0 : Nat} (hO : zok y (pc, (.iload k0), n, x, v, z, ws) = true) : zGoal D T B0 de mi U0 y (pc, (.iload k0), n, x, v, z, ws) := by
  intro p l e R s m args below meth cc hE hC ls st μ c h H locs lsA cells slots Q hH hL hlo hc1 hc2 k
  obtain ⟨hx, hb, hown, hwd, hml, hlk, hrt, hfr, hlc, hW0, hs0, hsz, hin, htb⟩ := hC
  simp only [zok, Bool.and_eq_true, decide_eq_true_eq] at hO
  obtain ⟨hd, -, hi, hn⟩ := hO
  subst hn
  subst hi
  simp only [zstep] at h
  split at h
  · next w hw =>
    cases h
    simp only [Nat.sub_self, Nat.add_zero] at k
    exact lv_iload hx hb (zdec hd) (zlv_at hL hw) (k H locs lsA hH hL hlo)
  · cases h
theorem zs_aload_n {D : va_G} {T : Nat → ClassId} {B0 de mi : Nat} {U0 : State} {y pc n x v z : Nat} {ws : List Nat} {k0 : Fin 4} (hO : zok y (pc, (.aload_n k0), n, x, v, z, ws) = true) : zGoal D T B0 de mi U0 y (pc, (.aload_n k0), n, x, v, z, ws) := by
  intro p l e R s m args below meth cc hE hC ls st μ c h H locs lsA cells slots Q hH hL hlo hc1 hc2 k
  obtain ⟨hx, hb, hown, hwd, hml, hlk, hrt, hfr, hlc, hW0, hs0, hsz, hin, htb⟩ := hC
  simp only [zok, Bool.and_eq_true, decide_eq_true_eq] at hO
  obtain ⟨hd, -, hi, hn⟩ := hO
  subst hn
  subst hi
  simp only [zstep] at h
  split at h
  · next w hw =>
    cases h
    simp only [Nat.sub_self, Nat.add_zero] at k
    exact lv_aload_n hx hb (zdec hd) rfl (zlv_at hL hw) (k H locs lsA hH hL hlo)
  · next hw =>
    cases h
    simp only [Nat.sub_self, Nat.add_zero] at k
    exact lv_aload_nN hx hb (zdec hd) rfl (zlv_at hL hw) (k H locs lsA hH hL hlo)
  · cases h
theorem zs_aload {D : va_G} {T : Nat → ClassId} {B0 de mi : Nat} {U0 : State} {y pc n x v z : Nat} {ws : List Nat} {k0 : Nat} (hO : zok y (pc, (.aload k0), n, x, v, z, ws) = true) : zGoal D T B0 de mi U0 y (pc, (.aload k0), n, x, v, z, ws) := by
  intro p l e R s m args below meth cc hE hC ls st μ c h H locs lsA cells slots Q hH hL hlo hc1 hc2 k
  obtain ⟨hx, hb, hown, hwd, hml, hlk, hrt, hfr, hlc, hW0, hs0, hsz, hin, htb⟩ := hC
  simp only [zok, Bool.and_eq_true, decide_eq_true_eq] at hO
  obtain ⟨hd, -, hi, hn⟩ := hO
  subst hn
  subst hi
  simp only [zstep] at h
  split at h
  · next w hw =>
    cases h
    simp only [Nat.sub_self, Nat.add_zero] at k
    exact lv_aload hx hb (zdec hd) (zlv_at hL hw) (k H locs lsA hH hL hlo)
  · next hw =>
    cases h
    simp only [Nat.sub_self, Nat.add_zero] at k
    exact lv_aloadN hx hb (zdec hd) (zlv_at hL hw) (k H locs lsA hH hL hlo)
  · cases h
theorem zs_istore_n {D : va_G} {T : Nat → ClassId} {B0 de mi : Nat} {U0 : State} {y pc n x v z : Nat} {ws : List Nat} {k0 : Fin 4} (hO : zok y (pc, (.istore_n k0), n, x, v, z, ws) = true) : zGoal D T B0 de mi U0 y (pc, (.istore_n k0), n, x, v, z, ws) := by
  intro p l e R s m args below meth cc hE hC ls st μ c h H locs lsA cells slots Q hH hL hlo hc1 hc2 k
  obtain ⟨hx, hb, hown, hwd, hml, hlk, hrt, hfr, hlc, hW0, hs0, hsz, hin, htb⟩ := hC
  simp only [zok, Bool.and_eq_true, decide_eq_true_eq] at hO
  obtain ⟨hd, -, hi, hn⟩ := hO
  subst hn
  subst hi
  simp only [zstep] at h
  split at h
  · split at h
    · next hl =>
      cases h
      simp only [Nat.sub_self, Nat.add_zero] at k
      exact lv_istore_n hx hb (zdec hd) rfl (zlv_has hL) (by rw [← hL.2.2.1]; exact hl) rfl (fun ls' h' => k H locs ls' hH (zlv_set hL rfl hl h') hlo)
    · cases h
  · cases h
theorem zs_istore {D : va_G} {T : Nat → ClassId} {B0 de mi : Nat} {U0 : State} {y pc n x v z : Nat} {ws : List Nat} {k0 : Nat} (hO : zok y (pc, (.istore k0), n, x, v, z, ws) = true) : zGoal D T B0 de mi U0 y (pc, (.istore k0), n, x, v, z, ws) := by
  intro p l e R s m args below meth cc hE hC ls st μ c h H locs lsA cells slots Q hH hL hlo hc1 hc2 k
  obtain ⟨hx, hb, hown, hwd, hml, hlk, hrt, hfr, hlc, hW0, hs0, hsz, hin, htb⟩ := hC
  simp only [zok, Bool.and_eq_true, decide_eq_true_eq] at hO
  obtain ⟨hd, -, hi, hn⟩ := hO
  subst hn
  subst hi
  simp only [zstep] at h
  split at h
  · split at h
    · next hl =>
      cases h
      simp only [Nat.sub_self, Nat.add_zero] at k
      exact lv_istore hx hb (zdec hd) (zlv_has hL) (by rw [← hL.2.2.1]; exact hl) rfl (fun ls' h' => k H locs ls' hH (zlv_set hL rfl hl h') hlo)
    · cases h
  · cases h
theorem zs_astore_n {D : va_G} {T : Nat → ClassId} {B0 de mi : Nat} {U0 : State} {y pc n x v z : Nat} {ws : List Nat} {k0 : Fin 4} (hO : zok y (pc, (.astore_n k0), n, x, v, z, ws) = true) : zGoal D T B0 de mi U0 y (pc, (.astore_n k0), n, x, v, z, ws) := by
  intro p l e R s m args below meth cc hE hC ls st μ c h H locs lsA cells slots Q hH hL hlo hc1 hc2 k
  obtain ⟨hx, hb, hown, hwd, hml, hlk, hrt, hfr, hlc, hW0, hs0, hsz, hin, htb⟩ := hC
  simp only [zok, Bool.and_eq_true, decide_eq_true_eq] at hO
  obtain ⟨hd, -, hi, hn⟩ := hO
  subst hn
  subst hi
  simp only [zstep] at h
  split at h
  · split at h
    · next hl =>
      cases h
      simp only [Nat.sub_self, Nat.add_zero] at k
      exact lv_astore_n hx hb (zdec hd) rfl (zlv_has hL) (by rw [← hL.2.2.1]; exact hl) rfl (fun ls' h' => k H locs ls' hH (zlv_set hL rfl hl h') hlo)
    · cases h
  · split at h
    · next hl =>
      cases h
      simp only [Nat.sub_self, Nat.add_zero] at k
      exact lv_astore_nN hx hb (zdec hd) rfl (zlv_has hL) (by rw [← hL.2.2.1]; exact hl) rfl (fun ls' h' => k H locs ls' hH (zlv_set hL rfl hl h') hlo)
    · cases h
  · cases h
theorem zs_astore {D : va_G} {T : Nat → ClassId} {B0 de mi : Nat} {U0 : State} {y pc n x v z : Nat} {ws : List Nat} {k0 : Nat} (hO : zok y (pc, (.astore k0), n, x, v, z, ws) = true) : zGoal D T B0 de mi U0 y (pc, (.astore k0), n, x, v, z, ws) := by
  intro p l e R s m args below meth cc hE hC ls st μ c h H locs lsA cells slots Q hH hL hlo hc1 hc2 k
  obtain ⟨hx, hb, hown, hwd, hml, hlk, hrt, hfr, hlc, hW0, hs0, hsz, hin, htb⟩ := hC
  simp only [zok, Bool.and_eq_true, decide_eq_true_eq] at hO
  obtain ⟨hd, -, hi, hn⟩ := hO
  subst hn
  subst hi
  simp only [zstep] at h
  split at h
  · split at h
    · next hl =>
      cases h
      simp only [Nat.sub_self, Nat.add_zero] at k
      exact lv_astore hx hb (zdec hd) (zlv_has hL) (by rw [← hL.2.2.1]; exact hl) rfl (fun ls' h' => k H locs ls' hH (zlv_set hL rfl hl h') hlo)
    · cases h
  · split at h
    · next hl =>
      cases h
      simp only [Nat.sub_self, Nat.add_zero] at k
      exact lv_astoreN hx hb (zdec hd) (zlv_has hL) (by rw [← hL.2.2.1]; exact hl) rfl (fun ls' h' => k H locs ls' hH (zlv_set hL rfl hl h') hlo)
    · cases h
  · cases h
theorem zs_iinc {D : va_G} {T : Nat → ClassId} {B0 de mi : Nat} {U0 : State} {y pc n x v z : Nat} {ws : List Nat} {k0 : Nat} {i : Int} (hO : zok y (pc, (.iinc k0 i), n, x, v, z, ws) = true) : zGoal D T B0 de mi U0 y (pc, (.iinc k0 i), n, x, v, z, ws) := by
  intro p l e R s m args below meth cc hE hC ls st μ c h H locs lsA cells slots Q hH hL hlo hc1 hc2 k
  obtain ⟨hx, hb, hown, hwd, hml, hlk, hrt, hfr, hlc, hW0, hs0, hsz, hin, htb⟩ := hC
  simp only [zok, Bool.and_eq_true, decide_eq_true_eq] at hO
  obtain ⟨hd, -, ⟨hi, hv⟩, hn⟩ := hO
  subst hn
  subst hi
  simp only [zstep] at h
  split at h
  · next w hw =>
    split at h
    · next hl =>
      cases h
      simp only [Nat.sub_self, Nat.add_zero] at k
      have hm : (k0, Value.int w) ∈ zas ls := zas_mem.mpr (by
        unfold zld at hw
        split at hw
        · next q hq => rw [hq]; cases hw; rfl
        · cases hw)
      obtain ⟨j, hj⟩ := List.getElem?_of_mem hm
      exact lv_iinc (k := j) hx hb (zdec hd) (zlv_has hL) hj (by rw [hv]) (by rw [← hL.2.2.1]; exact hl) rfl (fun ls' h' => k H locs ls' hH (zlv_set hL rfl hl h') hlo)
    · cases h
  · cases h
theorem zs_ifCond_eq {D : va_G} {T : Nat → ClassId} {B0 de mi : Nat} {U0 : State} {y pc n x v z : Nat} {ws : List Nat} {off : Int} (hO : zok y (pc, (.ifCond .eq off), n, x, v, z, ws) = true) : zGoal D T B0 de mi U0 y (pc, (.ifCond .eq off), n, x, v, z, ws) := by
  intro p l e R s m args below meth cc hE hC ls st μ c h H locs lsA cells slots Q hH hL hlo hc1 hc2 k
  obtain ⟨hx, hb, hown, hwd, hml, hlk, hrt, hfr, hlc, hW0, hs0, hsz, hin, htb⟩ := hC
  simp only [zok, Bool.and_eq_true, decide_eq_true_eq] at hO
  obtain ⟨hd, -, ht, hn⟩ := hO
  subst hn
  simp only [zstep] at h
  split at h
  · refine lv_if_eq hx hb (zdec hd) ht (fun hz => ?_) (fun hz => ?_)
    · rw [if_pos hz] at h
      cases h
      simp only [Nat.sub_self, Nat.add_zero] at k
      exact k H locs lsA hH hL hlo
    · rw [if_neg (by first | exact hz | exact fun q => q hz)] at h
      cases h
      simp only [Nat.sub_self, Nat.add_zero] at k
      exact k H locs lsA hH hL hlo
  · cases h
theorem zs_ifCond_ne {D : va_G} {T : Nat → ClassId} {B0 de mi : Nat} {U0 : State} {y pc n x v z : Nat} {ws : List Nat} {off : Int} (hO : zok y (pc, (.ifCond .ne off), n, x, v, z, ws) = true) : zGoal D T B0 de mi U0 y (pc, (.ifCond .ne off), n, x, v, z, ws) := by
  intro p l e R s m args below meth cc hE hC ls st μ c h H locs lsA cells slots Q hH hL hlo hc1 hc2 k
  obtain ⟨hx, hb, hown, hwd, hml, hlk, hrt, hfr, hlc, hW0, hs0, hsz, hin, htb⟩ := hC
  simp only [zok, Bool.and_eq_true, decide_eq_true_eq] at hO
  obtain ⟨hd, -, ht, hn⟩ := hO
  subst hn
  simp only [zstep] at h
  split at h
  · refine lv_if_ne hx hb (zdec hd) ht (fun hz => ?_) (fun hz => ?_)
    · rw [if_pos hz] at h
      cases h
      simp only [Nat.sub_self, Nat.add_zero] at k
      exact k H locs lsA hH hL hlo
    · rw [if_neg (by first | exact hz | exact fun q => q hz)] at h
      cases h
      simp only [Nat.sub_self, Nat.add_zero] at k
      exact k H locs lsA hH hL hlo
  · cases h
theorem zs_ifCond_lt {D : va_G} {T : Nat → ClassId} {B0 de mi : Nat} {U0 : State} {y pc n x v z : Nat} {ws : List Nat} {off : Int} (hO : zok y (pc, (.ifCond .lt off), n, x, v, z, ws) = true) : zGoal D T B0 de mi U0 y (pc, (.ifCond .lt off), n, x, v, z, ws) := by
  intro p l e R s m args below meth cc hE hC ls st μ c h H locs lsA cells slots Q hH hL hlo hc1 hc2 k
  obtain ⟨hx, hb, hown, hwd, hml, hlk, hrt, hfr, hlc, hW0, hs0, hsz, hin, htb⟩ := hC
  simp only [zok, Bool.and_eq_true, decide_eq_true_eq] at hO
  obtain ⟨hd, -, ht, hn⟩ := hO
  subst hn
  simp only [zstep] at h
  split at h
  · refine lv_if_lt hx hb (zdec hd) ht (fun hz => ?_) (fun hz => ?_)
    · rw [if_pos hz] at h
      cases h
      simp only [Nat.sub_self, Nat.add_zero] at k
      exact k H locs lsA hH hL hlo
    · rw [if_neg (by first | exact hz | exact fun q => q hz)] at h
      cases h
      simp only [Nat.sub_self, Nat.add_zero] at k
      exact k H locs lsA hH hL hlo
  · cases h
theorem zs_ifCond_ge {D : va_G} {T : Nat → ClassId} {B0 de mi : Nat} {U0 : State} {y pc n x v z : Nat} {ws : List Nat} {off : Int} (hO : zok y (pc, (.ifCond .ge off), n, x, v, z, ws) = true) : zGoal D T B0 de mi U0 y (pc, (.ifCond .ge off), n, x, v, z, ws) := by
  intro p l e R s m args below meth cc hE hC ls st μ c h H locs lsA cells slots Q hH hL hlo hc1 hc2 k
  obtain ⟨hx, hb, hown, hwd, hml, hlk, hrt, hfr, hlc, hW0, hs0, hsz, hin, htb⟩ := hC
  simp only [zok, Bool.and_eq_true, decide_eq_true_eq] at hO
  obtain ⟨hd, -, ht, hn⟩ := hO
  subst hn
  simp only [zstep] at h
  split at h
  · refine lv_if_ge hx hb (zdec hd) ht (fun hz => ?_) (fun hz => ?_)
    · rw [if_pos hz] at h
      cases h
      simp only [Nat.sub_self, Nat.add_zero] at k
      exact k H locs lsA hH hL hlo
    · rw [if_neg (by first | exact hz | exact fun q => q hz)] at h
      cases h
      simp only [Nat.sub_self, Nat.add_zero] at k
      exact k H locs lsA hH hL hlo
  · cases h
theorem zs_ifCond_gt {D : va_G} {T : Nat → ClassId} {B0 de mi : Nat} {U0 : State} {y pc n x v z : Nat} {ws : List Nat} {off : Int} (hO : zok y (pc, (.ifCond .gt off), n, x, v, z, ws) = true) : zGoal D T B0 de mi U0 y (pc, (.ifCond .gt off), n, x, v, z, ws) := by
  intro p l e R s m args below meth cc hE hC ls st μ c h H locs lsA cells slots Q hH hL hlo hc1 hc2 k
  obtain ⟨hx, hb, hown, hwd, hml, hlk, hrt, hfr, hlc, hW0, hs0, hsz, hin, htb⟩ := hC
  simp only [zok, Bool.and_eq_true, decide_eq_true_eq] at hO
  obtain ⟨hd, -, ht, hn⟩ := hO
  subst hn
  simp only [zstep] at h
  split at h
  · refine lv_if_gt hx hb (zdec hd) ht (fun hz => ?_) (fun hz => ?_)
    · rw [if_pos hz] at h
      cases h
      simp only [Nat.sub_self, Nat.add_zero] at k
      exact k H locs lsA hH hL hlo
    · rw [if_neg (by first | exact hz | exact fun q => q hz)] at h
      cases h
      simp only [Nat.sub_self, Nat.add_zero] at k
      exact k H locs lsA hH hL hlo
  · cases h
theorem zs_ifCond_le {D : va_G} {T : Nat → ClassId} {B0 de mi : Nat} {U0 : State} {y pc n x v z : Nat} {ws : List Nat} {off : Int} (hO : zok y (pc, (.ifCond .le off), n, x, v, z, ws) = true) : zGoal D T B0 de mi U0 y (pc, (.ifCond .le off), n, x, v, z, ws) := by
  intro p l e R s m args below meth cc hE hC ls st μ c h H locs lsA cells slots Q hH hL hlo hc1 hc2 k
  obtain ⟨hx, hb, hown, hwd, hml, hlk, hrt, hfr, hlc, hW0, hs0, hsz, hin, htb⟩ := hC
  simp only [zok, Bool.and_eq_true, decide_eq_true_eq] at hO
  obtain ⟨hd, -, ht, hn⟩ := hO
  subst hn
  simp only [zstep] at h
  split at h
  · refine lv_if_le hx hb (zdec hd) ht (fun hz => ?_) (fun hz => ?_)
    · rw [if_pos hz] at h
      cases h
      simp only [Nat.sub_self, Nat.add_zero] at k
      exact k H locs lsA hH hL hlo
    · rw [if_neg (by first | exact hz | exact fun q => q hz)] at h
      cases h
      simp only [Nat.sub_self, Nat.add_zero] at k
      exact k H locs lsA hH hL hlo
  · cases h
theorem zs_if_icmp_eq {D : va_G} {T : Nat → ClassId} {B0 de mi : Nat} {U0 : State} {y pc n x v z : Nat} {ws : List Nat} {off : Int} (hO : zok y (pc, (.if_icmp .eq off), n, x, v, z, ws) = true) : zGoal D T B0 de mi U0 y (pc, (.if_icmp .eq off), n, x, v, z, ws) := by
  intro p l e R s m args below meth cc hE hC ls st μ c h H locs lsA cells slots Q hH hL hlo hc1 hc2 k
  obtain ⟨hx, hb, hown, hwd, hml, hlk, hrt, hfr, hlc, hW0, hs0, hsz, hin, htb⟩ := hC
  simp only [zok, Bool.and_eq_true, decide_eq_true_eq] at hO
  obtain ⟨hd, -, ht, hn⟩ := hO
  subst hn
  simp only [zstep] at h
  split at h
  · refine lv_icmp_eq hx hb (zdec hd) ht (fun hz => ?_) (fun hz => ?_)
    · rw [if_pos hz] at h
      cases h
      simp only [Nat.sub_self, Nat.add_zero] at k
      exact k H locs lsA hH hL hlo
    · rw [if_neg (by first | exact hz | exact fun q => q hz)] at h
      cases h
      simp only [Nat.sub_self, Nat.add_zero] at k
      exact k H locs lsA hH hL hlo
  · cases h
theorem zs_if_icmp_ne {D : va_G} {T : Nat → ClassId} {B0 de mi : Nat} {U0 : State} {y pc n x v z : Nat} {ws : List Nat} {off : Int} (hO : zok y (pc, (.if_icmp .ne off), n, x, v, z, ws) = true) : zGoal D T B0 de mi U0 y (pc, (.if_icmp .ne off), n, x, v, z, ws) := by
  intro p l e R s m args below meth cc hE hC ls st μ c h H locs lsA cells slots Q hH hL hlo hc1 hc2 k
  obtain ⟨hx, hb, hown, hwd, hml, hlk, hrt, hfr, hlc, hW0, hs0, hsz, hin, htb⟩ := hC
  simp only [zok, Bool.and_eq_true, decide_eq_true_eq] at hO
  obtain ⟨hd, -, ht, hn⟩ := hO
  subst hn
  simp only [zstep] at h
  split at h
  · refine lv_icmp_ne hx hb (zdec hd) ht (fun hz => ?_) (fun hz => ?_)
    · rw [if_pos hz] at h
      cases h
      simp only [Nat.sub_self, Nat.add_zero] at k
      exact k H locs lsA hH hL hlo
    · rw [if_neg (by first | exact hz | exact fun q => q hz)] at h
      cases h
      simp only [Nat.sub_self, Nat.add_zero] at k
      exact k H locs lsA hH hL hlo
  · cases h
theorem zs_if_icmp_lt {D : va_G} {T : Nat → ClassId} {B0 de mi : Nat} {U0 : State} {y pc n x v z : Nat} {ws : List Nat} {off : Int} (hO : zok y (pc, (.if_icmp .lt off), n, x, v, z, ws) = true) : zGoal D T B0 de mi U0 y (pc, (.if_icmp .lt off), n, x, v, z, ws) := by
  intro p l e R s m args below meth cc hE hC ls st μ c h H locs lsA cells slots Q hH hL hlo hc1 hc2 k
  obtain ⟨hx, hb, hown, hwd, hml, hlk, hrt, hfr, hlc, hW0, hs0, hsz, hin, htb⟩ := hC
  simp only [zok, Bool.and_eq_true, decide_eq_true_eq] at hO
  obtain ⟨hd, -, ht, hn⟩ := hO
  subst hn
  simp only [zstep] at h
  split at h
  · refine lv_icmp_lt hx hb (zdec hd) ht (fun hz => ?_) (fun hz => ?_)
    · rw [if_pos hz] at h
      cases h
      simp only [Nat.sub_self, Nat.add_zero] at k
      exact k H locs lsA hH hL hlo
    · rw [if_neg (by first | exact hz | exact fun q => q hz)] at h
      cases h
      simp only [Nat.sub_self, Nat.add_zero] at k
      exact k H locs lsA hH hL hlo
  · cases h
theorem zs_if_icmp_ge {D : va_G} {T : Nat → ClassId} {B0 de mi : Nat} {U0 : State} {y pc n x v z : Nat} {ws : List Nat} {off : Int} (hO : zok y (pc, (.if_icmp .ge off), n, x, v, z, ws) = true) : zGoal D T B0 de mi U0 y (pc, (.if_icmp .ge off), n, x, v, z, ws) := by
  intro p l e R s m args below meth cc hE hC ls st μ c h H locs lsA cells slots Q hH hL hlo hc1 hc2 k
  obtain ⟨hx, hb, hown, hwd, hml, hlk, hrt, hfr, hlc, hW0, hs0, hsz, hin, htb⟩ := hC
  simp only [zok, Bool.and_eq_true, decide_eq_true_eq] at hO
  obtain ⟨hd, -, ht, hn⟩ := hO
  subst hn
  simp only [zstep] at h
  split at h
  · refine lv_icmp_ge hx hb (zdec hd) ht (fun hz => ?_) (fun hz => ?_)
    · rw [if_pos hz] at h
      cases h
      simp only [Nat.sub_self, Nat.add_zero] at k
      exact k H locs lsA hH hL hlo
    · rw [if_neg (by first | exact hz | exact fun q => q hz)] at h
      cases h
      simp only [Nat.sub_self, Nat.add_zero] at k
      exact k H locs lsA hH hL hlo
  · cases h
theorem zs_if_icmp_gt {D : va_G} {T : Nat → ClassId} {B0 de mi : Nat} {U0 : State} {y pc n x v z : Nat} {ws : List Nat} {off : Int} (hO : zok y (pc, (.if_icmp .gt off), n, x, v, z, ws) = true) : zGoal D T B0 de mi U0 y (pc, (.if_icmp .gt off), n, x, v, z, ws) := by
  intro p l e R s m args below meth cc hE hC ls st μ c h H locs lsA cells slots Q hH hL hlo hc1 hc2 k
  obtain ⟨hx, hb, hown, hwd, hml, hlk, hrt, hfr, hlc, hW0, hs0, hsz, hin, htb⟩ := hC
  simp only [zok, Bool.and_eq_true, decide_eq_true_eq] at hO
  obtain ⟨hd, -, ht, hn⟩ := hO
  subst hn
  simp only [zstep] at h
  split at h
  · refine lv_icmp_gt hx hb (zdec hd) ht (fun hz => ?_) (fun hz => ?_)
    · rw [if_pos hz] at h
      cases h
      simp only [Nat.sub_self, Nat.add_zero] at k
      exact k H locs lsA hH hL hlo
    · rw [if_neg (by first | exact hz | exact fun q => q hz)] at h
      cases h
      simp only [Nat.sub_self, Nat.add_zero] at k
      exact k H locs lsA hH hL hlo
  · cases h
theorem zs_if_icmp_le {D : va_G} {T : Nat → ClassId} {B0 de mi : Nat} {U0 : State} {y pc n x v z : Nat} {ws : List Nat} {off : Int} (hO : zok y (pc, (.if_icmp .le off), n, x, v, z, ws) = true) : zGoal D T B0 de mi U0 y (pc, (.if_icmp .le off), n, x, v, z, ws) := by
  intro p l e R s m args below meth cc hE hC ls st μ c h H locs lsA cells slots Q hH hL hlo hc1 hc2 k
  obtain ⟨hx, hb, hown, hwd, hml, hlk, hrt, hfr, hlc, hW0, hs0, hsz, hin, htb⟩ := hC
  simp only [zok, Bool.and_eq_true, decide_eq_true_eq] at hO
  obtain ⟨hd, -, ht, hn⟩ := hO
  subst hn
  simp only [zstep] at h
  split at h
  · refine lv_icmp_le hx hb (zdec hd) ht (fun hz => ?_) (fun hz => ?_)
    · rw [if_pos hz] at h
      cases h
      simp only [Nat.sub_self, Nat.add_zero] at k
      exact k H locs lsA hH hL hlo
    · rw [if_neg (by first | exact hz | exact fun q => q hz)] at h
      cases h
      simp only [Nat.sub_self, Nat.add_zero] at k
      exact k H locs lsA hH hL hlo
  · cases h
theorem zs_if_acmp_eq {D : va_G} {T : Nat → ClassId} {B0 de mi : Nat} {U0 : State} {y pc n x v z : Nat} {ws : List Nat} {off : Int} (hO : zok y (pc, (.if_acmp .eq off), n, x, v, z, ws) = true) : zGoal D T B0 de mi U0 y (pc, (.if_acmp .eq off), n, x, v, z, ws) := by
  intro p l e R s m args below meth cc hE hC ls st μ c h H locs lsA cells slots Q hH hL hlo hc1 hc2 k
  obtain ⟨hx, hb, hown, hwd, hml, hlk, hrt, hfr, hlc, hW0, hs0, hsz, hin, htb⟩ := hC
  simp only [zok, Bool.and_eq_true, decide_eq_true_eq] at hO
  obtain ⟨hd, -, ht, hn⟩ := hO
  subst hn
  simp only [zstep] at h
  split at h
  · split at h
    · next rv rw e1 e2 =>
      rw [zopt_rf e1, zopt_rf e2]
      refine lv_acmp_eq hx hb (zdec hd) ht (fun hz => ?_) (fun hz => ?_)
      · rw [if_pos hz] at h
        cases h
        simp only [Nat.sub_self, Nat.add_zero] at k
        exact k H locs lsA hH hL hlo
      · rw [if_neg (by first | exact hz | exact fun q => q hz)] at h
        cases h
        simp only [Nat.sub_self, Nat.add_zero] at k
        exact k H locs lsA hH hL hlo
    · cases h
  · cases h
theorem zs_if_acmp_ne {D : va_G} {T : Nat → ClassId} {B0 de mi : Nat} {U0 : State} {y pc n x v z : Nat} {ws : List Nat} {off : Int} (hO : zok y (pc, (.if_acmp .ne off), n, x, v, z, ws) = true) : zGoal D T B0 de mi U0 y (pc, (.if_acmp .ne off), n, x, v, z, ws) := by
  intro p l e R s m args below meth cc hE hC ls st μ c h H locs lsA cells slots Q hH hL hlo hc1 hc2 k
  obtain ⟨hx, hb, hown, hwd, hml, hlk, hrt, hfr, hlc, hW0, hs0, hsz, hin, htb⟩ := hC
  simp only [zok, Bool.and_eq_true, decide_eq_true_eq] at hO
  obtain ⟨hd, -, ht, hn⟩ := hO
  subst hn
  simp only [zstep] at h
  split at h
  · split at h
    · next rv rw e1 e2 =>
      rw [zopt_rf e1, zopt_rf e2]
      refine lv_acmp_ne hx hb (zdec hd) ht (fun hz => ?_) (fun hz => ?_)
      · rw [if_pos hz] at h
        cases h
        simp only [Nat.sub_self, Nat.add_zero] at k
        exact k H locs lsA hH hL hlo
      · rw [if_neg (by first | exact hz | exact fun q => q hz)] at h
        cases h
        simp only [Nat.sub_self, Nat.add_zero] at k
        exact k H locs lsA hH hL hlo
    · cases h
  · cases h
theorem zs_ifnull {D : va_G} {T : Nat → ClassId} {B0 de mi : Nat} {U0 : State} {y pc n x v z : Nat} {ws : List Nat} {off : Int} (hO : zok y (pc, (.ifnull off), n, x, v, z, ws) = true) : zGoal D T B0 de mi U0 y (pc, (.ifnull off), n, x, v, z, ws) := by
  intro p l e R s m args below meth cc hE hC ls st μ c h H locs lsA cells slots Q hH hL hlo hc1 hc2 k
  obtain ⟨hx, hb, hown, hwd, hml, hlk, hrt, hfr, hlc, hW0, hs0, hsz, hin, htb⟩ := hC
  simp only [zok, Bool.and_eq_true, decide_eq_true_eq] at hO
  obtain ⟨hd, -, ht, hn⟩ := hO
  subst hn
  simp only [zstep] at h
  split at h
  · cases h
    simp only [Nat.sub_self, Nat.add_zero] at k
    exact lv_ifnullN hx hb (zdec hd) ht (k H locs lsA hH hL hlo)
  · cases h
    simp only [Nat.sub_self, Nat.add_zero] at k
    exact lv_ifnull hx hb (zdec hd) (k H locs lsA hH hL hlo)
  · cases h
theorem zs_ifnonnull {D : va_G} {T : Nat → ClassId} {B0 de mi : Nat} {U0 : State} {y pc n x v z : Nat} {ws : List Nat} {off : Int} (hO : zok y (pc, (.ifnonnull off), n, x, v, z, ws) = true) : zGoal D T B0 de mi U0 y (pc, (.ifnonnull off), n, x, v, z, ws) := by
  intro p l e R s m args below meth cc hE hC ls st μ c h H locs lsA cells slots Q hH hL hlo hc1 hc2 k
  obtain ⟨hx, hb, hown, hwd, hml, hlk, hrt, hfr, hlc, hW0, hs0, hsz, hin, htb⟩ := hC
  simp only [zok, Bool.and_eq_true, decide_eq_true_eq] at hO
  obtain ⟨hd, -, ht, hn⟩ := hO
  subst hn
  simp only [zstep] at h
  split at h
  · cases h
    simp only [Nat.sub_self, Nat.add_zero] at k
    exact lv_ifnonnullN hx hb (zdec hd) (k H locs lsA hH hL hlo)
  · cases h
    simp only [Nat.sub_self, Nat.add_zero] at k
    exact lv_ifnonnull hx hb (zdec hd) ht (k H locs lsA hH hL hlo)
  · cases h
end
section
/-! ===== soundness of the instructions that touch the heap ===== -/
theorem zcl {x : Nat} (hx : x < 8) : vwCl[x]? = some (zRC x, zTC x, zNf x) := by
  rcases (show x = 0 ∨ x = 1 ∨ x = 2 ∨ x = 3 ∨ x = 4 ∨ x = 5 ∨ x = 6 ∨ x = 7 by omega) with rfl | rfl | rfl | rfl | rfl | rfl | rfl | rfl <;> rfl
theorem zlay0 : ∀ x, x < 8 → ∀ w ∈ u_ws (zRC x) (zTC x) (zNf x), w ∈ lw_tbl ∧ goodWord w = true := by decide +kernel
theorem zlay {x : Nat} (hx : x < 8) : ∀ w ∈ u_ws (zRC x) (zTC x) (zNf x), w ∈ zBig := fun w hw => List.mem_filter.mpr (zlay0 x hx w hw)
theorem zty_ok {x : Nat} (hx : x < 8) : ∀ k, k < zNf x → parseFieldDescriptor (zTC x k).2.2.1 = some (zty x k) := by
  rcases (show x = 0 ∨ x = 1 ∨ x = 2 ∨ x = 3 ∨ x = 4 ∨ x = 5 ∨ x = 6 ∨ x = 7 by omega) with rfl | rfl | rfl | rfl | rfl | rfl | rfl | rfl
  · exact tyJx4a65c_ok
  · exact tyX0_ok
  · exact tyX1_ok
  · exact tyX2_ok
  · exact tyX3_ok
  · exact tyX4_ok
  · exact tyX5_ok
  · exact tyX6_ok
theorem znm_ok {x : Nat} (hx : x < 8) : ∀ a, a < zNf x → ∀ b, b < zNf x → a ≠ b → (zTC x a).2.1 ≠ (zTC x b).2.1 := by
  rcases (show x = 0 ∨ x = 1 ∨ x = 2 ∨ x = 3 ∨ x = 4 ∨ x = 5 ∨ x = 6 ∨ x = 7 by omega) with rfl | rfl | rfl | rfl | rfl | rfl | rfl | rfl
  · exact nmJx4a65c
  · exact nmX0
  · exact nmX1
  · exact nmX2
  · exact nmX3
  · exact nmX4
  · exact nmX5
  · exact nmX6
theorem zdef_ok : ∀ x, x < 8 → ∀ k, k < zNf x → defaultValue (zty x k) = if zref (zty x k) = true then .null else .int 0 := by decide +kernel
theorem zE_obj {T : Nat → ClassId} {μ : zM} {a x n : Nat} (hx : x < 8) (hk : zK μ a = (x + 1, n)) : zE T μ a = .inr (x, zfs x μ a) := by
  unfold zE
  rw [hk]
  rcases (show x = 0 ∨ x = 1 ∨ x = 2 ∨ x = 3 ∨ x = 4 ∨ x = 5 ∨ x = 6 ∨ x = 7 by omega) with rfl | rfl | rfl | rfl | rfl | rfl | rfl | rfl <;> rfl
theorem zfs_len {x : Nat} {μ : zM} {a : Nat} : (zfs x μ a).length = zNf x := by unfold zfs; rw [List.length_map, List.length_range]
theorem zfs_get {x : Nat} {μ : zM} {a k : Nat} (hk : k < zNf x) : (zfs x μ a)[k]? = some (zV x k μ a) := by
  unfold zfs
  rw [List.getElem?_map, List.getElem?_range hk]
  rfl
theorem zobj {D : va_G} {T : Nat → ClassId} {B0 : Nat} {U0 : State} {μ : zM} {H : Heap} {a x n : Nat} (h : zHp D T B0 U0 μ H) (hx : x < 8) (hk : zK μ a = (x + 1, n)) : va_at D vwCl (a, .inr (x, zfs x μ a)) H := by
  have h1 := (h.1 a).1 (by rw [hk]; exact ⟨by omega, by show x + 1 ≤ 13; omega⟩)
  rwa [zE_obj hx hk] at h1
theorem zone {D : va_G} {cl : List vw_C} {q : Nat × va_E} {H : Heap} (h : va_at D cl q H) : va_P D cl [q] H := by
  intro k q' hk
  have hz : k < 1 := (List.getElem?_eq_some_iff.mp hk).1
  rw [show k = 0 by omega] at hk
  cases hk
  exact h
theorem zwin {D : va_G} {T : Nat → ClassId} {B0 de mi : Nat} {U0 : State} {y : Nat} {p : Program} {l : Launch} {R : Room} {s : State} {m : MethodId} {args : Array Value} {meth : Method} {c : Code} (hC : zCtx D T B0 de mi U0 y p l R s m args meth c) {i : Nat} {w : Cond} (h : zhas i w = true) : w.before args s = true := hC.2.2.2.1 w (zhas_in h)
/-- the two ways in which a field is named -/
theorem zfld {args : Array Value} {s : State} {y x v i a b : Nat} (hwd : ∀ w ∈ zBig, w.before args s = true)
    (h : zhas a (.fieldLink (zOwn y) i (zTC x v).1 (zTC x v).2.1 (zTC x v).2.2.1) = true ∨ (zhas a (.fieldLink (zOwn y) i RJx4a65c (zTC x v).2.1 (zTC x v).2.2.1) = true ∧ zhas b (.sameField RJx4a65c (zTC x v).1 (zTC x v).2.1 (zTC x v).2.2.1) = true)) :
    ∃ ref : String, (Cond.fieldLink (zOwn y) i ref (zTC x v).2.1 (zTC x v).2.2.1).before args s = true ∧ ∀ q, s.fieldFound? (zTC x v).1 (zTC x v).2.1 (zTC x v).2.2.1 = some q → s.fieldFound? ref (zTC x v).2.1 (zTC x v).2.2.1 = some q := by
  rcases h with h | ⟨h, h2⟩
  · exact ⟨_, hwd _ (zhas_in h), fun _ h9 => h9⟩
  · exact ⟨_, hwd _ (zhas_in h), u_same (hwd _ (zhas_in h2))⟩
theorem zs_getfield {D : va_G} {T : Nat → ClassId} {B0 de mi : Nat} {U0 : State} {y pc n x v z i : Nat} {ws : List Nat} (hO : zok y (pc, (.getfield i), n, x, v, z, ws) = true) : zGoal D T B0 de mi U0 y (pc, (.getfield i), n, x, v, z, ws) := by
  intro p l e R s m args below meth cc hE hC ls st μ c h H locs lsA cells slots Q hH hL hlo hc1 hc2 k
  obtain ⟨hx, hb, hown, hwd, hml, hlk, hrt, hfr, hlc, hW0, hs0, hsz, hin, htb⟩ := hC
  simp only [zok, Bool.and_eq_true, decide_eq_true_eq, Bool.or_eq_true] at hO
  obtain ⟨hd, -, hn, hx8, hv, hz, hw⟩ := hO
  subst hn
  simp only [zstep] at h
  split at h
  · next a r =>
    split at h
    · next hk =>
      cases h
      simp only [Nat.sub_self, Nat.add_zero] at k
      obtain ⟨ref, hl, hsm⟩ := zfld hwd hw
      have hv' : (zfs x μ a)[v]? = some (if z = 1 then va_rf (zR μ a v) else .int (zI μ a v)) := by
        rw [zfs_get hv, hz]
        unfold zV
        cases zref (zty x v) <;> simp
      exact va_get (ci := x) (C := zRC x) (T := zTC x) (N := zNf x) (D := D) (cl := vwCl) (tys := zTys T) (ws := [(a, .inr (x, zfs x μ a))]) hx hb hwd (zlay hx8) hown (va_K.moved hW0.alike hE.1) (zone (zobj hH hx8 hk)) 0 rfl (zcl hx8) v hv hl hsm hv' (zdec hd) (k H locs lsA hH hL hlo)
    · cases h
  · cases h
/-- a field written -/
theorem zput {p : Program} {l : Launch} {e : Env} {R : Room} {s : State} {m : MethodId} {args : Array Value} {below : List Frame} {meth : Method} {cc : Code} {H : Heap} {locs : List Loc} {cells slots : Nat} {Q : State → Prop} {D : va_G} {tys : List (ClassId × FieldType)} {own ref : String} {x v i a pc : Nat} {fs : List Value} {v0 : Value} {rest : List Value} {lsA : Array Slot} {b : ByteArray}
    (hx : p.tables.exec = Jvm.exec) (hb : cc.code = b) (hwd : ∀ w ∈ zBig, w.before args s = true) (hown : s.vm.findClass own = some m.cls) (hK : va_K D vwCl tys s) (hx8 : x < 8) (hv : v < zNf x) (hat : va_at D vwCl (a, .inr (x, fs)) H) (hlen : fs.length = zNf x)
    (hlink : (Cond.fieldLink own i ref (zTC x v).2.1 (zTC x v).2.2.1).before args s = true) (hsame : ∀ q, s.fieldFound? (zTC x v).1 (zTC x v).2.1 (zTC x v).2.2.1 = some q → s.fieldFound? ref (zTC x v).2.1 (zTC x v).2.2.1 = some q)
    (hfin : (zTC x v).2.2.2 = true → meth.name = "<init>" ∧ (zTC x v).1 = own) (hn : narrow (zty x v) v0 = v0) (hf : fits (zty x v) v0 = true) (hdg : decode b pc = .ok (.putfield i, 3))
    (kk : ∀ (H1 : Heap) (q : Loc), q.base = a → H1.size = H.size → (∀ q, q ≠ a → H1[q]? = H[q]?) → va_at D vwCl (a, .inr (x, fs.set v v0)) H1 → W p l e R s m args below meth cc H1 (locs ++ [q]) cells slots Q (F0 m (pc + 3) lsA rest)) :
    W p l e R s m args below meth cc H locs cells slots Q (F0 m pc lsA (v0 :: .ref a :: rest)) := by
  have hap := va_apart (own := own) hwd (zlay hx8) (zty x) (zty_ok hx8) (znm_ok hx8) hK (zcl hx8)
  obtain ⟨r, h1, cell, q1, q2, q3, q4⟩ := hat
  have hr : r = (zRC x, zTC x, zNf x) := Option.some.inj (h1.symm.trans (zcl hx8))
  subst hr
  obtain ⟨hS, hfc, kC, hkC, hkind⟩ := hK.1 x _ (zcl hx8)
  obtain ⟨cf, kf, fi, f, hi, hsl⟩ := hS v hv
  have hlay := hwd _ (zlay hx8 _ (u_in_lay hv))
  have hst := (u_facts hfc hkC (u_lays hwd (zlay hx8) hv) hi).1
  have hend : ∀ H' : Heap, H'[a]? = some (cell.setSlot (D.2 x v) v0) → va_at D vwCl (a, .inr (x, fs.set v v0)) H' := fun H' e1 =>
    ⟨_, zcl hx8, t_OB.to (V := updV (vp_V fs) v v0) ⟨_, e1, q2, q3, t_set q4 hap hv v0⟩ (fun j _ => vp_updV_set (by omega) v0 j)⟩
  by_cases hF : (zTC x v).2.2.2 = true
  · obtain ⟨hin2, hdecl⟩ := hfin hF
    unfold u_lay at hlay
    rw [if_pos hF] at hlay
    have hcf : m.cls = cf := by
      obtain ⟨_, _, c', _, _, _, -, -, hf', -, -, -, hown2, -⟩ := Cond.laysFinal_spec hlay
      have e1 : c' = cf := by have := hi.symm.trans hf'; simp at this; exact this.1.symm
      rw [hdecl] at hown2
      rw [← e1]; exact Option.some.inj (hown.symm.trans hown2)
    have h6 := u_fits hfc hkC hkind (Or.inr hlay) hi (zty_ok hx8 v hv) hn hf
    refine W.putFinK hx hb hown hlink (hsame _ hi) hst hcf hin2 (by rw [q2]; exact h6) q1 q3 (by rw [hsl]; exact k2_hasslot (q4 v hv)) rfl rfl hdg fun H' e1 e2 e3 => ?_
    rw [hsl] at e1 ⊢
    exact kk H' _ rfl e2 e3 (hend H' e1)
  · unfold u_lay at hlay
    rw [if_neg hF] at hlay
    have h6 := u_store hfc hkC hkind hlay hi (zty_ok hx8 v hv) hn hf
    refine W.putK hx hb (f := f) ⟨hown, hlink, ⟨_, _, _, hsame _ hi⟩, hst⟩ (by rw [q2]; exact h6) q1 q3 (by rw [hsl]; exact k2_hasslot (q4 v hv)) rfl rfl hdg fun H' e1 e2 e3 => ?_
    rw [hsl] at e1 ⊢
    exact kk H' _ rfl e2 e3 (hend H' e1)
theorem zfs_setI {x : Nat} {μ : zM} {a k : Nat} {w : Int32} (hr : zref (zty x k) = false) : zfs x (zsI μ a k w) a = (zfs x μ a).set k (.int w) := by
  apply List.ext_getElem?
  intro j
  by_cases hj : j < zNf x
  · rw [zfs_get hj]
    by_cases e : j = k
    · subst e
      rw [List.getElem?_set_self (by rw [zfs_len]; exact hj)]
      unfold zV
      rw [hr, zI_sI]
      simp [zup]
    · rw [List.getElem?_set_ne (Ne.symm e), zfs_get hj]
      unfold zV
      rw [zI_sI, zR_sI]
      simp [zup, e]
  · rw [List.getElem?_eq_none (by rw [zfs_len]; omega), List.getElem?_eq_none (by rw [List.length_set, zfs_len]; omega)]
theorem zfs_setR {x : Nat} {μ : zM} {a k : Nat} {w : Option Nat} (hr : zref (zty x k) = true) : zfs x (zsR μ a k w) a = (zfs x μ a).set k (va_rf w) := by
  apply List.ext_getElem?
  intro j
  by_cases hj : j < zNf x
  · rw [zfs_get hj]
    by_cases e : j = k
    · subst e
      rw [List.getElem?_set_self (by rw [zfs_len]; exact hj)]
      unfold zV
      rw [hr, zR_sR]
      simp [zup]
    · rw [List.getElem?_set_ne (Ne.symm e), zfs_get hj]
      unfold zV
      rw [zI_sR, zR_sR]
      simp [zup, e]
  · rw [List.getElem?_eq_none (by rw [zfs_len]; omega), List.getElem?_eq_none (by rw [List.length_set, zfs_len]; omega)]
theorem zhlo {B0 : Nat} {locs : List Loc} {q : Loc} (h : ∀ z ∈ locs, B0 ≤ z.base) (hq : B0 ≤ q.base) : ∀ z ∈ locs ++ [q], B0 ≤ z.base := by
  intro z hz
  rcases List.mem_append.mp hz with h1 | h1
  · exact h z h1
  · rw [List.mem_singleton.mp h1]; exact hq
theorem zat_obj {D : va_G} {T : Nat → ClassId} {U0 : State} {μ : zM} {a x n : Nat} {H : Heap} (hx : x < 8) (hk : zK μ a = (x + 1, n)) (h : va_at D vwCl (a, .inr (x, zfs x μ a)) H) : zat D T U0 μ a H := by
  refine ⟨fun _ => by rw [zE_obj hx hk]; exact h, fun k => ?_, fun k => ?_⟩
  · rw [hk] at k; simp only at k; omega
  · rw [hk] at k; simp only at k; omega
theorem znar_ref {t : FieldType} (h : zref t = true) (r : Option Nat) : narrow t (va_rf r) = va_rf r ∧ fits t (va_rf r) = true := by
  cases t <;> first | (cases h; done) | (cases r <;> exact ⟨rfl, rfl⟩)
theorem znar_bool {w : Int32} (h : w = 0 ∨ w = 1) : narrow .boolean (.int w) = .int w ∧ fits .boolean (.int w) = true := by
  rcases h with rfl | rfl <;> exact ⟨by decide +kernel, by decide +kernel⟩
theorem znar_int (w : Int32) : narrow .int (.int w) = .int w ∧ fits .int (.int w) = true := ⟨rfl, rfl⟩
theorem zs_putfield {D : va_G} {T : Nat → ClassId} {B0 de mi : Nat} {U0 : State} {y pc n x v z i : Nat} {ws : List Nat} (hO : zok y (pc, (.putfield i), n, x, v, z, ws) = true) : zGoal D T B0 de mi U0 y (pc, (.putfield i), n, x, v, z, ws) := by
  intro p l e R s m args below meth cc hE hC ls st μ c h H locs lsA cells slots Q hH hL hlo hc1 hc2 k
  obtain ⟨hx, hb, hown, hwd, hml, hlk, hrt, hfr, hlc, hW0, hs0, hsz, hin, htb⟩ := hC
  simp only [zok, Bool.and_eq_true, decide_eq_true_eq, Bool.or_eq_true] at hO
  obtain ⟨hd, -, hn, hx8, hv, hz, hfin, hw⟩ := hO
  subst hn
  have hfin' : (zTC x v).2.2.2 = true → meth.name = "<init>" ∧ (zTC x v).1 = zOwn y := by
    intro hF
    rw [if_pos hF, Bool.and_eq_true, decide_eq_true_eq] at hfin
    exact ⟨hin hfin.1, hfin.2⟩
  obtain ⟨ref, hl, hsm⟩ := zfld hwd hw
  have hK := va_K.moved hW0.alike hE.1
  simp only [zstep] at h
  split at h
  · next w a r =>
    split at h
    · next hk =>
      cases h
      simp only [zC_sI, zL_sI, Nat.sub_self, Nat.add_zero] at k
      have hB : B0 ≤ a := hH.2.2.2.2.1 a (by rw [hk.1]; exact ⟨by omega, by show x + 1 ≤ 13; omega⟩)
      have hr : zref (zty x v) = false ∧ narrow (zty x v) (.int w) = .int w ∧ fits (zty x v) (.int w) = true := by
        rcases hk.2 with h0 | ⟨h0, h1⟩
        · rw [h0] at hz
          by_cases hr : zref (zty x v) = true
          · rw [if_pos hr] at hz; simp at hz
          · rw [if_neg hr] at hz
            by_cases hbo : zty x v = .boolean
            · rw [if_pos hbo] at hz; simp at hz
            · rw [if_neg hbo] at hz
              simp only [decide_true, Bool.true_and, decide_eq_true_eq] at hz
              rw [hz]
              exact ⟨rfl, znar_int w⟩
        · rw [h0] at hz
          by_cases hr : zref (zty x v) = true
          · rw [if_pos hr] at hz; simp at hz
          · rw [if_neg hr] at hz
            by_cases hbo : zty x v = .boolean
            · rw [hbo]
              exact ⟨rfl, znar_bool h1⟩
            · rw [if_neg hbo] at hz; simp at hz
      refine zput hx hb hwd hown hK hx8 hv (zobj hH hx8 hk.1) zfs_len hl hsm hfin' hr.2.1 hr.2.2 (zdec hd) (fun H1 q hq z1 o1 hat => ?_)
      refine k H1 _ lsA (zHp_put hH hB z1 o1 (zat_obj hx8 (n := 0) (by rw [zK_sI]; exact hk.1) (by rw [zfs_setI hr.1]; exact hat)) rfl (fun b hb => by rw [zI_sI, zup_ne hb]) (fun _ _ => rfl) (fun _ _ => rfl) rfl) hL (zhlo hlo (by rw [hq]; exact hB))
    · cases h
  · next w a r =>
    split at h
    · next hk =>
      cases h
      simp only [zC_sR, zL_sR, Nat.sub_self, Nat.add_zero] at k
      have hB : B0 ≤ a := hH.2.2.2.2.1 a (by rw [hk.1]; exact ⟨by omega, by show x + 1 ≤ 13; omega⟩)
      have hr : zref (zty x v) = true := by
        by_cases hr : zref (zty x v) = true
        · exact hr
        · rw [if_neg hr, hk.2] at hz
          by_cases hbo : zty x v = .boolean
          · rw [if_pos hbo] at hz; simp at hz
          · rw [if_neg hbo] at hz; simp at hz
      refine zput (v0 := va_rf (some w)) hx hb hwd hown hK hx8 hv (zobj hH hx8 hk.1) zfs_len hl hsm hfin' (znar_ref hr _).1 (znar_ref hr _).2 (zdec hd) (fun H1 q hq z1 o1 hat => ?_)
      refine k H1 _ lsA (zHp_put hH hB z1 o1 (zat_obj hx8 (n := 0) (by rw [zK_sR]; exact hk.1) (by rw [zfs_setR hr]; exact hat)) rfl (fun _ _ => rfl) (fun b hb => by rw [zR_sR, zup_ne hb]) (fun _ _ => rfl) rfl) hL (zhlo hlo (by rw [hq]; exact hB))
    · cases h
  · next a r =>
    split at h
    · next hk =>
      cases h
      simp only [zC_sR, zL_sR, Nat.sub_self, Nat.add_zero] at k
      have hB : B0 ≤ a := hH.2.2.2.2.1 a (by rw [hk.1]; exact ⟨by omega, by show x + 1 ≤ 13; omega⟩)
      have hr : zref (zty x v) = true := by
        by_cases hr : zref (zty x v) = true
        · exact hr
        · rw [if_neg hr, hk.2] at hz
          by_cases hbo : zty x v = .boolean
          · rw [if_pos hbo] at hz; simp at hz
          · rw [if_neg hbo] at hz; simp at hz
      refine zput (v0 := va_rf none) hx hb hwd hown hK hx8 hv (zobj hH hx8 hk.1) zfs_len hl hsm hfin' (znar_ref hr _).1 (znar_ref hr _).2 (zdec hd) (fun H1 q hq z1 o1 hat => ?_)
      refine k H1 _ lsA (zHp_put hH hB z1 o1 (zat_obj hx8 (n := 0) (by rw [zK_sR]; exact hk.1) (by rw [zfs_setR hr]; exact hat)) rfl (fun _ _ => rfl) (fun b hb => by rw [zR_sR, zup_ne hb]) (fun _ _ => rfl) rfl) hL (zhlo hlo (by rw [hq]; exact hB))
    · cases h
  · cases h
theorem zs_new {D : va_G} {T : Nat → ClassId} {B0 de mi : Nat} {U0 : State} {y pc n x v z i : Nat} {ws : List Nat} (hO : zok y (pc, (.new i), n, x, v, z, ws) = true) (hz9 : z ≠ 9) : zGoal D T B0 de mi U0 y (pc, (.new i), n, x, v, z, ws) := by
  intro p l e R s m args below meth cc hE hC ls st μ c h H locs lsA cells slots Q hH hL hlo hc1 hc2 k
  obtain ⟨hx, hb, hown, hwd, hml, hlk, hrt, hfr, hlc, hW0, hs0, hsz, hin, htb⟩ := hC
  simp only [zok, Bool.and_eq_true, decide_eq_true_eq] at hO
  obtain ⟨hd, -, hn, hO⟩ := hO
  rw [if_neg hz9] at hO
  simp only [Bool.and_eq_true, decide_eq_true_eq] at hO
  obtain ⟨hx8, hv, w0, w1, w2⟩ := hO
  subst hn
  subst hv
  simp only [zstep] at h
  cases h
  have e1 : zC (znew μ (x + 1) 0 (zNf x)) - zC μ = 1 := by rw [zC_new]; omega
  have e2 : zL (znew μ (x + 1) 0 (zNf x)) - zL μ = zNf x := by rw [zL_new]; omega
  simp only [e1, e2] at k hc1 hc2
  have hK := va_K.moved hW0.alike hE.1
  have hKn := hK.1 x _ (zcl hx8)
  refine W.newcK hx hb hown (hwd _ (zhas_in w0)) (hwd _ (zhas_in w1)) (hwd _ (zhas_in w2)) rfl (zdec hd) hc1 hc2 hKn.2.1 hH.2.1 fun H1 kC hkC f1 z1 o1 => ?_
  refine k H1 locs lsA (zHp_new hH (by rw [z1, hH.2.1]) (by rw [hH.2.1]; exact o1) (by omega) (fun _ => ?_)) hL hlo
  have hk : zK (znew μ (x + 1) 0 (zNf x)) (zS μ) = (x + 1, 0) := by rw [zK_new, if_pos rfl]
  rw [zE_obj hx8 hk]
  refine ⟨_, zcl hx8, (u_born (zty x) hwd (zlay hx8) hKn hkC f1 (zty_ok hx8)).to (fun j hj => ?_)⟩
  rw [zdef_ok x hx8 j hj]
  unfold vp_V
  rw [List.getD_eq_getElem?_getD, zfs_get hj]
  unfold zV
  rw [zR_new, if_pos rfl, zI_new, if_pos rfl]
  rfl
end
section
/-! ===== soundness: arrays ===== -/
theorem zvin {i : Int32} {n : Nat} (h0 : ¬ i < 0) (h : i.toNatClampNeg < n) : vp_in i n := fun q => q.elim h0 (fun q => absurd h (Nat.not_lt.mpr q))
theorem zarr {D : va_G} {T : Nat → ClassId} {B0 : Nat} {U0 : State} {μ : zM} {H : Heap} {a : Nat} (h : zHp D T B0 U0 μ H) (h1 : 9 ≤ (zK μ a).1) (h2 : (zK μ a).1 ≤ 13) : va_at D vwCl (a, zE T μ a) H := (h.1 a).1 ⟨by omega, h2⟩
theorem zE9 {T : Nat → ClassId} {μ : zM} {a : Nat} (h : (zK μ a).1 = 9) : zE T μ a = .inl (T 0, (zK μ a).2, .inl (zI μ a)) := by unfold zE; rw [h]; rfl
theorem zE10 {T : Nat → ClassId} {μ : zM} {a : Nat} (h : (zK μ a).1 = 10) : zE T μ a = .inl (T 0, (zK μ a).2, .inl (zI μ a)) := by unfold zE; rw [h]; rfl
theorem zE11 {T : Nat → ClassId} {μ : zM} {a : Nat} (h : (zK μ a).1 = 11) : zE T μ a = .inl (T 2, (zK μ a).2, .inr (.inr (.inr (.inr (zR μ a))))) := by unfold zE; rw [h]; rfl
theorem zE12 {T : Nat → ClassId} {μ : zM} {a : Nat} (h : (zK μ a).1 = 12) : zE T μ a = .inl (T 3, (zK μ a).2, .inr (.inr (.inr (.inr (zR μ a))))) := by unfold zE; rw [h]; rfl
theorem zE13 {T : Nat → ClassId} {μ : zM} {a : Nat} (h : (zK μ a).1 = 13) : zE T μ a = .inl (T 0, (zK μ a).2, .inl (zI μ a)) := by unfold zE; rw [h]; rfl
theorem zat_arr {D : va_G} {T : Nat → ClassId} {U0 : State} {μ : zM} {a : Nat} {H : Heap} (h2 : (zK μ a).1 ≤ 13) (h : va_at D vwCl (a, zE T μ a) H) : zat D T U0 μ a H :=
  ⟨fun _ => h, fun k => by omega, fun k => by omega⟩
theorem zs_iaload {D : va_G} {T : Nat → ClassId} {B0 de mi : Nat} {U0 : State} {y pc n x v z : Nat} {ws : List Nat} (hO : zok y (pc, .iaload, n, x, v, z, ws) = true) : zGoal D T B0 de mi U0 y (pc, .iaload, n, x, v, z, ws) := by
  intro p l e R s m args below meth cc hE hC ls st μ c h H locs lsA cells slots Q hH hL hlo hc1 hc2 k
  obtain ⟨hx, hb, hown, hwd, hml, hlk, hrt, hfr, hlc, hW0, hs0, hsz, hin, htb⟩ := hC
  simp only [zok, Bool.and_eq_true, decide_eq_true_eq] at hO
  obtain ⟨hd, -, hn⟩ := hO
  subst hn
  simp only [zstep] at h
  split at h
  · next i a r =>
    split at h
    · next hk =>
      cases h
      simp only [Nat.sub_self, Nat.add_zero] at k
      obtain ⟨hk9, h0, hlt⟩ := hk
      have hK := va_K.moved hW0.alike hE.1
      rcases hk9 with hk9 | hk9
      · have hP := zone (zarr hH (a := a) (by omega) (by omega))
        rw [zE9 hk9] at hP
        exact va_iald hx hb hK hP 0 0 rfl rfl (zvin h0 hlt) (zdec hd) (k H locs lsA hH hL hlo)
      · obtain ⟨scr, g1, g2, g3, g4, g5⟩ := va_X.moved hW0.alike ((hH.1 a).2.1 hk9)
        exact W.iald (v := .int (zI μ a i.toNatClampNeg)) hx hb g1 g2 g3 (by rw [g4]; exact zvin h0 hlt) (g5 _ hlt) rfl rfl (zdec hd) (k H locs lsA hH hL hlo)
    · cases h
  · cases h
theorem zs_aaload {D : va_G} {T : Nat → ClassId} {B0 de mi : Nat} {U0 : State} {y pc n x v z : Nat} {ws : List Nat} (hO : zok y (pc, .aaload, n, x, v, z, ws) = true) : zGoal D T B0 de mi U0 y (pc, .aaload, n, x, v, z, ws) := by
  intro p l e R s m args below meth cc hE hC ls st μ c h H locs lsA cells slots Q hH hL hlo hc1 hc2 k
  obtain ⟨hx, hb, hown, hwd, hml, hlk, hrt, hfr, hlc, hW0, hs0, hsz, hin, htb⟩ := hC
  simp only [zok, Bool.and_eq_true, decide_eq_true_eq] at hO
  obtain ⟨hd, -, hn⟩ := hO
  subst hn
  simp only [zstep] at h
  split at h
  · next i a r =>
    split at h
    · next hk =>
      cases h
      simp only [Nat.sub_self, Nat.add_zero] at k
      obtain ⟨hk9, h0, hlt⟩ := hk
      have hK := va_K.moved hW0.alike hE.1
      have hP := zone (zarr hH (a := a) (by omega) (by omega))
      rcases hk9 with hk9 | hk9
      · rw [zE11 hk9] at hP
        exact va_aldq hx hb hK hP 0 2 rfl rfl (zvin h0 hlt) (zdec hd) (k H locs lsA hH hL hlo)
      · rw [zE12 hk9] at hP
        exact va_aldq hx hb hK hP 0 3 rfl rfl (zvin h0 hlt) (zdec hd) (k H locs lsA hH hL hlo)
    · cases h
  · cases h
theorem zs_arraylength {D : va_G} {T : Nat → ClassId} {B0 de mi : Nat} {U0 : State} {y pc n x v z : Nat} {ws : List Nat} (hO : zok y (pc, .arraylength, n, x, v, z, ws) = true) : zGoal D T B0 de mi U0 y (pc, .arraylength, n, x, v, z, ws) := by
  intro p l e R s m args below meth cc hE hC ls st μ c h H locs lsA cells slots Q hH hL hlo hc1 hc2 k
  obtain ⟨hx, hb, hown, hwd, hml, hlk, hrt, hfr, hlc, hW0, hs0, hsz, hin, htb⟩ := hC
  simp only [zok, Bool.and_eq_true, decide_eq_true_eq] at hO
  obtain ⟨hd, -, hn⟩ := hO
  subst hn
  simp only [zstep] at h
  split at h
  · next a r =>
    split at h
    · next hk =>
      cases h
      simp only [Nat.sub_self, Nat.add_zero] at k
      have hK := va_K.moved hW0.alike hE.1
      have kk := k H locs lsA hH hL hlo
      rcases (show (zK μ a).1 = 9 ∨ (zK μ a).1 = 10 ∨ (zK μ a).1 = 11 ∨ (zK μ a).1 = 12 ∨ (zK μ a).1 = 13 ∨ (zK μ a).1 = 14 ∨ (zK μ a).1 = 15 by omega) with h9 | h9 | h9 | h9 | h9 | h9 | h9
      · have hP := zarr hH (a := a) (by omega) (by omega)
        rw [zE9 h9] at hP
        exact W.alen (n := nI (zK μ a).2) hx hb hP ((hK.2 0 _ rfl).1 (zK μ a).2 (fun j => .int (zI μ a j))) (by rw [vp_cell_i, arrV_size]; rfl) rfl rfl (zdec hd) kk
      · have hP := zarr hH (a := a) (by omega) (by omega)
        rw [zE10 h9] at hP
        exact W.alen (n := nI (zK μ a).2) hx hb hP ((hK.2 1 _ rfl).1 (zK μ a).2 (fun j => .int (zI μ a j))) (by rw [vp_cell_i, arrV_size]; rfl) rfl rfl (zdec hd) kk
      · have hP := zarr hH (a := a) (by omega) (by omega)
        rw [zE11 h9] at hP
        exact W.alen (n := nI (zK μ a).2) hx hb hP ((hK.2 2 _ rfl).1 (zK μ a).2 (fun j => va_rf (zR μ a j))) (by rw [vp_cell_q, arrV_size]; rfl) rfl rfl (zdec hd) kk
      · have hP := zarr hH (a := a) (by omega) (by omega)
        rw [zE12 h9] at hP
        exact W.alen (n := nI (zK μ a).2) hx hb hP ((hK.2 3 _ rfl).1 (zK μ a).2 (fun j => va_rf (zR μ a j))) (by rw [vp_cell_q, arrV_size]; rfl) rfl rfl (zdec hd) kk
      · have hP := zarr hH (a := a) (by omega) (by omega)
        rw [zE13 h9] at hP
        exact W.alen (n := nI (zK μ a).2) hx hb hP ((hK.2 0 _ rfl).1 (zK μ a).2 (fun j => .int (zI μ a j))) (by rw [vp_cell_i, arrV_size]; rfl) rfl rfl (zdec hd) kk
      · obtain ⟨scr, g1, g2, g3, g4, g5⟩ := va_X.moved hW0.alike ((hH.1 a).2.1 h9)
        exact W.alen (n := nI (zK μ a).2) hx hb g1 g2 (by rw [g4]; rfl) rfl rfl (zdec hd) kk
      · obtain ⟨⟨cell, g1, g2, g3, g4⟩, g5⟩ := (hH.1 a).2.2 h9
        exact W.alen (n := nI (zK μ a).2) hx hb g1 (State.isArrayOf_alike hW0.alike g2) (by rw [g4, g5]; rfl) rfl rfl (zdec hd) kk
    · cases h
  · cases h
theorem zfun_set {α : Type} (mk : α → Value) (cA : ClassId) (n k : Nat) (f g : Nat → α) (w : α) (hg : ∀ j, g j = if j = k then w else f j) : arrV cA n (updV (fun j => mk (f j)) k (mk w)) = arrV cA n (fun j => mk (g j)) := by
  congr 1
  funext j
  unfold updV
  rw [hg j]
  by_cases e : j = k <;> simp [e]
theorem zs_iastore {D : va_G} {T : Nat → ClassId} {B0 de mi : Nat} {U0 : State} {y pc n x v z : Nat} {ws : List Nat} (hO : zok y (pc, .iastore, n, x, v, z, ws) = true) : zGoal D T B0 de mi U0 y (pc, .iastore, n, x, v, z, ws) := by
  intro p l e R s m args below meth cc hE hC ls st μ c h H locs lsA cells slots Q hH hL hlo hc1 hc2 k
  obtain ⟨hx, hb, hown, hwd, hml, hlk, hrt, hfr, hlc, hW0, hs0, hsz, hin, htb⟩ := hC
  simp only [zok, Bool.and_eq_true, decide_eq_true_eq] at hO
  obtain ⟨hd, -, hn⟩ := hO
  subst hn
  simp only [zstep] at h
  split at h
  · next w i a r =>
    split at h
    · next hk =>
      cases h
      simp only [zC_sI, zL_sI, Nat.sub_self, Nat.add_zero] at k
      obtain ⟨hk9, h0, hlt⟩ := hk
      have hP := zarr hH (a := a) (by omega) (by omega)
      rw [zE9 hk9] at hP
      have hB : B0 ≤ a := hH.2.2.2.2.1 a ⟨by omega, by omega⟩
      refine W.iast hx hb hP (((va_K.moved hW0.alike hE.1).2 0 _ rfl).1 _ (fun j => .int (zI μ a j))) (fun q => by cases q) (by show ¬ (i < 0 ∨ (arrV _ _ _).slots.size ≤ _); rw [arrV_size]; exact zvin h0 hlt) rfl rfl (zdec hd) fun H1 e1 z1 o1 => ?_
      refine k H1 _ lsA (zHp_put hH hB z1 o1 (zat_arr (by rw [zK_sI]; omega) ?_) rfl (fun b hb => by rw [zI_sI, zup_ne hb]) (fun _ _ => rfl) (fun _ _ => rfl) rfl) hL (zhlo hlo hB)
      rw [zE9 (by rw [zK_sI]; exact hk9)]
      show H1[a]? = some (vp_cell _ _)
      rw [e1, vp_cell_i, vp_cell_i, arrV_store, zK_sI]
      exact congrArg some (zfun_set Value.int (T 0) _ _ (zI μ a) (zI (zsI μ a i.toNatClampNeg w) a) w (fun j => by rw [zI_sI]; simp [zup]))
    · cases h
  · cases h
/-- a class of ours may stand where the component's class is asked -/
theorem zasg {D : va_G} {T : Nat → ClassId} {B0 de mi : Nat} {U0 s : State} {l : Launch} (hE : zEnv D T B0 de mi U0 l) (hW : U0.WarmedH s.vm) {x : Nat} (hx : x < 8) (comp c0 : ClassId) (h1 : s.vm.findClass "java/lang/Object" = some comp) (h2 : s.vm.findClass (zRC x) = some c0) : s.vm.assignable c0 comp = true := by
  obtain ⟨a0, ha0⟩ := hE.2.2.1
  have hm : Cond.castable (zRC x) "java/lang/Object" ∈ lw_tbl := by
    have hall : ∀ x, x < 8 → Cond.castable (zRC x) "java/lang/Object" ∈ lw_tbl := by decide +kernel
    exact hall x hx
  exact vb_asgC (va_Nw.warmC hW (va_Nw.of rfl (ha0 _ hm))) comp c0 h1 h2
theorem zcls {D : va_G} {T : Nat → ClassId} {B0 : Nat} {U0 s : State} {μ : zM} {H : Heap} {a x n : Nat} (hK : va_K D vwCl (zTys T) s) (h : zHp D T B0 U0 μ H) (hx : x < 8) (hk : zK μ a = (x + 1, n)) : ∃ cell : Cell, H[a]? = some cell ∧ cell.vm.isStatics = false ∧ s.vm.findClass (zRC x) = some cell.cls :=
  va_recv hK (zone (zobj h hx hk)) (ci := x) (q0 := 0) (zcl hx) rfl
theorem zs_aastore {D : va_G} {T : Nat → ClassId} {B0 de mi : Nat} {U0 : State} {y pc n x v z : Nat} {ws : List Nat} (hO : zok y (pc, .aastore, n, x, v, z, ws) = true) : zGoal D T B0 de mi U0 y (pc, .aastore, n, x, v, z, ws) := by
  intro p l e R s m args below meth cc hE hC ls st μ c h H locs lsA cells slots Q hH hL hlo hc1 hc2 k
  obtain ⟨hx, hb, hown, hwd, hml, hlk, hrt, hfr, hlc, hW0, hs0, hsz, hin, htb⟩ := hC
  simp only [zok, Bool.and_eq_true, decide_eq_true_eq] at hO
  obtain ⟨hd, -, hn⟩ := hO
  subst hn
  have hK := va_K.moved hW0.alike hE.1
  simp only [zstep] at h
  split at h
  · next w i a r =>
    split at h
    · next hk =>
      cases h
      simp only [zC_sR, zL_sR, Nat.sub_self, Nat.add_zero] at k
      obtain ⟨hk9, h0, hlt⟩ := hk
      have hP := zarr hH (a := a) (by omega) (by omega)
      have hB : B0 ≤ a := hH.2.2.2.2.1 a ⟨by omega, by omega⟩
      have key : ∀ (t : Nat) (C : String) (hE9 : zE T μ a = .inl (T t, (zK μ a).2, .inr (.inr (.inr (.inr (zR μ a)))))) (hE9' : zE T (zsR μ a i.toNatClampNeg (some w)) a = .inl (T t, (zK μ a).2, .inr (.inr (.inr (.inr (zR (zsR μ a i.toNatClampNeg (some w)) a)))))) (ht : (zTys T)[t]? = some (T t, .object C))
          (hw : ∃ (cellV : Cell) (CV : String), H[w]? = some cellV ∧ cellV.vm.isStatics = false ∧ s.vm.findClass CV = some cellV.cls ∧ ∀ comp c0 : ClassId, s.vm.findClass C = some comp → s.vm.findClass CV = some c0 → s.vm.assignable c0 comp = true),
          W p l e R s m args below meth cc H locs cells slots Q (F0 m pc lsA (.ref w :: .int i :: .ref a :: r)) := by
        intro t C hE9 hE9' ht hw
        rw [hE9] at hP
        obtain ⟨cellV, CV, g1, g3, g2, hasg⟩ := hw
        obtain ⟨kA, comp, k1, k2, k3, -⟩ := (hK.2 t _ ht).2
        obtain ⟨kE, hkE, -⟩ := Vm.findClass_spec k3
        obtain ⟨kC, hkC, -⟩ := Vm.findClass_spec g2
        refine W.aast hx hb hP (fun q h => by cases h) (fun h => by cases h) k1 k2 rfl hkE ⟨h0, by show _ < (arrV _ _ _).slots.size; rw [arrV_size]; exact hlt⟩ g1 (fun q h => by rw [h] at g3; cases g3) hkC (hasg _ _ k3 g2) rfl rfl (zdec hd) fun H1 e1 z1 o1 => ?_
        refine k H1 _ lsA (zHp_put hH hB z1 o1 (zat_arr (by rw [zK_sR]; omega) ?_) rfl (fun _ _ => rfl) (fun b hb => by rw [zR_sR, zup_ne hb]) (fun _ _ => rfl) rfl) hL (zhlo hlo hB)
        rw [hE9']
        show H1[a]? = some (vp_cell _ _)
        rw [e1, vp_cell_q, vp_cell_q, arrV_store]
        exact congrArg some (zfun_set va_rf (T t) _ _ (zR μ a) (zR (zsR μ a i.toNatClampNeg (some w)) a) (some w) (fun j => by rw [zR_sR]; simp [zup]))
      rcases hk9 with ⟨hk9, hkw⟩ | ⟨hk9, hkw⟩
      · have hkw' : zK μ w = (1 + 1, (zK μ w).2) := Prod.ext hkw rfl
        obtain ⟨cellV, g1, g3, g2⟩ := zcls hK hH (x := 1) (by decide) hkw'
        exact key 2 RX0 (zE11 hk9) (by rw [zE11 (by rw [zK_sR]; exact hk9), zK_sR]) rfl ⟨cellV, zRC 1, g1, g3, g2, fun comp c0 => vb_asgS comp c0⟩
      · have hkw' : zK μ w = ((zK μ w).1 - 1 + 1, (zK μ w).2) := Prod.ext (Nat.sub_add_cancel hkw.1).symm rfl
        obtain ⟨cellV, g1, g3, g2⟩ := zcls hK hH (x := (zK μ w).1 - 1) (by omega) hkw'
        exact key 3 "java/lang/Object" (zE12 hk9) (by rw [zE12 (by rw [zK_sR]; exact hk9), zK_sR]) rfl ⟨cellV, _, g1, g3, g2, fun comp c0 => zasg hE hW0 (by omega) comp c0⟩
    · cases h
  · next i a r =>
    split at h
    · next hk =>
      cases h
      simp only [zC_sR, zL_sR, Nat.sub_self, Nat.add_zero] at k
      obtain ⟨hk9, h0, hlt⟩ := hk
      have hP := zarr hH (a := a) (by omega) (by omega)
      have hB : B0 ≤ a := hH.2.2.2.2.1 a ⟨by omega, by omega⟩
      have key : ∀ (t : Nat) (C : String) (hE9 : zE T μ a = .inl (T t, (zK μ a).2, .inr (.inr (.inr (.inr (zR μ a)))))) (hE9' : zE T (zsR μ a i.toNatClampNeg none) a = .inl (T t, (zK μ a).2, .inr (.inr (.inr (.inr (zR (zsR μ a i.toNatClampNeg none) a)))))) (ht : (zTys T)[t]? = some (T t, .object C)),
          W p l e R s m args below meth cc H locs cells slots Q (F0 m pc lsA (.null :: .int i :: .ref a :: r)) := by
        intro t C hE9 hE9' ht
        rw [hE9] at hP
        refine va_WaastN (C := C) hx hb hP ((hK.2 t _ ht).1 (zK μ a).2 (fun j => va_rf (zR μ a j))) (fun h => by cases h) (by show ¬ (i < 0 ∨ (arrV _ _ _).slots.size ≤ _); rw [arrV_size]; exact zvin h0 hlt) rfl rfl (zdec hd) fun H1 e1 z1 o1 => ?_
        refine k H1 _ lsA (zHp_put hH hB z1 o1 (zat_arr (by rw [zK_sR]; omega) ?_) rfl (fun _ _ => rfl) (fun b hb => by rw [zR_sR, zup_ne hb]) (fun _ _ => rfl) rfl) hL (zhlo hlo hB)
        rw [hE9']
        show H1[a]? = some (vp_cell _ _)
        rw [e1, vp_cell_q, vp_cell_q, arrV_store]
        exact congrArg some (zfun_set va_rf (T t) _ _ (zR μ a) (zR (zsR μ a i.toNatClampNeg none) a) none (fun j => by rw [zR_sR]; simp [zup]))
      rcases hk9 with hk9 | hk9
      · exact key 2 RX0 (zE11 hk9) (by rw [zE11 (by rw [zK_sR]; exact hk9), zK_sR]) rfl
      · exact key 3 "java/lang/Object" (zE12 hk9) (by rw [zE12 (by rw [zK_sR]; exact hk9), zK_sR]) rfl
    · cases h
  · cases h
end
section
/-! ===== soundness: new arrays, casts, statics, the members that are rows of the kit ===== -/
theorem zsum {r : List Value} (h : r.length ≤ 4) : (r.map fun v => v.category).sum ≤ 8 := by
  have key : ∀ l : List Value, (l.map fun v => v.category).sum ≤ 2 * l.length := by
    intro l
    induction l with
    | nil => simp
    | cons v t ih =>
      rw [List.map_cons, List.sum_cons, List.length_cons]
      have := lv_cat v
      omega
  have := key r
  omega
theorem zs_newarray {D : va_G} {T : Nat → ClassId} {B0 de mi : Nat} {U0 : State} {y pc n x v z : Nat} {t : ArrayType} {ws : List Nat} (hO : zok y (pc, (.newarray t), n, x, v, z, ws) = true) : zGoal D T B0 de mi U0 y (pc, (.newarray t), n, x, v, z, ws) := by
  intro p l e R s m args below meth cc hE hC ls st μ c h H locs lsA cells slots Q hH hL hlo hc1 hc2 k
  obtain ⟨hx, hb, hown, hwd, hml, hlk, hrt, hfr, hlc, hW0, hs0, hsz, hin, htb⟩ := hC
  simp only [zok, Bool.and_eq_true, Bool.or_eq_true, decide_eq_true_eq] at hO
  obtain ⟨hd, -, hn, hO⟩ := hO
  subst hn
  have hK := va_K.moved hW0.alike hE.1
  simp only [zstep] at h
  split at h
  · next w r =>
    split at h
    · next hk =>
      cases h
      have e1 : zC (znew μ x w.toNatClampNeg w.toNatClampNeg) - zC μ = 1 := by rw [zC_new]; omega
      have e2 : zL (znew μ x w.toNatClampNeg w.toNatClampNeg) - zL μ = w.toNatClampNeg := by rw [zL_new]; omega
      simp only [e1, e2] at k hc1 hc2
      have hkn : zK (znew μ x w.toNatClampNeg w.toNatClampNeg) (zS μ) = (x, w.toNatClampNeg) := by rw [zK_new, if_pos rfl]
      have hI0 : zI (znew μ x w.toNatClampNeg w.toNatClampNeg) (zS μ) = fun _ => 0 := by funext j; rw [zI_new, if_pos rfl]
      have hJ0 : zJ (znew μ x w.toNatClampNeg w.toNatClampNeg) (zS μ) = fun _ => 0 := by funext j; rw [zJ_new, if_pos rfl]
      obtain ⟨⟨hx9, ht⟩, hw⟩ := hO
      subst hx9; subst ht
      refine va_newaK hx hb (hwd _ (zhas_in hw)) rfl (zdec hd) rfl hk.1 rfl (by show w.toNatClampNeg * 4 ≤ _; omega) hc1 hc2 hH.2.1 fun H1 cA f1 z1 o1 hAr hNm => ?_
      refine k H1 locs lsA (zHp_new hH (by rw [z1, hH.2.1]) (by rw [hH.2.1]; exact o1) (by decide) (fun _ => ?_)) hL hlo
      have hcA : cA = T 0 := Option.some.inj (hNm.symm.trans (va_nm_int (hK.2 0 _ rfl).2))
      rw [zE9 (by rw [hkn]), hkn, hI0]
      show H1[zS μ]? = some (vp_cell _ _)
      rw [f1, hcA]
      rfl
    · cases h
  · cases h
theorem zs_anewarray {D : va_G} {T : Nat → ClassId} {B0 de mi : Nat} {U0 : State} {y pc n x v z i : Nat} {ws : List Nat} (hO : zok y (pc, (.anewarray i), n, x, v, z, ws) = true) : zGoal D T B0 de mi U0 y (pc, (.anewarray i), n, x, v, z, ws) := by
  intro p l e R s m args below meth cc hE hC ls st μ c h H locs lsA cells slots Q hH hL hlo hc1 hc2 k
  obtain ⟨hx, hb, hown, hwd, hml, hlk, hrt, hfr, hlc, hW0, hs0, hsz, hin, htb⟩ := hC
  simp only [zok, Bool.and_eq_true, Bool.or_eq_true, decide_eq_true_eq] at hO
  obtain ⟨hd, -, hn, hO⟩ := hO
  subst hn
  have hK := va_K.moved hW0.alike hE.1
  obtain ⟨a0, ha0⟩ := hE.2.2.1
  simp only [zstep] at h
  split at h
  · next w r =>
    split at h
    · next hk =>
      cases h
      have e1 : zC (znew μ x w.toNatClampNeg w.toNatClampNeg) - zC μ = 1 := by rw [zC_new]; omega
      have e2 : zL (znew μ x w.toNatClampNeg w.toNatClampNeg) - zL μ = w.toNatClampNeg := by rw [zL_new]; omega
      simp only [e1, e2] at k hc1 hc2
      have hkn : zK (znew μ x w.toNatClampNeg w.toNatClampNeg) (zS μ) = (x, w.toNatClampNeg) := by rw [zK_new, if_pos rfl]
      have hR0 : zR (znew μ x w.toNatClampNeg w.toNatClampNeg) (zS μ) = fun _ => none := by funext j; rw [zR_new, if_pos rfl]
      have key : ∀ (t : Nat) (C : String), (zTys T)[t]? = some (T t, .object C) → (Cond.classLink (zOwn y) i C).before args s = true → Cond.arrayOver (.object C) ∈ lw_tbl → x ≤ 13 →
          (zE T (znew μ x w.toNatClampNeg w.toNatClampNeg) (zS μ) = .inl (T t, w.toNatClampNeg, .inr (.inr (.inr (.inr (fun _ => none)))))) →
          W p l e R s m args below meth cc H locs cells slots Q (F0 m pc lsA (.int w :: r)) := by
        intro t C ht hlink hover hx13 hE9
        have hv : va_AO C s := va_AO.moved hW0.alike (va_AO.of (ha0 _ hover))
        refine W.anew hx hb hown hlink (va_AO.use hv) rfl (zdec hd) rfl hk.1 (by omega) hc1 hc2 fun cA kA comp f1 f2 f3 f4 => ?_
        generalize hH1 : H.push ({ cls := cA, slots := Array.replicate w.toNatClampNeg .null, vm := .none } : Cell) = H1
        have z1 : H1.size = H.size + 1 := by rw [← hH1, Array.size_push]
        have q1 : H1[H.size]? = some (arrV cA w.toNatClampNeg (fun _ => .null)) := by rw [← hH1, Array.getElem?_push_size, ← arrV_new]
        have o1 : ∀ q : Nat, q < H.size → H1[q]? = H[q]? := fun q hq => by rw [← hH1, Array.getElem?_push, if_neg (Nat.ne_of_lt hq)]
        obtain ⟨kT, cT, g1, g2, g3, g4⟩ := (hK.2 t _ ht).2
        have hcA : cA = T t := Option.some.inj (f1.symm.trans g4)
        have hzs := hH.2.1
        have kk := k H1 locs lsA (zHp_new hH z1 o1 hx13 (fun _ => by
          rw [hE9]
          show H1[zS μ]? = some (vp_cell _ _)
          rw [← hzs, q1, hcA]
          rfl)) hL hlo
        rw [← hzs] at kk
        exact kk
      rcases hO with ⟨⟨hx9, hw⟩, hm⟩ | ⟨⟨hx9, hw⟩, hm⟩
      · subst hx9
        exact key 2 RX0 rfl (hwd _ (zhas_in hw)) (zmem_in hm) (by decide) (by rw [zE11 (by rw [hkn]), hkn, hR0])
      · subst hx9
        exact key 3 "java/lang/Object" rfl (hwd _ (zhas_in hw)) (zmem_in hm) (by decide) (by rw [zE12 (by rw [hkn]), hkn, hR0])
    · cases h
  · cases h
theorem zs_checkcast {D : va_G} {T : Nat → ClassId} {B0 de mi : Nat} {U0 : State} {y pc n x v z i : Nat} {ws : List Nat} (hO : zok y (pc, (.checkcast i), n, x, v, z, ws) = true) : zGoal D T B0 de mi U0 y (pc, (.checkcast i), n, x, v, z, ws) := by
  intro p l e R s m args below meth cc hE hC ls st μ c h H locs lsA cells slots Q hH hL hlo hc1 hc2 k
  obtain ⟨hx, hb, hown, hwd, hml, hlk, hrt, hfr, hlc, hW0, hs0, hsz, hin, htb⟩ := hC
  simp only [zok, Bool.and_eq_true, decide_eq_true_eq] at hO
  obtain ⟨hd, -, hn, hx8, hw⟩ := hO
  subst hn
  simp only [zstep] at h
  split at h
  · cases h
    simp only [Nat.sub_self, Nat.add_zero] at k
    exact lv_castN hx hb (zdec hd) (k H locs lsA hH hL hlo)
  · next a r =>
    split at h
    · next hk =>
      cases h
      simp only [Nat.sub_self, Nat.add_zero] at k
      obtain ⟨cell, h1, h2, h3⟩ := zcls (va_K.moved hW0.alike hE.1) hH hx8 hk
      have kk := k H locs lsA hH hL hlo
      intro T9 hT9 X
      obtain ⟨vm', X', st⟩ := X.checkcastYes hx hown (hwd _ (zhas_in hw)) (by rw [hT9]; exact h1) h2 h3 (va_asg _ _) (g := F0 m pc lsA (.ref a :: r)) rfl rfl (by rw [hb]; exact zdec hd)
      obtain ⟨t, a1, b1⟩ := kk (T9.setVm vm') hT9 X'
      exact ⟨t, st t a1, b1⟩
    · cases h
  · cases h
theorem zSof {B0 : Nat} {U0 s : State} {H : Heap} {locs : List Loc} (hU : B0 = U0.heap.size) (h1 : ∀ q, q < B0 → H[q]? = U0.heap[q]?) (h2 : B0 ≤ H.size) (hlo : ∀ z ∈ locs, B0 ≤ z.base) : va_S (fun q => B0 ≤ q) U0.heap H locs :=
  ⟨by omega, fun q hq _ => h1 q (by omega), hlo⟩
theorem zs_getstatic {D : va_G} {T : Nat → ClassId} {B0 de mi : Nat} {U0 : State} {y pc n x v z i : Nat} {ws : List Nat} (hO : zok y (pc, (.getstatic i), n, x, v, z, ws) = true) : zGoal D T B0 de mi U0 y (pc, (.getstatic i), n, x, v, z, ws) := by
  intro p l e R s m args below meth cc hE hC ls st μ c h H locs lsA cells slots Q hH hL hlo hc1 hc2 k
  obtain ⟨hx, hb, hown, hwd, hml, hlk, hrt, hfr, hlc, hW0, hs0, hsz, hin, htb⟩ := hC
  simp only [zok, Bool.and_eq_true, decide_eq_true_eq] at hO
  obtain ⟨hd, -, hn, hw⟩ := hO
  subst hn
  simp only [zstep] at h
  cases h
  simp only [Nat.sub_self, Nat.add_zero] at k
  obtain ⟨hK, hU, ha0, hZ, -⟩ := hE
  obtain ⟨cf, kf, fi, f, a, cell, h1, h2, h3, h4, h5, h6, h7, h8⟩ := va_Z.moved hW0.alike hZ
  have hlt : a < B0 := Nat.lt_of_not_le h8
  exact W.gets hx hb hown (hwd _ (zhas_in hw)) h1 h2 h3 h4 (by rw [hH.2.2.1 a hlt]; exact h5) (fun e => by rw [e] at h6; cases h6) h7 rfl (zdec hd) (k H locs lsA hH hL hlo)
theorem zs_tableswitch {D : va_G} {T : Nat → ClassId} {B0 de mi : Nat} {U0 : State} {y pc n x v z : Nat} {d lo hi : Int} {offs : Array Int} {ws : List Nat} (hO : zok y (pc, (.tableswitch d lo hi offs), n, x, v, z, ws) = true) : zGoal D T B0 de mi U0 y (pc, (.tableswitch d lo hi offs), n, x, v, z, ws) := by
  intro p l e R s m args below meth cc hE hC ls st μ c h H locs lsA cells slots Q hH hL hlo hc1 hc2 k
  obtain ⟨hx, hb, hown, hwd, hml, hlk, hrt, hfr, hlc, hW0, hs0, hsz, hin, htb⟩ := hC
  simp only [zok, Bool.and_eq_true, decide_eq_true_eq, List.all_eq_true, List.mem_range] at hO
  obtain ⟨hd, -, ht, hlo0, hhi, hos, hall⟩ := hO
  subst hlo0
  simp only [zstep] at h
  split at h
  · next w r =>
    split at h
    · next hk =>
      cases h
      simp only [Nat.sub_self, Nat.add_zero] at k
      have hw : w.toInt = (w.toNatClampNeg : Int) := by
        have hz0 : (0 : Int) ≤ w.toInt := by
          have := Int32.not_lt.mp hk.1
          simpa using Int32.le_iff_toInt_le.mp this
        show w.toInt = ((w.toInt.toNat : Nat) : Int)
        omega
      have hj : w.toNatClampNeg < offs.size := by omega
      have hg : offs[(w.toInt - 0).toNat]? = some (offs.getD w.toNatClampNeg 0) := by
        have : (w.toInt - 0).toNat = w.toNatClampNeg := by omega
        rw [this, Array.getElem?_eq_getElem hj]
        simp [Array.getD, hj]
      exact lv_tableIn hx hb hd (by omega) (by omega) hg (hall _ hk.2) (k H locs lsA hH hL hlo)
    · next hk =>
      cases h
      simp only [Nat.sub_self, Nat.add_zero] at k
      have hout : w.toInt < 0 ∨ hi < w.toInt := by
        by_cases h0 : w < 0
        · left
          have := Int32.lt_iff_toInt_lt.mp h0
          simpa using this
        · right
          have hz0 : (0 : Int) ≤ w.toInt := by
            have := Int32.not_lt.mp h0
            simpa using Int32.le_iff_toInt_le.mp this
          have hge : ¬ w.toNatClampNeg < ws.length := fun q => hk ⟨h0, q⟩
          have hw : w.toInt = (w.toNatClampNeg : Int) := by
            show w.toInt = ((w.toInt.toNat : Nat) : Int)
            omega
          omega
      exact lv_tableOut hx hb hd hout ht (k H locs lsA hH hL hlo)
  · cases h
theorem zs_ldc {D : va_G} {T : Nat → ClassId} {B0 de mi : Nat} {U0 : State} {y pc n x v z i : Nat} {ws : List Nat} (hO : zok y (pc, (.ldc i), n, x, v, z, ws) = true) : zGoal D T B0 de mi U0 y (pc, (.ldc i), n, x, v, z, ws) := by
  intro p l e R s m args below meth cc hE hC ls st μ c h H locs lsA cells slots Q hH hL hlo hc1 hc2 k
  obtain ⟨hx, hb, hown, hwd, hml, hlk, hrt, hfr, hlc, hW0, hs0, hsz, hin, htb⟩ := hC
  simp only [zok, Bool.and_eq_true, decide_eq_true_eq] at hO
  obtain ⟨hd, -, hn, hw⟩ := hO
  subst hn
  simp only [zstep] at h
  by_cases hz : z = 5
  · rw [if_pos hz] at h hw
    cases h
    simp only [Nat.sub_self, Nat.add_zero] at k
    exact va_ldcM hx hb hown (hwd _ (zhas_in hw)) (va_Mi.moved hW0.alike hE.2.2.2.2.2.2.2) (zdec hd) (k H locs lsA hH hL hlo)
  · rw [if_neg hz] at h hw
    cases h
    simp only [Nat.sub_self, Nat.add_zero] at k
    exact lv_ldc hx hb hown (hwd _ (zhas_in hw)) (zdec hd) (k H locs lsA hH hL hlo)
theorem zs_objInit {D : va_G} {T : Nat → ClassId} {B0 de mi : Nat} {U0 : State} {y pc n x v z i : Nat} {ws : List Nat} (hO : zok y (pc, (.invokespecial i), n, x, v, z, ws) = true) (hz : z ≠ 101) : zGoal D T B0 de mi U0 y (pc, (.invokespecial i), n, x, v, z, ws) := by
  intro p l e R s m args below meth cc hE hC ls st μ c h H locs lsA cells slots Q hH hL hlo hc1 hc2 k
  obtain ⟨hx, hb, hown, hwd, hml, hlk, hrt, hfr, hlc, hW0, hs0, hsz, hin, htb⟩ := hC
  simp only [zok, Bool.and_eq_true, decide_eq_true_eq] at hO
  obtain ⟨hd, -, hn, hO⟩ := hO
  subst hn
  rw [if_neg hz] at hO
  simp only [zstep] at h
  by_cases h210 : z = 210
  · rw [if_pos h210] at h hO
    simp only [Bool.and_eq_true, decide_eq_true_eq] at hO
    obtain ⟨w0, w1, w2, hf1, hf2⟩ := hO
    split at h
    · next a r =>
      split at h
      · next hr =>
        cases h
        simp only [Nat.sub_self, Nat.add_zero] at k
        have := zsum hr
        exact W.objInit hx hb hown (hwd _ (zhas_in w0)) (hwd _ (zhas_in w1)) (hwd _ (zhas_in w2)) rfl (by rw [hml]; exact hL.1) rfl (zdec hd) (by omega) (by show 2 * 0 + _ + _ ≤ _; omega) (k H locs lsA hH hL hlo)
      · cases h
    · cases h
  · rw [if_neg h210] at hO
    cases hO
theorem zs_getClass {D : va_G} {T : Nat → ClassId} {B0 de mi : Nat} {U0 : State} {y pc n x v z i : Nat} {ws : List Nat} (hO : zok y (pc, (.invokevirtual i), n, x, v, z, ws) = true) (hz : z ≠ 100) : zGoal D T B0 de mi U0 y (pc, (.invokevirtual i), n, x, v, z, ws) := by
  intro p l e R s m args below meth cc hE hC ls st μ c h H locs lsA cells slots Q hH hL hlo hc1 hc2 k
  obtain ⟨hx, hb, hown, hwd, hml, hlk, hrt, hfr, hlc, hW0, hs0, hsz, hin, htb⟩ := hC
  simp only [zok, Bool.and_eq_true, decide_eq_true_eq] at hO
  obtain ⟨hd, -, hn, hO⟩ := hO
  subst hn
  rw [if_neg hz] at hO
  simp only [zstep] at h
  by_cases h215 : z = 215
  · rw [if_pos h215] at h hO
    simp only [Bool.and_eq_true, decide_eq_true_eq] at hO
    obtain ⟨w0, w1, w2, w3, hf1, hf2⟩ := hO
    split at h
    · next a r =>
      split at h
      · next hr =>
        cases h
        simp only [Nat.sub_self, Nat.add_zero] at k
        have := zsum hr.2
        have hK := va_K.moved hW0.alike hE.1
        have hP := zarr hH (a := a) (by omega) (by omega)
        rw [zE12 hr.1] at hP
        obtain ⟨a0, ha0⟩ := hE.2.2.1
        have hdecl : Cond.declares ⟨"java/lang/Object", "getClass", "()Ljava/lang/Class;"⟩ ∈ lw_tbl := by decide +kernel
        exact va_getC hx hb (by rw [hml]; exact hL.1.symm) hown (hwd _ (zhas_in w0)) (va_Dc.use (va_Dc.moved hW0.alike (va_Dc.of (ha0 _ hdecl)))) (hwd _ (zhas_in w1)) (hwd _ (zhas_in w2)) (hwd _ (zhas_in w3)) (va_Mi.moved hW0.alike hE.2.2.2.2.2.2.2)
          ⟨_, hP, rfl, va_nmO (hK.2 3 _ rfl).2 rfl⟩ (by omega) (by omega) (zdec hd) (k H locs lsA hH hL hlo)
      · cases h
    · cases h
  · rw [if_neg h215] at hO
    cases hO
end
section
/-! ===== soundness: static members that are the kit's rows; arraycopy of references ===== -/
theorem znn {z : Int32} (hz : ¬ z < 0) : z.toInt = (z.toNatClampNeg : Int) := by
  have hz0 : (0 : Int) ≤ z.toInt := by
    have := Int32.not_lt.mp hz
    simpa using Int32.le_iff_toInt_le.mp this
  show z.toInt = ((z.toInt.toNat : Nat) : Int)
  omega
theorem zcopy {p : Program} {l : Launch} {e : Env} {R : Room} {s : State} {m : MethodId} {args : Array Value} {below : List Frame} {meth : Method} {cc : Code} {H : Heap} {locs : List Loc} {cells slots : Nat} {Q : State → Prop} {D : va_G} {T : Nat → ClassId} {B0 de mi : Nat} {U0 : State} {μ : zM} {y pc i a b t : Nat} {sp dp k : Int32} {rest : List Value} {lsA : Array Slot}
    (hE : zEnv D T B0 de mi U0 l) (hC : zCtx D T B0 de mi U0 y p l R s m args meth cc) (hH : zHp D T B0 U0 μ H) (hL : lsA.size = zX y)
    (hlink : (Cond.methodLink (zOwn y) i arraycopyName).before args s = true) (hnat : (Cond.native arraycopyName).before args s = true) (hstat : (Cond.static arraycopyName).before args s = true) (hini : (Cond.initialized "java/lang/System").before args s = true)
    (hr : rest.length ≤ 4) (ha : (zK μ a).1 = 12) (hb : (zK μ b).1 = 12) (h1 : ¬ sp < 0) (h2 : ¬ dp < 0) (h3 : ¬ k < 0) (h4 : sp.toNatClampNeg + k.toNatClampNeg ≤ (zK μ a).2) (h5 : dp.toNatClampNeg + k.toNatClampNeg ≤ (zK μ b).2) (ht : t < 8) (hel : ∀ i v, i < k.toNatClampNeg → zR μ a (sp.toNatClampNeg + i) = some v → zK μ v = (t + 1, 0))
    (hfr : 1 ≤ R.frames) (hlo : 60 ≤ R.locals) (hdg : decode (zB y) pc = .ok (.invokestatic i, 3)) (hlocs : ∀ z ∈ locs, B0 ≤ z.base)
    (kk : ∀ (H1 : Heap) (locs1 : List Loc), zHp D T B0 U0 (zsW μ b (va_cpy (zR μ a) (zR μ b) sp.toNatClampNeg dp.toNatClampNeg k.toNatClampNeg)) H1 → (∀ z ∈ locs1, B0 ≤ z.base) → W p l e R s m args below meth cc H1 locs1 cells slots Q (F0 m (pc + 3) lsA rest)) :
    W p l e R s m args below meth cc H locs cells slots Q (F0 m pc lsA (.int k :: .int dp :: .ref b :: .int sp :: .ref a :: rest)) := by
  obtain ⟨hx, hbd, hown, hwd, hml, hlk, hrt, hfr', hlc, hW0, hs0, hsz, hin, htb⟩ := hC
  have hK := va_K.moved hW0.alike hE.1
  have hPa := zarr hH (a := a) (by omega) (by omega)
  have hPb := zarr hH (a := b) (by omega) (by omega)
  rw [zE12 ha] at hPa
  rw [zE12 hb] at hPb
  have hB : B0 ≤ b := hH.2.2.2.2.1 b ⟨by omega, by omega⟩
  have hsum := zsum hr
  intro T9 hT X
  have hc0 : H[a]? = some (vp_cell (T 3) ((zK μ a).2, .inr (.inr (.inr (.inr (zR μ a)))))) := hPa
  have hc1 : H[b]? = some (vp_cell (T 3) ((zK μ b).2, .inr (.inr (.inr (.inr (zR μ b)))))) := hPb
  obtain ⟨-, k0, hk0, cm0, hkk0⟩ := (hK.2 3 _ rfl).1 (zK μ a).2 (fun j => va_rf (zR μ a j))
  obtain ⟨-, k1, hk1, cm1, hkk1⟩ := (hK.2 3 _ rfl).1 (zK μ b).2 (fun j => va_rf (zR μ b j))
  obtain ⟨vm', X', step⟩ := X.arraycopy hx hown hlink hnat hstat hini (src := a) (dst := b) (cs := vp_cell (T 3) ((zK μ a).2, .inr (.inr (.inr (.inr (zR μ a)))))) (cd := vp_cell (T 3) ((zK μ b).2, .inr (.inr (.inr (.inr (zR μ b)))))) (srcPos := sp) (destPos := dp) (n := k) (by rw [hT]; exact hc0) (by rw [hT]; exact hc1)
    (fun _ h => by cases h) (fun _ h => by cases h) (fun h => by cases h) (fun h => by cases h) hk0 hk1 hkk0 hkk1 rfl h1 h2 h3
    (by rw [znn h1, znn h3]; show ¬ _ > ((arrV (T 3) (zK μ a).2 (fun j => va_rf (zR μ a j))).slots.size : Int); rw [arrV_size]; omega)
    (by rw [znn h2, znn h3]; show ¬ _ > ((arrV (T 3) (zK μ b).2 (fun j => va_rf (zR μ b j))).slots.size : Int); rw [arrV_size]; omega)
    (fun vm₁ hal j hj => by
      have e9 : (vp_cell (T 3) ((zK μ a).2, .inr (.inr (.inr (.inr (zR μ a)))))).slots.getD (sp.toNatClampNeg + j) .null = va_rf (zR μ a (sp.toNatClampNeg + j)) := by
        show (arrV (T 3) (zK μ a).2 (fun j => va_rf (zR μ a j))).slots.getD _ _ = _
        rw [Array.getD_eq_getD_getElem?, arrV_read _ _ (by omega)]
        rfl
      rw [e9]
      cases hv : zR μ a (sp.toNatClampNeg + j) with
      | none => exact ⟨rfl, trivial⟩
      | some v =>
        obtain ⟨cellV, g1, g2, g3⟩ := zcls hK hH ht (hel j v hj hv)
        obtain ⟨kA, comp, r1, r2, r3, -⟩ := (hK.2 3 _ rfl).2
        cases hk1.symm.trans r1
        cases hkk1.symm.trans r2
        obtain ⟨kC, hkC, -⟩ := Vm.findClass_spec g3
        obtain ⟨kE, hkE, -⟩ := Vm.findClass_spec r3
        obtain ⟨kC', hkC', -⟩ := hal.2.2 _ _ hkC
        obtain ⟨kE', hkE', -⟩ := hal.2.2 _ _ hkE
        refine ⟨rfl, cellV, (show T9.heap[v]? = some cellV by rw [hT]; exact g1), (fun q h => by rw [h] at g2; cases g2), ⟨kC', hkC'⟩, ?_, ?_⟩
        · exact ⟨kE', hkE'⟩
        · show vm₁.assignable _ _ = true
          rw [hal.assignable]
          exact zasg hE hW0 ht _ _ r3 g3)
    (g := F0 m pc lsA (.int k :: .int dp :: .ref b :: .int sp :: .ref a :: rest)) rfl (by rw [hml]; exact hL) (rest := rest) rfl (by rw [hbd]; exact hdg) hfr (by have hw : nativeFrameWords "java/lang/System" "arraycopy" 5 ≤ 30 := (by decide); show 2 * 0 + _ + _ ≤ _; omega)
  have e1 : copied (vp_cell (T 3) ((zK μ a).2, .inr (.inr (.inr (.inr (zR μ a)))))) (vp_cell (T 3) ((zK μ b).2, .inr (.inr (.inr (.inr (zR μ b)))))) sp dp k = vp_cell (T 3) ((zK μ b).2, .inr (.inr (.inr (.inr (va_cpy (zR μ a) (zR μ b) sp.toNatClampNeg dp.toNatClampNeg k.toNatClampNeg))))) := by
    rw [vp_cell_q, vp_cell_q, vp_cell_q]
    exact va_copied (fun z => va_rf z) (T 3) (T 3) (zR μ a) (zR μ b) h4
  rw [e1] at X' step
  have hl : b < H.size := (Array.getElem?_eq_some_iff.mp hc1).1
  have oq : ∀ q : Nat, q ≠ b → (H.setIfInBounds b (vp_cell (T 3) ((zK μ b).2, .inr (.inr (.inr (.inr (va_cpy (zR μ a) (zR μ b) sp.toNatClampNeg dp.toNatClampNeg k.toNatClampNeg)))))))[q]? = H[q]? := fun q hq => by simp [Array.getElem?_setIfInBounds, Ne.symm hq]
  obtain ⟨t9, a1, b1⟩ := kk _ _ (zHp_put (μ' := zsW μ b (va_cpy (zR μ a) (zR μ b) sp.toNatClampNeg dp.toNatClampNeg k.toNatClampNeg)) hH hB (H1 := H.setIfInBounds b (vp_cell (T 3) ((zK μ b).2, .inr (.inr (.inr (.inr (va_cpy (zR μ a) (zR μ b) sp.toNatClampNeg dp.toNatClampNeg k.toNatClampNeg))))))) (by simp) oq (zat_arr (by rw [zK_sW]; omega) (by
      rw [zE12 (by rw [zK_sW]; exact hb), zK_sW]
      have hrow : zR (zsW μ b (va_cpy (zR μ a) (zR μ b) sp.toNatClampNeg dp.toNatClampNeg k.toNatClampNeg)) b = va_cpy (zR μ a) (zR μ b) sp.toNatClampNeg dp.toNatClampNeg k.toNatClampNeg := by
        funext j
        show (if b = b then _ else _) = _
        rw [if_pos rfl]
      rw [hrow]
      show (H.setIfInBounds b _)[b]? = some _
      simp [Array.getElem?_setIfInBounds, hl])) rfl (fun _ _ => rfl) (fun q hq => by funext j; show (if q = b then _ else _) = _; rw [if_neg hq]; rfl) (fun _ _ => rfl) rfl)
    (fun q hq => by
      rcases List.mem_append.mp hq with h | h
      · exact hlocs q h
      · obtain ⟨z, -, hz⟩ := List.mem_map.mp h
        rw [← hz]
        exact hB) _ (by rw [← hT]; rfl) X'
  exact ⟨t9, step t9 a1, b1⟩
theorem zs_static {D : va_G} {T : Nat → ClassId} {B0 de mi : Nat} {U0 : State} {y pc n x v z i : Nat} {ws : List Nat} (hO : zok y (pc, (.invokestatic i), n, x, v, z, ws) = true) (hz : ¬ (z = 102 ∨ z = 103 ∨ z = 104)) : zGoal D T B0 de mi U0 y (pc, (.invokestatic i), n, x, v, z, ws) := by
  intro p l e R s m args below meth cc hE hC ls st μ c h H locs lsA cells slots Q hH hL hlo hc1 hc2 k
  obtain ⟨hx, hb, hown, hwd, hml, hlk, hrt, hfr, hlc, hW0, hs0, hsz, hin, htb⟩ := id hC
  simp only [zok, Bool.and_eq_true, decide_eq_true_eq] at hO
  obtain ⟨hd, -, hn, hO⟩ := hO
  subst hn
  rw [if_neg hz] at hO
  simp only [zstep] at h
  by_cases h211 : z = 211
  · rw [if_pos h211] at h hO
    simp only [Bool.and_eq_true, decide_eq_true_eq] at hO
    obtain ⟨w0, w1, w2, w3, hf1, hf2⟩ := hO
    split at h
    · split at h
      · next hr =>
        cases h
        simp only [Nat.sub_self, Nat.add_zero] at k hc1 hc2
        have := zsum hr
        exact va_mmax hx hb (by rw [hml]; exact hL.1.symm) hown (hwd _ (zhas_in w0)) (hwd _ (zhas_in w1)) (hwd _ (zhas_in w2)) (hwd _ (zhas_in w3)) (by omega) (by omega) hc1 hc2 (zdec hd) (k H locs lsA hH hL hlo)
      · cases h
    · cases h
  rw [if_neg h211] at h hO
  by_cases h212 : z = 212
  · rw [if_pos h212] at h hO
    simp only [Bool.and_eq_true, decide_eq_true_eq] at hO
    obtain ⟨w0, w1, w2, w3, hf1, hf2⟩ := hO
    split at h
    · split at h
      · next hr =>
        cases h
        simp only [Nat.sub_self, Nat.add_zero] at k hc1 hc2
        have := zsum hr
        exact va_mmin hx hb (by rw [hml]; exact hL.1.symm) hown (hwd _ (zhas_in w0)) (hwd _ (zhas_in w1)) (hwd _ (zhas_in w2)) (hwd _ (zhas_in w3)) (by omega) (by omega) hc1 hc2 (zdec hd) (k H locs lsA hH hL hlo)
      · cases h
    · cases h
  rw [if_neg h212] at h hO
  by_cases h213 : z = 213
  · rw [if_pos h213] at h hO
    simp only [Bool.and_eq_true, decide_eq_true_eq] at hO
    obtain ⟨w0, w1, w2, w3, hf1, hf2⟩ := hO
    split at h
    · split at h
      · next hr =>
        cases h
        simp only [Nat.sub_self, Nat.add_zero] at k hc1 hc2
        have := zsum hr
        exact va_mabs hx hb (by rw [hml]; exact hL.1.symm) hown (hwd _ (zhas_in w0)) (hwd _ (zhas_in w1)) (hwd _ (zhas_in w2)) (hwd _ (zhas_in w3)) (by omega) (by omega) hc1 hc2 (zdec hd) (k H locs lsA hH hL hlo)
      · cases h
    · cases h
  rw [if_neg h213] at h hO
  by_cases h214 : z = 214
  · rw [if_pos h214] at h hO
    simp only [Bool.and_eq_true, decide_eq_true_eq] at hO
    obtain ⟨w0, w1, w2, w3, hf1, hf2⟩ := hO
    split at h
    · next kn dp b sp a r =>
      by_cases hcd : (r.length ≤ 4 ∧ (zK μ a).1 = 12 ∧ (zK μ b).1 = 12 ∧ ¬ sp < 0 ∧ ¬ dp < 0 ∧ ¬ kn < 0 ∧ sp.toNatClampNeg + kn.toNatClampNeg ≤ (zK μ a).2 ∧ dp.toNatClampNeg + kn.toNatClampNeg ≤ (zK μ b).2 ∧ ∃ t, t < 8 ∧ ∀ i v, i < kn.toNatClampNeg → zR μ a (sp.toNatClampNeg + i) = some v → zK μ v = (t + 1, 0))
      · rw [if_pos hcd] at h
        cases h
        simp only [zC_sW, zL_sW, Nat.sub_self, Nat.add_zero] at k
        obtain ⟨g0, g1, g2, g3, g4, g5, g6, g7, t, ht, hel⟩ := hcd
        exact zcopy hE hC hH hL.1 (hwd _ (zhas_in w0)) (hwd _ (zhas_in w1)) (hwd _ (zhas_in w2)) (hwd _ (zhas_in w3)) g0 g1 g2 g3 g4 g5 g6 g7 ht hel (by omega) (by omega) (zdec hd) hlo (fun H1 locs1 q1 q2 => k H1 locs1 lsA q1 hL q2)
      · rw [if_neg hcd] at h
        cases h
    · cases h
  rw [if_neg h214] at hO
  cases hO
end
section
/-! ===== END ===== -/
/-! ===== BEGIN a constructor that throws (launches without stack traces) ===== -/
section VXIA
variable {p : Program} {l : Launch} {e : Env} {R : Room} {s : State} {m : MethodId} {args : Array Value} {below : List Frame} {meth : Method} {c : Code} {T : State} {locs : List Loc} {cells slots : Nat}
theorem vx_callI (X : Stand p l e R s m args below meth c T locs cells slots) (hexec : p.tables.exec = Jvm.exec) {own : String} {index : Nat} {y : MethodName} {bytes : ByteArray} {maxL : Nat}
    (hown : s.vm.findClass own = some m.cls) (hy1 : y.name = "<init>") (hlink : (Cond.methodLink own index y).before args s = true) (hinst : (Cond.instanceMethod y).before args s = true)
    (hcode : (Cond.code y bytes maxL none).before args s = true) (hy : y.cls ≠ "java/lang/invoke/MethodHandle" ∧ y.cls ≠ "java/lang/invoke/VarHandle")
    {W9 : Nat} {Pre : Pt → Array Value → Prop} {Post : Pt → Array Value → Option Value → Pt → Prop} {PostX : Pt → Array Value → Addr → Pt → Prop} (hK : vx_Back l R p e below s args y 3 W9 Pre Post PostX)
    {g : JFrame} (hg : g.method = m) (hsize : g.locals.size = c.maxLocals) {a : Addr} {argsL rest : List Value} (hlen : ∀ sig, parseMethodDescriptor y.desc = some sig → argsL.length = sig.parameters.length)
    (hstack : g.stack = argsL.reverse ++ .ref a :: rest) (hW : 2 * g.monitorRoom + (rest.map fun v => v.category).sum ≤ W9) (hdg : decode c.code g.pc = .ok (.invokespecial index, 3))
    (hpre : ∀ vm₁, s.WarmedH vm₁ → Pre ⟨T.setVm vm₁, locs, cells, slots⟩ (Value.ref a :: argsL).toArray) :
    (∃ (v : Option Value) (vm₁ : Vm) (B : Pt), s.WarmedH vm₁ ∧ Stand p l e R s m args below meth c B.U B.locs B.cells B.slots ∧ Post ⟨T.setVm vm₁, locs, cells, slots⟩ (Value.ref a :: argsL).toArray v B ∧
      ∀ target, Steps p.tables e below (B.U.setTop { g with pc := g.pc + 3, stack := v.toList ++ rest }) target → Steps p.tables e below (T.setTop g) target) ∨
    (∃ (q : Addr) (vm₁ : Vm) (B : Pt), s.WarmedH vm₁ ∧ Stand p l e R s m args below meth c B.U B.locs B.cells B.slots ∧ PostX ⟨T.setVm vm₁, locs, cells, slots⟩ (Value.ref a :: argsL).toArray q B ∧
      Steps p.tables e below (T.setTop g) ((B.U.setTop { g with stack := rest }).pushFrame (.throwing q))) := by
  subst hg
  have hpl : e.platform.magicAccessors = ({} : Platform).magicAccessors := by rw [X.admits.platform]
  obtain ⟨mk, methM, cM, kP, vm₁, hnamed, hmethM, hcodeM, -, hlocalsM, -, hkP, -, hW₁, hstep₁⟩ := Steps.initColdArgs (e := e) X.here hexec X.warmed hpl hown hy1 hy hlink hinst hcode (f := g) rfl hlen hstack hdg
  have X₁ := X.noted hW₁
  rcases hK g.method meth c ⟨T.setVm vm₁, locs, cells, slots⟩ { g with stack := rest } (.invokespecial index) mk (Value.ref a :: argsL).toArray X₁ rfl hsize hdg hW (X₁.named hnamed) (hpre vm₁ X₁.warmed) with ⟨v, B, X', hpost, hsteps⟩ | ⟨q, B, X', hpost, hsteps⟩
  · exact Or.inl ⟨v, vm₁, B, X₁.warmed, X', hpost, fun target h => hstep₁ _ fun acts => by rw [doInvoke_state]; exact hsteps.trans h⟩
  · exact Or.inr ⟨q, vm₁, B, X₁.warmed, X', hpost, hstep₁ _ fun acts => by rw [doInvoke_state]; exact hsteps⟩
end VXIA
section VXIB
variable {p : Program} {l : Launch} {e : Env} {R : Room} {s : State} {m : MethodId} {args : Array Value} {below : List Frame} {meth : Method} {c : Code} {H : Heap} {locs : List Loc} {cells slots : Nat}
variable {y : MethodName} {bytes cc : ByteArray} {maxL nL mc ms n index : Nat} {ret : Option FieldType} {ws : List Cond} {rm : Room} {Pc : Array Value → State → Prop} {Qc : Array Value → State → Outcome → State → Prop} {XC : String → State → State → Prop} {free : Addr → Prop} {Ts : List Cond} {own C : String} {b : Addr} {As rest : List Value} {g : JFrame}
theorem vx_runI (S : CallFix p m c cc nL s args Ts own) (hM : vx_Met l y ws rm Pc Qc XC mc ms free) (cw : CallB R s args own index y bytes maxL none ws rm mc ms n ∧ y.name = "<init>" ∧ (Cond.instanceMethod y).before args s = true) (hp : PreS s H Pc (.ref b :: As))
    (hg : g.method = m) (hn : As.length = n) (hsize : g.locals.size = nL) (hstack : g.stack = As.reverse ++ .ref b :: rest) (hW : 2 * g.monitorRoom + (rest.map fun v => v.category).sum ≤ 8) (hdg : decode cc g.pc = .ok (.invokespecial index, 3)) (hf : cells + mc ≤ R.cells ∧ slots + ms ≤ R.slots) :
    vx_Run p l e R s m args below meth c H locs cells slots mc ms g rest (Qc (Value.ref b :: As).toArray) XC free := by
  have hK : vx_Back l R p e below s args y 3 8 (PreOf R mc ms Pc) (PostOf Qc mc ms free) (vx_Post XC mc ms free) := vx_callBack cw.1 hM hp.1
  obtain ⟨⟨-, -, -, -, -, -, hcode, -, hy, hlen, hl⟩, hy1, hin⟩ := cw
  obtain ⟨hx, hb, hml, ho, -⟩ := S
  have hPc := hp.2
  intro T hT X
  rcases vx_callI X hx (bytes := bytes) (maxL := maxL) ho hy1 hl hin hcode hy hK hg (hsize.trans hml.symm) (a := b) (argsL := As) (rest := rest) (fun sig h => hn.trans (hlen sig h)) hstack hW (by rw [hb]; exact hdg)
    (fun vm₁ hW₁ => ⟨hf.1, hf.2, hPc (T.setVm vm₁) hT hW₁⟩) with ⟨v, vm₁, ⟨U', l2, c2, s2⟩, hW₁, X', ⟨g', mk, t, L, e1, e2, hq, h1, hL, h2, h3⟩, st⟩ | ⟨q, vm₁, ⟨U', l2, c2, s2⟩, hW₁, X', ⟨g', mk, t, L, E, ce, e1, e2, hq, hce, hcv, hcl, h1, hL, h2, h3⟩, st⟩
  · dsimp only [Pt.U, Pt.locs, Pt.cells, Pt.slots] at X' e1 e2 h1 h2 h3 st
    subst h1; subst h2; subst h3
    exact Or.inl ⟨v, (T.setVm vm₁).calling g' mk (Value.ref b :: As).toArray, t, U', L, hT, X', hL, e1, e2, hq, st⟩
  · dsimp only [Pt.U, Pt.locs, Pt.cells, Pt.slots] at X' e1 e2 h1 h2 h3 st hcl
    subst h1; subst h2; subst h3
    exact Or.inr ⟨q, (T.setVm vm₁).calling g' mk (Value.ref b :: As).toArray, t, U', L, E, ce, hT, X', hL, e1, e2, hq, hce, hcv, vx_cls hW₁ hcl, st⟩
end VXIB
/-! ===== BEGIN a private method of a nest mate that may throw (follows va_callVN, va_callSN, va_runVN, va_runSN) ===== -/
section
variable {p : Program} {l : Launch} {e : Env} {R : Room} {s : State} {m : MethodId} {args : Array Value} {below : List Frame} {meth : Method} {c : Code} {H : Heap} {locs : List Loc} {cells slots : Nat}
variable {T : State}
theorem vx_callVN (X : Stand p l e R s m args below meth c T locs cells slots) (hexec : p.tables.exec = Jvm.exec) {own C : String} {index : Nat} {host : String} {y : MethodName} {bytes : ByteArray} {maxL : Nat} {ret : Option FieldType}
    (hown : s.vm.findClass own = some m.cls) (hlink : (Cond.methodLinkNest own index y host).before args s = true) (hinst : (Cond.instanceMethod y).before args s = true) (hsel : (Cond.selects C y y).before args s = true)
    (hcode : (Cond.code y bytes maxL ret).before args s = true) (hy : y.cls ≠ "java/lang/invoke/MethodHandle" ∧ y.cls ≠ "java/lang/invoke/VarHandle")
    {W : Nat} {Pre : Pt → Array Value → Prop} {Post : Pt → Array Value → Option Value → Pt → Prop} {PostX : Pt → Array Value → Addr → Pt → Prop} (hK : vx_Back l R p e below s args y 3 W Pre Post PostX)
    {b : Addr} {cellB : Cell} (hcell : T.heap[b]? = some cellB) (hobj : cellB.vm.isStatics = false) (hcls : s.vm.findClass C = some cellB.cls)
    {g : JFrame} (hg : g.method = m) (hsize : g.locals.size = c.maxLocals) {argsL rest : List Value} (hlen : ∀ sig, parseMethodDescriptor y.desc = some sig → argsL.length = sig.parameters.length)
    (hstack : g.stack = argsL.reverse ++ .ref b :: rest) (hW : 2 * g.monitorRoom + (rest.map fun v => v.category).sum ≤ W) (hdg : decode c.code g.pc = .ok (.invokevirtual index, 3))
    (hpre : ∀ vm₁, s.WarmedH vm₁ → Pre ⟨T.setVm vm₁, locs, cells, slots⟩ (Value.ref b :: argsL).toArray) :
    (∃ (v : Option Value) (vm₁ : Vm) (B : Pt), s.WarmedH vm₁ ∧ Stand p l e R s m args below meth c B.U B.locs B.cells B.slots ∧ Post ⟨T.setVm vm₁, locs, cells, slots⟩ (Value.ref b :: argsL).toArray v B ∧
      ∀ target, Steps p.tables e below (B.U.setTop { g with pc := g.pc + 3, stack := v.toList ++ rest }) target → Steps p.tables e below (T.setTop g) target) ∨
    (∃ (q : Addr) (vm₁ : Vm) (B : Pt), s.WarmedH vm₁ ∧ Stand p l e R s m args below meth c B.U B.locs B.cells B.slots ∧ PostX ⟨T.setVm vm₁, locs, cells, slots⟩ (Value.ref b :: argsL).toArray q B ∧
      Steps p.tables e below (T.setTop g) ((B.U.setTop { g with stack := rest }).pushFrame (.throwing q))) := by
  obtain ⟨mk, methM, hnamed, hmethM, hstM, habM⟩ := Cond.instanceMethod_spec hinst
  obtain ⟨methM', cM, hmethM', -, -, -, -, -, -, hsigM⟩ := Cond.code_spec hnamed hcode
  cases hmethM.symm.trans hmethM'
  obtain ⟨c2, r2, m2, q1, q2, q3, q4, kP, hkP, hkPi⟩ := Cond.selects_spec hsel
  cases hcls.symm.trans q1
  cases (State.methodFound?_of_named hnamed hy).symm.trans q2
  cases hnamed.symm.trans q3
  have hselP : selectMethod e.platform s.vm cellB.cls mk = .method mk := by rw [Launch.admits_selectMethod X.admits]; exact q4
  obtain ⟨vm₁, X₁, hstep₁⟩ := X.invokevirtualNest hexec hown hlink hnamed hmethM hstM hkP hkPi hy (a := b) (cell := cellB) hcell
    (fun z h => by rw [h] at hobj; cases hobj) hselP hmethM habM hkP hkPi (g := g) hg (argsL := argsL) (rest := rest) (hlen _ hsigM) hstack hdg
  rcases hK m meth c ⟨T.setVm vm₁, locs, cells, slots⟩ { g with stack := rest } (.invokevirtual index) mk (Value.ref b :: argsL).toArray X₁ hg hsize hdg hW (X₁.named hnamed) (hpre vm₁ X₁.warmed) with ⟨v, B, X', hpost, hsteps⟩ | ⟨q, B, X', hpost, hsteps⟩
  · exact Or.inl ⟨v, vm₁, B, X₁.warmed, X', hpost, fun target h => hstep₁ _ fun acts => by rw [doInvoke_state]; exact hsteps.trans h⟩
  · exact Or.inr ⟨q, vm₁, B, X₁.warmed, X', hpost, hstep₁ _ fun acts => by rw [doInvoke_state]; exact hsteps⟩
theorem vx_callSN (X : Stand p l e R s m args below meth c T locs cells slots) (hexec : p.tables.exec = Jvm.exec) {own : String} {index : Nat} {host : String} {y : MethodName} {bytes : ByteArray} {maxL : Nat} {ret : Option FieldType}
    (hown : s.vm.findClass own = some m.cls) (hlink : (Cond.methodLinkNest own index y host).before args s = true) (hstat : (Cond.static y).before args s = true) (hinit : (Cond.initialized y.cls).before args s = true)
    (hcode : (Cond.code y bytes maxL ret).before args s = true) (hy : y.cls ≠ "java/lang/invoke/MethodHandle" ∧ y.cls ≠ "java/lang/invoke/VarHandle")
    {W : Nat} {Pre : Pt → Array Value → Prop} {Post : Pt → Array Value → Option Value → Pt → Prop} {PostX : Pt → Array Value → Addr → Pt → Prop} (hK : vx_Back l R p e below s args y 3 W Pre Post PostX)
    {g : JFrame} (hg : g.method = m) (hsize : g.locals.size = c.maxLocals) {argsL rest : List Value} (hlen : ∀ sig, parseMethodDescriptor y.desc = some sig → argsL.length = sig.parameters.length)
    (hstack : g.stack = argsL.reverse ++ rest) (hW : 2 * g.monitorRoom + (rest.map fun v => v.category).sum ≤ W) (hdg : decode c.code g.pc = .ok (.invokestatic index, 3))
    (hpre : ∀ vm₁, s.WarmedH vm₁ → Pre ⟨T.setVm vm₁, locs, cells, slots⟩ argsL.toArray) :
    (∃ (v : Option Value) (vm₁ : Vm) (B : Pt), s.WarmedH vm₁ ∧ Stand p l e R s m args below meth c B.U B.locs B.cells B.slots ∧ Post ⟨T.setVm vm₁, locs, cells, slots⟩ argsL.toArray v B ∧
      ∀ target, Steps p.tables e below (B.U.setTop { g with pc := g.pc + 3, stack := v.toList ++ rest }) target → Steps p.tables e below (T.setTop g) target) ∨
    (∃ (q : Addr) (vm₁ : Vm) (B : Pt), s.WarmedH vm₁ ∧ Stand p l e R s m args below meth c B.U B.locs B.cells B.slots ∧ PostX ⟨T.setVm vm₁, locs, cells, slots⟩ argsL.toArray q B ∧
      Steps p.tables e below (T.setTop g) ((B.U.setTop { g with stack := rest }).pushFrame (.throwing q))) := by
  obtain ⟨mk, hnamed⟩ := Cond.code_named hcode
  obtain ⟨methM, cM, hmethM, -, -, -, -, -, -, hsigM⟩ := Cond.code_spec hnamed hcode
  have hstatic : methM.isStatic = true := Cond.static_spec hnamed hmethM hstat
  obtain ⟨kP, hkP, -⟩ := className_of_methodNamed hnamed
  have hinitP : kP.init = .initialized := Cond.initialized_spec (findClass_of_methodNamed hnamed) hkP hinit
  obtain ⟨vm₁, X₁, hstep₁⟩ := X.invokestaticNest hexec hown hlink hnamed hmethM hstatic hkP hinitP hy (g := g) hg (argsL := argsL) (rest := rest) (hlen _ hsigM) hstack hdg
  rcases hK m meth c ⟨T.setVm vm₁, locs, cells, slots⟩ { g with stack := rest } (.invokestatic index) mk argsL.toArray X₁ hg hsize hdg hW (X₁.named hnamed) (hpre vm₁ X₁.warmed) with ⟨v, B, X', hpost, hsteps⟩ | ⟨q, B, X', hpost, hsteps⟩
  · exact Or.inl ⟨v, vm₁, B, X₁.warmed, X', hpost, fun target h => hstep₁ _ fun acts => by rw [doInvoke_state]; exact hsteps.trans h⟩
  · exact Or.inr ⟨q, vm₁, B, X₁.warmed, X', hpost, hstep₁ _ fun acts => by rw [doInvoke_state]; exact hsteps⟩
theorem vx_runVN {y : MethodName} {bytes cc : ByteArray} {maxL nL mc ms n index : Nat} {ret : Option FieldType} {ws : List Cond} {rm : Room} {Pc : Array Value → State → Prop} {Qc : Array Value → State → Outcome → State → Prop} {XC : String → State → State → Prop} {free : Addr → Prop} {Ts : List Cond} {own C host : String} {b : Addr} {As rest : List Value} {g : JFrame}
    (S : CallFix p m c cc nL s args Ts own) (hM : vx_Met l y ws rm Pc Qc XC mc ms free) (cw : va_CN R s args own index y host bytes maxL ret ws rm mc ms n ∧ (Cond.instanceMethod y).before args s = true ∧ (Cond.selects C y y).before args s = true) (hp : PreV s H C b Pc As)
    (hg : g.method = m) (hn : As.length = n) (hsize : g.locals.size = nL) (hstack : g.stack = As.reverse ++ .ref b :: rest) (hW : 2 * g.monitorRoom + (rest.map fun v => v.category).sum ≤ 8) (hdg : decode cc g.pc = .ok (.invokevirtual index, 3)) (hf : cells + mc ≤ R.cells ∧ slots + ms ≤ R.slots) :
    vx_Run p l e R s m args below meth c H locs cells slots mc ms g rest (Qc (Value.ref b :: As).toArray) XC free := by
  obtain ⟨⟨⟨hrc, hrs, hfr, hlo, hws, hcw⟩, hcode, hini, hy, hlen, hl⟩, hx1, hx2⟩ := cw
  have hK : vx_Back l R p e below s args y 3 8 (PreOf R mc ms Pc) (PostOf Qc mc ms free) (vx_Post XC mc ms free) := vx_back (bytes := bytes) (maxL := maxL) (ret := ret) hM hp.1 hrc hrs hfr hlo hws hcw (fun a' U hW => word_at hW (Or.inl (by first | rfl | simp [Cond.onTables, Cond.keeps, Cond.steady])) hini)
  obtain ⟨hx, hb, hml, ho, -⟩ := S
  obtain ⟨-, ⟨cellB, hcB, hoB, hclB⟩, hPc⟩ := hp
  intro T hT X
  rcases vx_callVN X hx (C := C) (bytes := bytes) (maxL := maxL) (ret := ret) ho hl hx1 hx2 hcode hy hK (by rw [hT]; exact hcB) hoB hclB hg (hsize.trans hml.symm) (argsL := As) (rest := rest) (fun sig h => hn.trans (hlen sig h)) hstack hW (by rw [hb]; exact hdg)
    (fun vm₁ hW₁ => ⟨hf.1, hf.2, hPc (T.setVm vm₁) hT hW₁⟩) with ⟨v, vm₁, ⟨U', l2, c2, s2⟩, hW₁, X', ⟨g', mk, t, L, e1, e2, hq, h1, hL, h2, h3⟩, st⟩ | ⟨q, vm₁, ⟨U', l2, c2, s2⟩, hW₁, X', ⟨g', mk, t, L, E, ce, e1, e2, hq, hce, hcv, hcl, h1, hL, h2, h3⟩, st⟩
  · dsimp only [Pt.U, Pt.locs, Pt.cells, Pt.slots] at X' e1 e2 h1 h2 h3 st
    subst h1; subst h2; subst h3
    exact Or.inl ⟨v, (T.setVm vm₁).calling g' mk (Value.ref b :: As).toArray, t, U', L, hT, X', hL, e1, e2, hq, st⟩
  · dsimp only [Pt.U, Pt.locs, Pt.cells, Pt.slots] at X' e1 e2 h1 h2 h3 st hcl
    subst h1; subst h2; subst h3
    exact Or.inr ⟨q, (T.setVm vm₁).calling g' mk (Value.ref b :: As).toArray, t, U', L, E, ce, hT, X', hL, e1, e2, hq, hce, hcv, vx_cls hW₁ hcl, st⟩
theorem vx_runSN {y : MethodName} {bytes cc : ByteArray} {maxL nL mc ms n index : Nat} {ret : Option FieldType} {ws : List Cond} {rm : Room} {Pc : Array Value → State → Prop} {Qc : Array Value → State → Outcome → State → Prop} {XC : String → State → State → Prop} {free : Addr → Prop} {Ts : List Cond} {own host : String} {As rest : List Value} {g : JFrame}
    (S : CallFix p m c cc nL s args Ts own) (hM : vx_Met l y ws rm Pc Qc XC mc ms free) (cw : va_CN R s args own index y host bytes maxL ret ws rm mc ms n ∧ (Cond.static y).before args s = true ∧ True) (hp : PreS s H Pc As)
    (hg : g.method = m) (hn : As.length = n) (hsize : g.locals.size = nL) (hstack : g.stack = As.reverse ++ rest) (hW : 2 * g.monitorRoom + (rest.map fun v => v.category).sum ≤ 8) (hdg : decode cc g.pc = .ok (.invokestatic index, 3)) (hf : cells + mc ≤ R.cells ∧ slots + ms ≤ R.slots) :
    vx_Run p l e R s m args below meth c H locs cells slots mc ms g rest (Qc As.toArray) XC free := by
  obtain ⟨⟨⟨hrc, hrs, hfr, hlo, hws, hcw⟩, hcode, hini, hy, hlen, hl⟩, hx1, hx2⟩ := cw
  have hK : vx_Back l R p e below s args y 3 8 (PreOf R mc ms Pc) (PostOf Qc mc ms free) (vx_Post XC mc ms free) := vx_back (bytes := bytes) (maxL := maxL) (ret := ret) hM hp.1 hrc hrs hfr hlo hws hcw (fun a' U hW => word_at hW (Or.inl (by first | rfl | simp [Cond.onTables, Cond.keeps, Cond.steady])) hini)
  obtain ⟨hx, hb, hml, ho, -⟩ := S
  have hPc := hp.2
  intro T hT X
  rcases vx_callSN X hx (bytes := bytes) (maxL := maxL) (ret := ret) ho hl hx1 hini hcode hy hK hg (hsize.trans hml.symm) (argsL := As) (rest := rest) (fun sig h => hn.trans (hlen sig h)) hstack hW (by rw [hb]; exact hdg)
    (fun vm₁ hW₁ => ⟨hf.1, hf.2, hPc (T.setVm vm₁) hT hW₁⟩) with ⟨v, vm₁, ⟨U', l2, c2, s2⟩, hW₁, X', ⟨g', mk, t, L, e1, e2, hq, h1, hL, h2, h3⟩, st⟩ | ⟨q, vm₁, ⟨U', l2, c2, s2⟩, hW₁, X', ⟨g', mk, t, L, E, ce, e1, e2, hq, hce, hcv, hcl, h1, hL, h2, h3⟩, st⟩
  · dsimp only [Pt.U, Pt.locs, Pt.cells, Pt.slots] at X' e1 e2 h1 h2 h3 st
    subst h1; subst h2; subst h3
    exact Or.inl ⟨v, (T.setVm vm₁).calling g' mk As.toArray, t, U', L, hT, X', hL, e1, e2, hq, st⟩
  · dsimp only [Pt.U, Pt.locs, Pt.cells, Pt.slots] at X' e1 e2 h1 h2 h3 st hcl
    subst h1; subst h2; subst h3
    exact Or.inr ⟨q, (T.setVm vm₁).calling g' mk As.toArray, t, U', L, E, ce, hT, X', hL, e1, e2, hq, hce, hcv, vx_cls hW₁ hcl, st⟩
end
end
section
/-! ===== every simple instruction keeps the run ===== -/
set_option maxHeartbeats 1000000 in
theorem zgoal_all {D : va_G} {T : Nat → ClassId} {B0 de mi : Nat} {U0 : State} {y : Nat} {o : zOp} (hO : zok y o = true) (hs : zsort o = 0) : zGoal D T B0 de mi U0 y o := by
  obtain ⟨pc, i, n, x, v, z, ws⟩ := o
  cases i
  case aconst_null => exact zs_aconst_null hO
  case iadd => exact zs_iadd hO
  case isub => exact zs_isub hO
  case imul => exact zs_imul hO
  case idiv => exact zs_idiv hO
  case irem => exact zs_irem hO
  case ineg => exact zs_ineg hO
  case iand => exact zs_iand hO
  case ior => exact zs_ior hO
  case ishl => exact zs_ishl hO
  case ishr => exact zs_ishr hO
  case iushr => exact zs_iushr hO
  case i2l => exact zs_i2l hO
  case lcmp => exact zs_lcmp hO
  case dup => exact zs_dup hO
  case dup_x1 => exact zs_dup_x1 hO
  case dup2 => exact zs_dup2 hO
  case pop => exact zs_pop hO
  case arraylength => exact zs_arraylength hO
  case iaload => exact zs_iaload hO
  case iastore => exact zs_iastore hO
  case aaload => exact zs_aaload hO
  case aastore => exact zs_aastore hO
  case iconst i => exact zs_iconst hO
  case bipush i => exact zs_bipush hO
  case sipush i => exact zs_sipush hO
  case ldc i => exact zs_ldc hO
  case iload_n k => exact zs_iload_n hO
  case iload k => exact zs_iload hO
  case aload_n k => exact zs_aload_n hO
  case aload k => exact zs_aload hO
  case istore_n k => exact zs_istore_n hO
  case istore k => exact zs_istore hO
  case astore_n k => exact zs_astore_n hO
  case astore k => exact zs_astore hO
  case iinc k i => exact zs_iinc hO
  case goto k => exact zs_goto hO
  case ifnull k => exact zs_ifnull hO
  case ifnonnull k => exact zs_ifnonnull hO
  case getfield k => exact zs_getfield hO
  case putfield k => exact zs_putfield hO
  case getstatic k => exact zs_getstatic hO
  case newarray k => exact zs_newarray hO
  case anewarray k => exact zs_anewarray hO
  case checkcast k => exact zs_checkcast hO
  case tableswitch a b c d => exact zs_tableswitch hO
  case ifCond c k =>
    cases c
    case eq => exact zs_ifCond_eq hO
    case ne => exact zs_ifCond_ne hO
    case lt => exact zs_ifCond_lt hO
    case ge => exact zs_ifCond_ge hO
    case gt => exact zs_ifCond_gt hO
    case le => exact zs_ifCond_le hO
  case if_icmp c k =>
    cases c
    case eq => exact zs_if_icmp_eq hO
    case ne => exact zs_if_icmp_ne hO
    case lt => exact zs_if_icmp_lt hO
    case ge => exact zs_if_icmp_ge hO
    case gt => exact zs_if_icmp_gt hO
    case le => exact zs_if_icmp_le hO
  case if_acmp c k =>
    cases c
    case eq => exact zs_if_acmp_eq hO
    case ne => exact zs_if_acmp_ne hO
  case new k => exact zs_new hO (fun h => by simp [zsort, h] at hs)
  case invokespecial k => exact zs_objInit hO (fun h => by simp [zsort, h] at hs)
  case invokevirtual k => exact zs_getClass hO (fun h => by simp [zsort, h] at hs)
  case invokestatic k => exact zs_static hO (fun h => by simp [zsort, h] at hs)
  all_goals (intro p l e R s m args below meth cc hE hC ls st μ c h; simp [zstep] at h)
end
section
/-! ===== 'throw new E("text")' with the heap's size behind it (the kit's row, its premise on the end made exact) ===== -/
section ZEnds
variable {p : Program} {l : Launch} {e : Env} {R : Room} {s : State} {m : MethodId} {args : Array Value} {below : List Frame} {meth : Method} {c : Code} {H : Heap} {locs : List Loc} {cells slots : Nat} {Q : State → Prop}
variable {mc ms : Nat} {free : Addr → Prop} {A0 A1 : Nat → Prop} {H0 : Heap} {a : Array Value} {ls : Array Slot} {st0 rest : List Value}
variable {Qc : Array Value → State → Outcome → State → Prop} {XC : String → State → State → Prop}
theorem zthrowS {cc : ByteArray} {pc : Nat} (hexec : p.tables.exec = Jvm.exec) (hb : c.code = cc) (hl : l.stackTraces = false) {own cls text : String} {names : List String} {ik is ic mc ms sa : Nat} {A : Nat → Prop}
    (hown : s.vm.findClass own = some m.cls) (hcls : Bundle.fit cls = true) (hnames : ∀ n ∈ names, Bundle.fit n = true)
    (hk : (Cond.classLink own ik cls).before args s = true) (hini : (Cond.initialized cls).before args s = true) (hstr : vk_R own is text sa s) (hat : ∀ w ∈ vx_atS own ic cls names, w.before args s = true)
    (hgood : ∀ w ∈ Cond.classLink own ik cls :: Cond.initialized cls :: vx_atS own ic cls names, vx_ot w = true)
    (hU : vx_Zq Bundle.tN "UNASSIGNED_STACK" Bundle.steD A s s.heap) (hN : vx_Zq Bundle.tN "SUPPRESSED_SENTINEL" Bundle.listD A s s.heap) (hS : va_S A s.heap H locs) (hsize : ls.size = c.maxLocals)
    (d0 : decode cc pc = .ok (.new ik, 3)) (d3 : decode cc (pc + 3) = .ok (.dup, 1)) (d4 : decode cc (pc + 4) = .ok (.ldc is, 2)) (d6 : decode cc (pc + 6) = .ok (.invokespecial ic, 3)) (d9 : decode cc (pc + 9) = .ok (.athrow, 1))
    (hout : ∀ x ∈ c.exceptionTable.toList, covers x (pc + 9) = false)
    (hRframes : names.length + 3 < R.frames) (hRlocals : (rest.map fun v => v.category).sum + (13 * (names.length + 1) + 43) ≤ R.locals) (hRcells : cells + 1 ≤ R.cells) (hRslots : slots + 6 ≤ R.slots) (hlocks : meth.locks = false)
    (hx : ∀ t : State, s.vm.Alike t.vm → t.heap.size = H.size + 1 → (∀ q : Nat, q < H.size → t.heap[q]? = H[q]?) → XC cls s t)
    (hf : ∀ z ∈ locs, free z.base) (hc : cells + 1 ≤ mc) (hs : slots + 6 ≤ ms) :
    W p l e R s m args below meth c H locs cells slots (vx_MQ below Qc XC args s mc ms free) (F0 m pc ls rest) := by
  intro T hT X
  have htr : e.platform.stackTraces = false := (show e.platform.stackTraces = l.stackTraces by rw [X.admits.platform]).trans hl
  have Y := vx_rebase X (R' := { frames := R.frames, locals := R.locals, cells := 1, slots := 6 }) (Nat.le_refl _) (Nat.le_refl _) hRcells hRslots
  obtain ⟨s', hA⟩ : ∃ z, z = (T.setVm s.vm).setFrames (.invoking m args :: below) := ⟨_, rfl⟩
  rw [← hA] at Y
  have hvm : s'.vm = s.vm := by rw [hA]; rfl
  have hhp : s'.heap = H := by rw [hA]; exact hT
  have hW0 : s.WarmedH s'.vm := by rw [hvm]; exact State.WarmedH.refl s
  have hat' : ∀ w ∈ vx_atS own ic cls names, w.before args s' = true := fun w hw => vx_ot_at hW0 hvm.symm (hgood w (List.mem_cons_of_mem _ (List.mem_cons_of_mem _ hw))) (hat w hw)
  have hk' : (Cond.classLink own ik cls).before args s' = true := vx_ot_at hW0 hvm.symm (hgood _ List.mem_cons_self) hk
  have hini' : (Cond.initialized cls).before args s' = true := vx_ot_at hW0 hvm.symm (hgood _ (List.mem_cons_of_mem _ List.mem_cons_self)) hini
  have hU' : vx_Zq Bundle.tN "UNASSIGNED_STACK" Bundle.steD A s' s'.heap := by rw [hhp]; exact vx_Zq.moved hW0.alike (hU.kept hS.2.1)
  have hN' : vx_Zq Bundle.tN "SUPPRESSED_SENTINEL" Bundle.listD A s' s'.heap := by rw [hhp]; exact vx_Zq.moved hW0.alike (hN.kept hS.2.1)
  have h : ∀ w ∈ Bundle.ownAtoms own ic cls names, w.before args s' = true := vx_own hat' (vx_isRefq hU'.1) (vx_isRefq hN'.1) hU'.2.word hN'.2.word
  have hown' : s'.vm.findClass own = some m.cls := by rw [hvm]; exact hown
  have hins : (Cond.instantiable cls 6).before args s' = true := h _ (by simp [Bundle.ownAtoms])
  obtain ⟨vm₁, cX, kX, hfX, hkX, -, -, X₁, st1⟩ := Y.newCold hexec (own := own) (C := cls) (index := ik) (n := 6) hown' hk' hins hini'
    (g := F0 m pc ls rest) rfl (by rw [hb]; exact d0) (Nat.le_refl _) (Nat.le_refl _)
  generalize hT1 : (T.setVm vm₁).pushCell { cls := cX, slots := kX.instanceTypes.map defaultValue, vm := .none } = T1 at X₁ st1
  have hcat : (Value.ref T.heap.size).category = 1 := rfl
  have hcellA : T1.heap[T.heap.size]? = some (freshCell cX kX) := by rw [← hT1]; exact State.heap_pushCell_size _ _
  have d3' : decode c.code (pc + 3) = .ok (.dup, 1) := by rw [hb]; exact d3
  have d4' : decode c.code (pc + 4) = .ok (.ldc is, 2) := by rw [hb]; exact d4
  have hstr' : vk_R own is text sa s' := vk_R.warm hW0 hstr
  obtain ⟨U, hsteps, hrun, hend, hW, hsame, ce, hce, hO⟩ := X₁.ctorThrowS hexec htr (own := own) (cls := cls) (names := names) (ic := ic) hown' hcls hnames h (fun x hx => nomatch hx) hfX hkX hcellA (by rw [hhp, hT]; exact Nat.le_refl _) (msg := .ref sa) rfl
    (g := { method := m, pc := pc + 6, locals := ls, stack := .ref sa :: .ref T.heap.size :: .ref T.heap.size :: rest, locked := none }) rfl hsize rfl rfl (rest := rest) rfl
    (by rw [hb]; exact d6) (by rw [hb]; exact d9) hout hRframes (by simp only [List.map_cons, List.sum_cons, hcat]; omega) hlocks
  obtain ⟨f1, f2⟩ := vx_frame hsame
  rw [hhp] at f1 f2
  have f3 : U.heap.size ≤ s'.heap.size + 1 := hsame.2.2.1
  rw [hhp] at f3
  have f4 : T.heap.size < U.heap.size := (Array.getElem?_eq_some_iff.mp hce).1
  rw [hT] at f4
  have f5 : U.heap.size = H.size + 1 := by omega
  have hWs : s.WarmedH U.vm := State.WarmedH.trans hW0 hW
  have hcl : s.vm.findClass cls = some ce.cls := by
    have h9 := hO.cls
    rw [hvm] at h9
    exact h9
  have hall : s.sameButNew ({ U with vm := s.vm } : State) locs mc ms := by
    subst hA
    obtain ⟨e1, e2⟩ := hsame
    rw [State.setFrames_setFrames] at e1
    have h2 : (T.setVm s.vm).sameButNew ({ U with vm := s.vm } : State) [] (0 + 1) (0 + 6) := ⟨e1, e2⟩
    have h3 := X.same.trans h2
    rw [List.append_nil] at h3
    exact h3.mono hc hs
  refine ⟨U, ?_, .threw T.heap.size, hrun, hend, Or.inr ⟨T.heap.size, rfl, cls, ce, locs, hx U hWs.alike f5 (fun q hq => f2 q hq (fun z hz => nomatch hz)), hce, hO.vm, hcl, hWs, hall, hf⟩⟩
  refine st1 _ ?_
  show Steps p.tables e below (T1.setTop { method := m, pc := pc + 3, locals := ls, stack := .ref T.heap.size :: rest, locked := none }) _
  jvm_step X₁.here [X₁.here.top, hexec, d3', Value.category]
  exact X₁.ldcString hexec (own := own) (text := text) (index := is) (a := sa) hown' hstr'.1 hstr'.2
    (g := { method := m, pc := pc + 4, locals := ls, stack := .ref T.heap.size :: .ref T.heap.size :: rest, locked := none }) rfl d4' _ hsteps
end ZEnds
/-- the run: method y from pc on -/
noncomputable def zrn (code : Nat → Nat → Option zOp) (nL : Nat → Nat) (tb : Nat → List (Nat × Nat × Nat × Nat)) (de mi : Nat) : Nat → Nat → Nat → List (Option Value) → List Value → zM → Option (zRes × zM)
  | 0, _, _, _, _, _ => none
  | f + 1, y, pc, ls, st, μ => match code y pc with
    | none => none
    | some o =>
      if zsort o = 1 then (match zfin o st with | some r => some (r, μ) | none => none)
      else if zsort o = 3 then (if st.length ≤ 4 then some (.inr o.2.2.2.1, znew μ 0 0 6) else none)
      else if zsort o = 2 then (match zargs o st μ with
        | none => none
        | some (as, rest) => (match zrn code nL tb de mi f o.2.2.2.1 0 (zent (nL o.2.2.2.1) as) [] μ with
          | none => none
          | some (.inl v, μ1) => zrn code nL tb de mi f y o.2.2.1 ls (v.toList ++ rest) μ1
          | some (.inr E, μ1) => (match zfind (tb y) pc E with
            | none => some (.inr E, μ1)
            | some h => (match zgo code y h with
              | none => none
              | some (n, x) => if x < ls.length then zrn code nL tb de mi f y n (ls.set x none) [] μ1 else none))))
      else (match zstep de mi o ls st μ with
        | none => none
        | some c => zrn code nL tb de mi f y c.1 c.2.1 c.2.2.1 c.2.2.2)
/-! ===== counters grow, fuel may grow ===== -/
set_option maxHeartbeats 2000000 in
theorem zstep_mono {de mi : Nat} {o : zOp} {ls : List (Option Value)} {st : List Value} {μ : zM} {c : zCf} (h : zstep de mi o ls st μ = some c) : zC μ ≤ zC c.2.2.2 ∧ zL μ ≤ zL c.2.2.2 := by
  obtain ⟨pc, i, n, x, v, z, ws⟩ := o
  cases i <;> (try (simp only [zstep] at h)) <;> (try (repeat' split at h)) <;> first
    | (cases h; done)
    | (cases h; exact ⟨Nat.le_refl _, Nat.le_refl _⟩)
    | (cases h; exact ⟨Nat.le_succ _, Nat.le_add_right _ _⟩)
theorem zrn_mono {code : Nat → Nat → Option zOp} {nL : Nat → Nat} {tb : Nat → List (Nat × Nat × Nat × Nat)} {de mi : Nat} : ∀ (f y pc : Nat) (ls : List (Option Value)) (st : List Value) (μ : zM) (r : zRes) (μ' : zM), zrn code nL tb de mi f y pc ls st μ = some (r, μ') → zC μ ≤ zC μ' ∧ zL μ ≤ zL μ' := by
  intro f
  induction f with
  | zero => intro y pc ls st μ r μ' h; simp [zrn] at h
  | succ f ih =>
    intro y pc ls st μ r μ' h
    simp only [zrn] at h
    split at h
    · cases h
    · next o ho =>
      split at h
      · split at h
        · cases h; exact ⟨Nat.le_refl _, Nat.le_refl _⟩
        · cases h
      · split at h
        · split at h
          · cases h; exact ⟨Nat.le_succ _, Nat.le_add_right _ _⟩
          · cases h
        · split at h
          · split at h
            · cases h
            · next as rest ha =>
              split at h
              · cases h
              · next v μ1 h1 =>
                have a := ih _ _ _ _ _ _ _ h1
                have b := ih _ _ _ _ _ _ _ h
                exact ⟨Nat.le_trans a.1 b.1, Nat.le_trans a.2 b.2⟩
              · next E μ1 h1 =>
                have a := ih _ _ _ _ _ _ _ h1
                split at h
                · cases h; exact a
                · split at h
                  · cases h
                  · split at h
                    · have b := ih _ _ _ _ _ _ _ h
                      exact ⟨Nat.le_trans a.1 b.1, Nat.le_trans a.2 b.2⟩
                    · cases h
          · split at h
            · cases h
            · next c hc =>
              have a := zstep_mono hc
              have b := ih _ _ _ _ _ _ _ h
              exact ⟨Nat.le_trans a.1 b.1, Nat.le_trans a.2 b.2⟩
theorem zrn_succ {code : Nat → Nat → Option zOp} {nL : Nat → Nat} {tb : Nat → List (Nat × Nat × Nat × Nat)} {de mi : Nat} : ∀ (f y pc : Nat) (ls : List (Option Value)) (st : List Value) (μ : zM) (q : zRes × zM), zrn code nL tb de mi f y pc ls st μ = some q → zrn code nL tb de mi (f + 1) y pc ls st μ = some q := by
  intro f
  induction f with
  | zero => intro y pc ls st μ q h; simp [zrn] at h
  | succ f ih =>
    intro y pc ls st μ q h
    rw [zrn]
    simp only [zrn] at h
    split at h
    · cases h
    · next o ho =>
      (try rw [ho])
      (try simp only)
      split at h
      · next hs => rw [if_pos hs]; exact h
      · next hs =>
        rw [if_neg hs]
        split at h
        · next hs3 => rw [if_pos hs3]; exact h
        · next hs3 =>
          rw [if_neg hs3]
          split at h
          · next hs2 =>
            rw [if_pos hs2]
            split at h
            · cases h
            · next as rest ha =>
              (try rw [ha])
              (try simp only)
              split at h
              · cases h
              · next v μ1 h1 =>
                rw [ih _ _ _ _ _ _ h1]
                exact ih _ _ _ _ _ _ h
              · next E μ1 h1 =>
                rw [ih _ _ _ _ _ _ h1]
                (try simp only)
                split at h
                · next hf => (try rw [hf]); exact h
                · next hh hf =>
                  (try rw [hf])
                  (try simp only)
                  split at h
                  · cases h
                  · next n x hg =>
                    (try rw [hg])
                    (try simp only)
                    split at h
                    · next hx => rw [if_pos hx]; exact ih _ _ _ _ _ _ h
                    · cases h
          · next hs2 =>
            rw [if_neg hs2]
            split at h
            · cases h
            · next c hc =>
              (try rw [hc])
              exact ih _ _ _ _ _ _ h
theorem zrn_more {code : Nat → Nat → Option zOp} {nL : Nat → Nat} {tb : Nat → List (Nat × Nat × Nat × Nat)} {de mi : Nat} {f y pc : Nat} {ls : List (Option Value)} {st : List Value} {μ : zM} {q : zRes × zM} (h : zrn code nL tb de mi f y pc ls st μ = some q) : ∀ k, zrn code nL tb de mi (f + k) y pc ls st μ = some q
  | 0 => h
  | k + 1 => zrn_succ _ _ _ _ _ _ _ (zrn_more h k)
end
section
/-! ===== THE RUN IS THE MACHINE's: calls, throws, handlers, ends; every method at once, by the fuel ===== -/
def zcode (y pc : Nat) : Option zOp := (zbody y).find? (fun o => o.1 == pc)
theorem zcode_ok {y pc : Nat} {o : zOp} (h : zcode y pc = some o) : zok y o = true ∧ o.1 = pc :=
  ⟨List.all_eq_true.mp (zall y) o (List.mem_of_find?_eq_some h), by simpa using List.find?_some h⟩
def zWs (y : Nat) : List Cond := (if zTb y = [] then Cond.code (zNm y) (zB y) (zX y) (zRt y) else Cond.codeWith (zNm y) (zB y) (zX y) (zRt y) (zTb y)) :: zBig
/-- what the data say of each method's name, table and handlers -/
def zname (y : Nat) : Bool := decide (zOwn y = (zNm y).cls) && (plainName (zNm y).cls && (decide (zIn y = true → (zNm y).name = "<init>") && (decide ((zTb y).length = (zHd y).length) &&
  (List.range (zTb y).length).all (fun i => decide (((zTb y).getD i (0, 0, 0, 0)).1 = ((zHd y).getD i (0, 0, 0, 0)).1) && (decide (((zTb y).getD i (0, 0, 0, 0)).2.1 = ((zHd y).getD i (0, 0, 0, 0)).2.1) && (decide (((zTb y).getD i (0, 0, 0, 0)).2.2.1 = ((zHd y).getD i (0, 0, 0, 0)).2.2.1) && (decide (((zTb y).getD i (0, 0, 0, 0)).2.2.2 ≠ 0) &&
    (decide (((zHd y).getD i (0, 0, 0, 0)).2.2.2 < 3) && zhas (zgi (zHl y) i) (.classLink (zOwn y) ((zTb y).getD i (0, 0, 0, 0)).2.2.2 (zEx ((zHd y).getD i (0, 0, 0, 0)).2.2.2))))))))))
theorem zname_lt : ∀ y, y < 79 → zname y = true := by decide +kernel
theorem zEx_castable : ∀ e, e < 3 → Cond.castable (zEx e) (zEx e) ∈ lw_tbl := by decide +kernel
/-- the throws: the text's place, and the words of the constructors above -/
def zthrow (y : Nat) (o : zOp) : Bool := match o.2.1 with
  | .new _ => if o.2.2.2.2.2.1 = 9 then
      decide (o.2.2.2.1 < 3) && ((match lw_tbl[zgi o.2.2.2.2.2.2 3]? with
        | some (.stringRef w k _) => decide (w = zOwn y) && decide (k = o.2.2.2.2.1)
        | _ => false) && (vx_atS (zOwn y) (zgi o.2.2.2.2.2.2 0) (zEx o.2.2.2.1) ["java/lang/RuntimeException", "java/lang/Exception"]).all (fun w => decide (w ∈ lw_tbl) && vx_ot w))
    else true
  | _ => true
theorem zthrow_lt : ∀ y, y < 79 → (zbody y).all (zthrow y) = true := by decide +kernel
end
section
/-! ===== the run is the machine's, second part ===== -/
theorem zbody_big : ∀ y, 79 ≤ y → zbody y = [] := fun y h => by
  obtain ⟨k, rfl⟩ := Nat.exists_eq_add_of_le h
  rw [Nat.add_comm]
  rfl
theorem zcode_lt {y pc : Nat} {o : zOp} (h : zcode y pc = some o) : y < 79 := by
  rcases Nat.lt_or_ge y 79 with h1 | h1
  · exact h1
  · unfold zcode at h
    rw [zbody_big y h1] at h
    cases h
/-- what is known of texts and of the three exceptions -/
def zEnvX (U0 : State) : Prop := (∀ own k tx, Cond.stringRef own k tx ∈ lw_tbl → ∃ sa, vk_R own k tx sa U0) ∧ ∀ i j, i < 3 → j < 3 → i ≠ j → va_Nc (zEx i) (zEx j) U0
def zPc (D : va_G) (T : Nat → ClassId) (B0 : Nat) (U0 : State) (as : List Value) (μ : zM) : Array Value → State → Prop := fun v U => v = as.toArray ∧ U0.WarmedH U.vm ∧ zHp D T B0 U0 μ U.heap
def zQc (D : va_G) (T : Nat → ClassId) (B0 : Nat) (U0 : State) (r : zRes) (μ' : zM) : Array Value → State → Outcome → State → Prop := fun _ _ o t => ∃ v : Option Value, r = .inl v ∧ o = .returned v ∧ zHp D T B0 U0 μ' t.heap
def zXc (D : va_G) (T : Nat → ClassId) (B0 : Nat) (U0 : State) (r : zRes) (μ' : zM) : String → State → State → Prop := fun E _ t => ∃ k, k < 3 ∧ r = .inr k ∧ E = zEx k ∧ zHp D T B0 U0 μ' t.heap
/-- a run of method y, as a contract -/
def zMet (D : va_G) (T : Nat → ClassId) (B0 : Nat) (U0 : State) (l : Launch) (y : Nat) (as : List Value) (μ : zM) (r : zRes) (μ' : zM) : Prop :=
  vx_Met l (zNm y) (zWs y) { frames := zFr y, cells := zC μ' - zC μ, slots := zL μ' - zL μ, locals := zLo y } (zPc D T B0 U0 as μ) (zQc D T B0 U0 r μ') (zXc D T B0 U0 r μ') (zC μ' - zC μ) (zL μ' - zL μ) (fun q => B0 ≤ q)
theorem zblind {D : va_G} {T : Nat → ClassId} {B0 : Nat} {U0 : State} {as : List Value} {μ : zM} : FrameBlind (zPc D T B0 U0 as μ) := fun _ _ _ _ h => h
theorem zwsgood {y : Nat} {args : Array Value} {s : State} (hwd : ∀ w ∈ zBig, w.before args s = true) (hc : (if zTb y = [] then Cond.code (zNm y) (zB y) (zX y) (zRt y) else Cond.codeWith (zNm y) (zB y) (zX y) (zRt y) (zTb y)) ∈ zBig) : ∀ w ∈ zWs y, ∀ (a' : Array Value) (U : State), s.WarmedH U.vm → w.before a' U = true := by
  intro w hw a' U hW
  have hb : w ∈ zBig := by
    rcases List.mem_cons.mp hw with h | h
    · rw [h]; exact hc
    · exact h
  exact word_at hW (good_of_word (List.mem_filter.mp hb).2) (hwd w hb)
/-- the entry's locals -/
theorem zsl : ∀ (vs : List Value), (∀ v ∈ vs, v.category = 1) → lg_sl vs = vs.map Slot.val
  | [], _ => rfl
  | v :: t, h => by
    have h1 := h v List.mem_cons_self
    have h2 := zsl t (fun w hw => h w (List.mem_cons_of_mem _ hw))
    unfold lg_sl at h2 ⊢
    rw [List.flatMap_cons, h2, if_neg (by omega)]
    rfl
theorem zargs_at : ∀ (vs : List Value) (i0 : Nat), (∀ v ∈ vs, v.category = 1) → ∀ (i : Nat) (v : Value), vs[i]? = some v → (i0 + i, v) ∈ lv_args i0 vs
  | [], _, _, i, v, h => by simp at h
  | w :: t, i0, hc, i, v, h => by
    have h1 := hc w List.mem_cons_self
    unfold lv_args
    rw [if_neg (by omega)]
    cases i with
    | zero => rw [List.getElem?_cons_zero] at h; cases h; exact List.mem_cons_self
    | succ i =>
      rw [List.getElem?_cons_succ] at h
      have := zargs_at t (i0 + 1) (fun w hw => hc w (List.mem_cons_of_mem _ hw)) i v h
      rw [show i0 + (i + 1) = i0 + 1 + i by omega]
      exact List.mem_cons_of_mem _ this
theorem zentry {vs : List Value} {n : Nat} (hc : ∀ v ∈ vs, v.category = 1) (hl : vs.length ≤ n) : zlv ((lg_sl vs ++ List.replicate (n - (lg_sl vs).length) Slot.unset).toArray) n (zent n vs) := by
  have h0 := zsl vs hc
  have hlen : (lg_sl vs).length = vs.length := by rw [h0, List.length_map]
  have h := lv_entry vs (n := n) (by omega)
  refine ⟨h.1, h.2.1, by unfold zent; rw [List.length_append, List.length_map, List.length_replicate]; omega, fun i v hi => ?_⟩
  have hv : vs[i]? = some v := by
    unfold zent at hi
    by_cases hlt : i < vs.length
    · rw [List.getElem?_append_left (by rw [List.length_map]; exact hlt), List.getElem?_map] at hi
      cases hw : vs[i]? with
      | none => rw [hw] at hi; cases hi
      | some w => rw [hw] at hi; cases hi; rfl
    · rw [List.getElem?_append_right (by rw [List.length_map]; omega), List.length_map] at hi
      have := List.mem_of_getElem? hi
      have := List.eq_of_mem_replicate this
      cases this
  have hm := zargs_at vs 0 hc i v hv
  rw [Nat.zero_add] at hm
  exact ⟨h.2.2 (i, v) hm, hc v (List.mem_of_getElem? hv)⟩
/-- what zargs says -/
theorem zargs_ok {o : zOp} {st as rest : List Value} {μ : zM} (h : zargs o st μ = some (as, rest)) : st = as.reverse ++ rest ∧ as.length = o.2.2.2.2.1 ∧ rest.length ≤ 4 ∧ (∀ v ∈ as, v.category = 1) ∧
    (o.2.2.2.2.2.1 = 100 → ∃ b as', as = .ref b :: as' ∧ zK μ b = (o.2.2.2.2.2.2.getD 0 0 + 1, 0)) ∧ (o.2.2.2.2.2.1 = 101 → ∃ b as', as = .ref b :: as') := by
  unfold zargs at h
  simp only at h
  split at h
  · cases h
  · next hn =>
    have h1 : o.2.2.2.2.1 ≤ st.length := Nat.le_of_not_lt fun q => hn (Or.inl q)
    have h2 : st.length ≤ 4 + o.2.2.2.2.1 := Nat.le_of_not_lt fun q => hn (Or.inr (Or.inl q))
    have h3 : (st.take o.2.2.2.2.1).all (fun v => v.category == 1) = true := by
      cases hq : (st.take o.2.2.2.2.1).all (fun v => v.category == 1)
      · exact absurd (Or.inr (Or.inr hq)) hn
      · rfl
    have h4 : ∀ v ∈ (st.take o.2.2.2.2.1).reverse, v.category = 1 := fun v hv => by
      have := List.all_eq_true.mp h3 v (List.mem_reverse.mp hv)
      simpa using this
    have h5 : st = (st.take o.2.2.2.2.1).reverse.reverse ++ st.drop o.2.2.2.2.1 := by rw [List.reverse_reverse, List.take_append_drop]
    have h6 : (st.take o.2.2.2.2.1).reverse.length = o.2.2.2.2.1 := by rw [List.length_reverse, List.length_take]; omega
    have h7 : (st.drop o.2.2.2.2.1).length ≤ 4 := by rw [List.length_drop]; omega
    split at h
    · next hz =>
      split at h
      · next b as' hb =>
        split at h
        · next hk =>
          cases h
          rw [hb] at h4 h5 h6
          exact ⟨h5, h6, h7, h4, fun _ => ⟨b, as', rfl, hk⟩, fun e => by omega⟩
        · cases h
      · cases h
    · next hz =>
      split at h
      · next hz1 =>
        split at h
        · next b as' hb =>
          cases h
          rw [hb] at h4 h5 h6
          exact ⟨h5, h6, h7, h4, fun e => absurd e hz, fun _ => ⟨b, as', rfl⟩⟩
        · cases h
      · next hz1 =>
        cases h
        exact ⟨h5, h6, h7, h4, fun e => absurd e hz, fun e => absurd e hz1⟩
theorem zPre {D : va_G} {T : Nat → ClassId} {B0 de mi : Nat} {U0 : State} {y : Nat} {p : Program} {l : Launch} {R : Room} {s : State} {m : MethodId} {args : Array Value} {meth : Method} {c : Code} (hC : zCtx D T B0 de mi U0 y p l R s m args meth c) {H : Heap} {μ : zM} {as : List Value} (hH : zHp D T B0 U0 μ H) : PreS s H (zPc D T B0 U0 as μ) as :=
  ⟨zblind, fun U hU hW => ⟨rfl, State.WarmedH.trans hC.2.2.2.2.2.2.2.2.2.1 hW, by rw [hU]; exact hH⟩⟩
/-- a call at o, whose callee's run is known as a contract -/
theorem zcall {D : va_G} {T : Nat → ClassId} {B0 de mi : Nat} {U0 : State} {y : Nat} {p : Program} {l : Launch} {e : Env} {R : Room} {s : State} {m : MethodId} {args : Array Value} {below : List Frame} {meth : Method} {cc : Code} {H : Heap} {locs : List Loc} {lsA : Array Slot} {cells slots : Nat} {o : zOp} {st as rest : List Value} {μ μ1 : zM} {r1 : zRes}
    (hE : zEnv D T B0 de mi U0 l) (hC : zCtx D T B0 de mi U0 y p l R s m args meth cc) (hO : zok y o = true) (hs : zsort o = 2) (ha : zargs o st μ = some (as, rest)) (hH : zHp D T B0 U0 μ H) (hL : lsA.size = zX y)
    (hM : zMet D T B0 U0 l o.2.2.2.1 as μ r1 μ1) (hc1 : cells + (zC μ1 - zC μ) ≤ R.cells) (hc2 : slots + (zL μ1 - zL μ) ≤ R.slots) :
    o.2.2.1 = o.1 + 3 ∧ vx_Run p l e R s m args below meth cc H locs cells slots (zC μ1 - zC μ) (zL μ1 - zL μ) (F0 m o.1 lsA st) rest (zQc D T B0 U0 r1 μ1 as.toArray) (zXc D T B0 U0 r1 μ1) (fun q => B0 ≤ q) := by
  obtain ⟨hst, hlen, hr4, hcat, hz100, hz101⟩ := zargs_ok ha
  have hPS := zPre hC hH (as := as)
  obtain ⟨hx, hb, hown, hwd, hml, hlk, hrt, hfr, hlc, hW0, hs0, hsz, hin, htb⟩ := id hC
  have hK := va_K.moved hW0.alike hE.1
  obtain ⟨pc, i, n, x, v, z, ws⟩ := o
  have hsum := zsum hr4
  have hroom : 2 * (F0 m pc lsA st).monitorRoom + (rest.map fun v => v.category).sum ≤ 8 := lv_room hsum
  have hin' : ∀ w, w ∈ zBig → w.before args s = true := hwd
  cases i
  case invokevirtual i =>
    have hz : z = 100 := by
      by_cases h : z = 100
      · exact h
      · simp [zsort, h] at hs
    simp only [zok, Bool.and_eq_true, decide_eq_true_eq] at hO
    obtain ⟨hd, -, hn, hO⟩ := hO
    subst hn
    rw [if_pos hz] at hO
    simp only [Bool.and_eq_true, decide_eq_true_eq] at hO
    obtain ⟨hrc, hrn, w1, w2, w3, w4, w5, htx, hno, hpar, hv1, hvx, hf1, hf2⟩ := hO
    obtain ⟨b, as', rfl, hkb⟩ := hz100 hz
    obtain ⟨cell, g1, g2, g3⟩ := zcls hK hH hrc hkb
    have hcode : (if zTb x = [] then Cond.code (zNm x) (zB x) (zX x) (zRt x) else Cond.codeWith (zNm x) (zB x) (zX x) (zRt x) (zTb x)) ∈ zBig := by rw [if_pos htx]; exact zhas_in w4
    refine ⟨rfl, vx_runV (Ts := zBig) (own := zOwn y) (C := zRC (zgi ws 0)) (b := b) (As := as') ⟨hx, hb, hml, hown, hwd⟩ hM
      ⟨⟨rfl, rfl, by show zFr x + 1 ≤ _; omega, by show 8 + (zX x + 11) + zLo x ≤ _; omega, zwsgood hwd hcode, by unfold zWs; rw [if_pos htx]; exact List.mem_cons_self, hwd _ (zhas_in w4), hwd _ (zhas_in w5), hno, fun sig h => ?_, hwd _ (zhas_in w1)⟩, hwd _ (zhas_in w2), hwd _ (zhas_in w3)⟩
      ⟨zblind, ⟨cell, g1, g2, g3⟩, hPS.2⟩ rfl rfl hL (by rw [hst, List.reverse_cons, List.append_assoc]; rfl) hroom (zdec hd) ⟨hc1, hc2⟩⟩
    rw [h] at hpar
    have hp9 : sig.parameters.length = v - 1 := Option.some.inj hpar
    have hlen' : as'.length + 1 = v := hlen
    omega
  case invokespecial i =>
    have hz : z = 101 := by
      by_cases h : z = 101
      · exact h
      · simp [zsort, h] at hs
    simp only [zok, Bool.and_eq_true, decide_eq_true_eq] at hO
    obtain ⟨hd, -, hn, hO⟩ := hO
    subst hn
    rw [if_pos hz] at hO
    simp only [Bool.and_eq_true, decide_eq_true_eq] at hO
    obtain ⟨w1, w2, w4, w5, htx, hini, hrx, hno, hpar, hv1, hvx, hf1, hf2⟩ := hO
    obtain ⟨b, as', rfl⟩ := hz101 hz
    have hcode : (if zTb x = [] then Cond.code (zNm x) (zB x) (zX x) (zRt x) else Cond.codeWith (zNm x) (zB x) (zX x) (zRt x) (zTb x)) ∈ zBig := by rw [if_pos htx]; exact zhas_in w4
    have w4' := zhas_in w4
    rw [hrx] at w4'
    refine ⟨rfl, vx_runI (Ts := zBig) (own := zOwn y) (b := b) (As := as') (bytes := zB x) (maxL := zX x) ⟨hx, hb, hml, hown, hwd⟩ hM
      ⟨⟨rfl, rfl, by show zFr x + 1 ≤ _; omega, by show 8 + (zX x + 11) + zLo x ≤ _; omega, zwsgood hwd hcode, by unfold zWs; rw [if_pos htx, hrx]; exact List.mem_cons_self, hwd _ w4', hwd _ (zhas_in w5), hno, fun sig h => ?_, hwd _ (zhas_in w1)⟩, hini, hwd _ (zhas_in w2)⟩
      hPS rfl rfl hL (by rw [hst, List.reverse_cons, List.append_assoc]; rfl) hroom (zdec hd) ⟨hc1, hc2⟩⟩
    rw [h] at hpar
    have hp9 : sig.parameters.length = v - 1 := Option.some.inj hpar
    have hlen' : as'.length + 1 = v := hlen
    omega
  case invokestatic i =>
    have hz : z = 102 ∨ z = 103 ∨ z = 104 := by
      by_cases h : z = 102 ∨ z = 103 ∨ z = 104
      · exact h
      · simp [zsort, h] at hs
    simp only [zok, Bool.and_eq_true, decide_eq_true_eq] at hO
    obtain ⟨hd, -, hn, hO⟩ := hO
    subst hn
    rw [if_pos hz] at hO
    simp only [Bool.and_eq_true, decide_eq_true_eq] at hO
    obtain ⟨w1, w2, w4, w5, hno, hpar, hvx, hf1, hf2⟩ := hO
    have hpar' : ∀ sig, parseMethodDescriptor (zNm x).desc = some sig → v = sig.parameters.length := fun sig h => by
      rw [h] at hpar
      exact (Option.some.inj hpar).symm
    refine ⟨rfl, ?_⟩
    by_cases h104 : z = 104
    · rw [if_neg (by omega)] at w1
      rw [if_pos h104, Bool.and_eq_true, decide_eq_true_eq] at w4
      obtain ⟨w4, htx⟩ := w4
      have hcode : (if zTb x = [] then Cond.code (zNm x) (zB x) (zX x) (zRt x) else Cond.codeWith (zNm x) (zB x) (zX x) (zRt x) (zTb x)) ∈ zBig := by rw [if_neg htx]; exact zhas_in w4
      exact vx_runSX (Ts := zBig) (own := zOwn y) (As := as) (n := v) (hh := zTb x) ⟨hx, hb, hml, hown, hwd⟩ hM
        ⟨⟨rfl, rfl, by show zFr x + 1 ≤ _; omega, by show 8 + (zX x + 11) + zLo x ≤ _; omega, zwsgood hwd hcode, by unfold zWs; rw [if_neg htx]; exact List.mem_cons_self⟩, hwd _ (zhas_in w4), hwd _ (zhas_in w5), hno, hpar', hwd _ (zhas_in w1), hwd _ (zhas_in w2)⟩
        hPS rfl hlen hL hst hroom (zdec hd) ⟨hc1, hc2⟩
    · rw [if_neg h104, Bool.and_eq_true, decide_eq_true_eq] at w4
      obtain ⟨w4, htx⟩ := w4
      have hcode : (if zTb x = [] then Cond.code (zNm x) (zB x) (zX x) (zRt x) else Cond.codeWith (zNm x) (zB x) (zX x) (zRt x) (zTb x)) ∈ zBig := by rw [if_pos htx]; exact zhas_in w4
      by_cases h103 : z = 103
      · rw [if_pos h103] at w1
        obtain ⟨a0, ha0⟩ := hE.2.2.1
        have hl : (Cond.methodLinkNest (zOwn y) i (zNm x) RX5).before args s = true := va_Nw.use rfl (va_Nw.warmM hW0 (va_Nw.of rfl (ha0 _ (zmem_in w1))))
        exact vx_runSN (Ts := zBig) (own := zOwn y) (As := as) (n := v) (host := RX5) ⟨hx, hb, hml, hown, hwd⟩ hM
          ⟨⟨⟨rfl, rfl, by show zFr x + 1 ≤ _; omega, by show 8 + (zX x + 11) + zLo x ≤ _; omega, zwsgood hwd hcode, by unfold zWs; rw [if_pos htx]; exact List.mem_cons_self⟩, hwd _ (zhas_in w4), hwd _ (zhas_in w5), hno, hpar', hl⟩, hwd _ (zhas_in w2), trivial⟩
          hPS rfl hlen hL hst hroom (zdec hd) ⟨hc1, hc2⟩
      · rw [if_neg h103] at w1
        exact vx_runS (Ts := zBig) (own := zOwn y) (As := as) (n := v) ⟨hx, hb, hml, hown, hwd⟩ hM
          ⟨⟨rfl, rfl, by show zFr x + 1 ≤ _; omega, by show 8 + (zX x + 11) + zLo x ≤ _; omega, zwsgood hwd hcode, by unfold zWs; rw [if_pos htx]; exact List.mem_cons_self, hwd _ (zhas_in w4), hwd _ (zhas_in w5), hno, hpar', hwd _ (zhas_in w1)⟩, hwd _ (zhas_in w2)⟩
          hPS rfl hlen hL hst hroom (zdec hd) ⟨hc1, hc2⟩
  case new i =>
    exact absurd hs (by simp only [zsort]; split <;> decide)
  all_goals (simp [zsort] at hs)
end
section
/-! ===== the run is the machine's: the theorem ===== -/
/-- a contract out of a body that keeps the run -/
theorem zmeet {D : va_G} {T : Nat → ClassId} {B0 de mi : Nat} {U0 : State} {l : Launch} {y : Nat} (hy : y < 79) {as : List Value} {μ μ' : zM} {r : zRes} (hcat : ∀ v ∈ as, v.category = 1) (hlen : as.length ≤ zX y) (hE : zEnv D T B0 de mi U0 l)
    (body : ∀ (p : Program) (e : Env) (R : Room) (s : State) (m : MethodId) (args : Array Value) (below : List Frame) (meth : Method) (cc : Code) (lsA : Array Slot), zCtx D T B0 de mi U0 y p l R s m args meth cc → R.cells = zC μ' - zC μ → R.slots = zL μ' - zL μ → zHp D T B0 U0 μ s.heap → zlv lsA (zX y) (zent (zX y) as) →
      W p l e R s m args below meth cc s.heap [] 0 0 (vx_MQ below (zQc D T B0 U0 r μ') (zXc D T B0 U0 r μ') args s (zC μ' - zC μ) (zL μ' - zL μ) (fun q => B0 ≤ q)) (F0 m 0 lsA [])) : zMet D T B0 U0 l y as μ r μ' := by
  have hn := zname_lt y hy
  simp only [zname, Bool.and_eq_true, decide_eq_true_eq] at hn
  obtain ⟨n1, n2, n3, n4, -⟩ := hn
  by_cases htx : zTb y = []
  · refine vx_ofW (ws' := zBig) (cc := zB y) (maxL := zX y) (ret := zRt y) n2 (by unfold zWs; rw [if_pos htx]) ?_
    intro p e s m args below meth c s₁ B hml ht hv
    obtain ⟨rfl, hW0, hH⟩ := hv
    have hts := atoms_spec (ws := zWs y) B.pre
    have hl := zentry hcat hlen
    rw [lg_entry_eq]
    refine body p e _ s m _ below meth c _ ⟨B.exec, B.bytes, by rw [n1]; exact findClass_of_methodNamed B.named, fun w hw => hts w (List.mem_cons_of_mem _ hw), hml, B.notSynchronized, B.returns, Nat.le_refl _, Nat.le_refl _, hW0, hH.2.2.1, by rw [hH.2.1]; exact hH.2.2.2.1, fun h => ?_, ?_⟩ rfl rfl hH hl
    · exact ((name_of_methodNamed B.named B.method).1).trans (n3 h)
    · rw [htx]
      cases hh : c.exceptionTable.toList with
      | nil => rfl
      | cons x t => exact (ht x (by rw [hh]; exact List.mem_cons_self)).elim
  · refine vx_ofWH (ws' := zBig) (cc := zB y) (maxL := zX y) (ret := zRt y) (hh := zTb y) n2 (by unfold zWs; rw [if_neg htx]) ?_
    intro p e s m args below meth c s₁ B hml hv
    obtain ⟨rfl, hW0, hH⟩ := hv
    have hts := atoms_spec (ws := zWs y) B.pre
    have hl := zentry hcat hlen
    rw [lg_entry_eq]
    refine body p e _ s m _ below meth c _ ⟨B.exec, B.bytes, by rw [n1]; exact findClass_of_methodNamed B.named, fun w hw => hts w (List.mem_cons_of_mem _ hw), hml, B.notSynchronized, B.returns, Nat.le_refl _, Nat.le_refl _, hW0, hH.2.2.1, by rw [hH.2.1]; exact hH.2.2.2.1, fun h => ?_, ?_⟩ rfl rfl hH hl
    · exact ((name_of_methodNamed B.named B.method).1).trans (n3 h)
    · exact vx_table (x := zNm y) B (hts _ (by unfold zWs; rw [if_neg htx]; exact List.mem_cons_self))
/-- the handlers' list as the machine's table has it -/
theorem zfind_some : ∀ (tb : List (Nat × Nat × Nat × Nat)) (pc E h : Nat), zfind tb pc E = some h → ∃ (i : Nat) (q : Nat × Nat × Nat × Nat), tb[i]? = some q ∧ q.1 ≤ pc ∧ pc < q.2.1 ∧ q.2.2.2 = E ∧ q.2.2.1 = h ∧ ∀ j q', j < i → tb[j]? = some q' → ¬ (q'.1 ≤ pc ∧ pc < q'.2.1 ∧ q'.2.2.2 = E)
  | [], pc, E, h, hf => by cases hf
  | q :: t, pc, E, h, hf => by
    unfold zfind at hf
    split at hf
    · next hc =>
      cases hf
      exact ⟨0, q, rfl, hc.1, hc.2.1, hc.2.2, rfl, fun j q' hj => by omega⟩
    · next hc =>
      obtain ⟨i, q0, h1, h2, h3, h4, h5, h6⟩ := zfind_some t pc E h hf
      refine ⟨i + 1, q0, by rw [List.getElem?_cons_succ]; exact h1, h2, h3, h4, h5, fun j q' hj hq' => ?_⟩
      cases j with
      | zero => rw [List.getElem?_cons_zero] at hq'; cases hq'; exact hc
      | succ j => rw [List.getElem?_cons_succ] at hq'; exact h6 j q' (by omega) hq'
theorem zfind_none : ∀ (tb : List (Nat × Nat × Nat × Nat)) (pc E : Nat), zfind tb pc E = none → ∀ (i : Nat) (q : Nat × Nat × Nat × Nat), tb[i]? = some q → ¬ (q.1 ≤ pc ∧ pc < q.2.1 ∧ q.2.2.2 = E)
  | [], pc, E, hf, i, q, h => by simp at h
  | q0 :: t, pc, E, hf, i, q, h => by
    unfold zfind at hf
    split at hf
    · cases hf
    · next hc =>
      cases i with
      | zero => rw [List.getElem?_cons_zero] at h; cases h; exact hc
      | succ i => rw [List.getElem?_cons_succ] at h; exact zfind_none t pc E hf i q h
/-- a row of the machine's table, by the handlers' list -/
theorem zrow {y : Nat} (hy : y < 79) {i : Nat} {q : Nat × Nat × Nat × Nat} (h : (zHd y)[i]? = some q) : ∃ ct, (zTb y)[i]? = some (q.1, q.2.1, q.2.2.1, ct) ∧ ct ≠ 0 ∧ q.2.2.2 < 3 ∧ zhas (zgi (zHl y) i) (.classLink (zOwn y) ct (zEx q.2.2.2)) = true := by
  have hn := zname_lt y hy
  simp only [zname, Bool.and_eq_true, decide_eq_true_eq, List.all_eq_true, List.mem_range] at hn
  obtain ⟨-, -, -, n4, n5⟩ := hn
  have hl : i < (zTb y).length := by rw [n4]; exact (List.getElem?_eq_some_iff.mp h).1
  have e1 : (zHd y).getD i (0, 0, 0, 0) = q := by rw [List.getD_eq_getElem?_getD, h]; rfl
  have e2 : (zTb y)[i]? = some ((zTb y).getD i (0, 0, 0, 0)) := by rw [List.getD_eq_getElem?_getD, List.getElem?_eq_getElem hl]; rfl
  have k := n5 i hl
  rw [e1] at k
  obtain ⟨k1, k2, k3, k4, k5, k6⟩ := k
  refine ⟨((zTb y).getD i (0, 0, 0, 0)).2.2.2, ?_, k4, k5, k6⟩
  rw [e2, ← k1, ← k2, ← k3]
theorem zrow' {y : Nat} (hy : y < 79) {i : Nat} {q : Nat × Nat × Nat × Nat} (h : (zTb y)[i]? = some q) : ∃ e, (zHd y)[i]? = some (q.1, q.2.1, q.2.2.1, e) := by
  have hn := zname_lt y hy
  simp only [zname, Bool.and_eq_true, decide_eq_true_eq] at hn
  have hl : i < (zHd y).length := by rw [← hn.2.2.2.1]; exact (List.getElem?_eq_some_iff.mp h).1
  obtain ⟨q0, h0⟩ : ∃ q0, (zHd y)[i]? = some q0 := ⟨_, List.getElem?_eq_getElem hl⟩
  obtain ⟨ct, h1, -⟩ := zrow hy h0
  rw [h] at h1
  cases h1
  exact ⟨q0.2.2.2, h0⟩
/-- a row that doesn't take E at pc lets it pass -/
theorem zpass {U0 s : State} {args : Array Value} {y pc E : Nat} (hy : y < 79) (hX : zEnvX U0) (hW0 : U0.WarmedH s.vm) (hwd : ∀ w ∈ zBig, w.before args s = true) (hE : E < 3) {i : Nat} {q : Nat × Nat × Nat × Nat} (h : (zHd y)[i]? = some q) (hno : ¬ (q.1 ≤ pc ∧ pc < q.2.1 ∧ q.2.2.2 = E)) {z : ExceptionTableEntry} (hz : (tableOf (zTb y))[i]? = some z) :
    covers z pc = false ∨ (z.catchType ≠ 0 ∧ ∃ nm : String, (Cond.classLink (zOwn y) z.catchType nm).before args s = true ∧ va_Nc (zEx E) nm s) := by
  obtain ⟨ct, h1, h2, h3, h4⟩ := zrow hy h
  have hz' : z = ⟨q.1, q.2.1, q.2.2.1, ct⟩ := by
    unfold tableOf at hz
    rw [List.getElem?_map, h1] at hz
    cases hz
    rfl
  subst hz'
  by_cases hc : q.1 ≤ pc ∧ pc < q.2.1
  · right
    have hne : E ≠ q.2.2.2 := fun e => hno ⟨hc.1, hc.2, e.symm⟩
    exact ⟨h2, _, hwd _ (zhas_in h4), va_Nc.moved hW0.alike (hX.2 E q.2.2.2 hE h3 hne)⟩
  · left
    simp only [covers, Bool.and_eq_false_iff, decide_eq_false_iff_not]
    by_cases h1 : q.1 ≤ pc
    · exact Or.inr (fun h2 => hc ⟨h1, h2⟩)
    · exact Or.inl h1
end
section
/-! ===== the run is the machine's: the induction ===== -/
/-- the words of a constructor's throw, at any state behind the law's start -/
theorem zwordAt {U0 s : State} {a0 args : Array Value} (hW : U0.WarmedH s.vm) {own X : String} {ic : Nat} {names : List String} {w : Cond} (hm : w ∈ vx_atS own ic X names) (hot : vx_ot w = true) (h : w.before a0 U0 = true) : w.before args s = true := by
  have hf : w.keepsFace = true := Bundle.ownAtoms_keepsFace w (List.mem_filter.mp hm).1
  simp only [vx_ot, Bool.or_eq_true] at hot
  rcases hot with hg | hg
  · exact va_tabs hg (rfl : (U0.setVm s.vm).vm = s.vm) (Cond.before_shiftedFace (State.Shifted.of_warmed hW) w hf h)
  · exact word_at hW (good_of_word hg) h
theorem zZq {B0 : Nat} {U0 s : State} {C n d : String} (hW0 : U0.WarmedH s.vm) (hU : B0 = U0.heap.size) (hs0 : ∀ q, q < B0 → s.heap[q]? = U0.heap[q]?) (h : vx_Zq C n d (fun q => B0 ≤ q) U0 U0.heap) : vx_Zq C n d (fun q => B0 ≤ q) s s.heap :=
  (vx_Zq.moved hW0.alike h).kept (fun a h1 h2 => hs0 a (Nat.lt_of_not_le h2))
set_option maxHeartbeats 1000000 in
theorem zrn_sound {D : va_G} {T : Nat → ClassId} {B0 de mi : Nat} {U0 : State} {l : Launch} (hE : zEnv D T B0 de mi U0 l) (hX : zEnvX U0) : ∀ (f y pc : Nat) (ls : List (Option Value)) (st : List Value) (μ : zM) (r : zRes) (μ' : zM), zrn zcode zX zHd de mi f y pc ls st μ = some (r, μ') →
    ∀ (p : Program) (e : Env) (R : Room) (s : State) (m : MethodId) (args : Array Value) (below : List Frame) (meth : Method) (cc : Code) (c0 l0 : Nat) (H : Heap) (locs : List Loc) (lsA : Array Slot),
      zCtx D T B0 de mi U0 y p l R s m args meth cc → zC μ' - c0 ≤ R.cells → zL μ' - l0 ≤ R.slots → c0 ≤ zC μ → l0 ≤ zL μ → zHp D T B0 U0 μ H → zlv lsA (zX y) ls → (∀ z ∈ locs, B0 ≤ z.base) →
      W p l e R s m args below meth cc H locs (zC μ - c0) (zL μ - l0) (vx_MQ below (zQc D T B0 U0 r μ') (zXc D T B0 U0 r μ') args s (zC μ' - c0) (zL μ' - l0) (fun q => B0 ≤ q)) (F0 m pc lsA st) := by
  intro f
  induction f with
  | zero => intro y pc ls st μ r μ' h; simp [zrn] at h
  | succ f ih =>
    intro y pc ls st μ r μ' h p e R s m args below meth cc c0 l0 H locs lsA hC hRc hRs hc0 hl0 hH hL hlo
    have hmono := zrn_mono _ _ _ _ _ _ _ _ h
    simp only [zrn] at h
    split at h
    · cases h
    · next o ho =>
      obtain ⟨hO, hpc⟩ := zcode_ok ho
      have hy := zcode_lt ho
      obtain ⟨hx, hb, hown, hwd, hml, hlk, hrt, hfr, hlc, hW0, hs0, hsz, hin, htb⟩ := id hC
      split at h
      · -- an end
        split at h
        · next r0 hr0 =>
          cases h
          subst hpc
          refine vx_ret ?_
          obtain ⟨pc, i, n, x, v, z, ws⟩ := o
          cases i
          case ireturn =>
            simp only [zok, Bool.and_eq_true, decide_eq_true_eq] at hO
            obtain ⟨hd, -, hn, hO⟩ := hO
            subst hn
            simp only [zfin] at hr0
            split at hr0
            · next w =>
              by_cases hz : z = 2
              · rw [if_pos hz] at hr0 hO
                split at hr0
                · next hw =>
                  cases hr0
                  exact W.zret hx hb (hrt.trans (of_decide_eq_true hO)) (znar_bool hw).1 (fun t ht _ => ⟨_, rfl, rfl, by rw [ht]; exact hH⟩) hlo (zdec hd) hlk
                · cases hr0
              · rw [if_neg hz] at hr0 hO
                cases hr0
                exact W.iret hx hb (hrt.trans (of_decide_eq_true hO)) (fun t ht _ => ⟨_, rfl, rfl, by rw [ht]; exact hH⟩) hlo (zdec hd) hlk
            · cases hr0
          case areturn =>
            simp only [zok, Bool.and_eq_true, decide_eq_true_eq] at hO
            obtain ⟨hd, -, hn, hO⟩ := hO
            subst hn
            cases hty : zRt y with
            | none => rw [hty] at hO; cases hO
            | some ty =>
              rw [hty] at hO
              have hrt' : (∃ n, ty = .object n) ∨ ∃ t, ty = .array t := by
                cases ty <;> first | (cases hO; done) | exact Or.inl ⟨_, rfl⟩ | exact Or.inr ⟨_, rfl⟩
              simp only [zfin] at hr0
              split at hr0
              · cases hr0
                exact W.aret hx hb (hrt.trans hty) hrt' (Or.inr ⟨_, rfl⟩) (fun t ht _ => ⟨_, rfl, rfl, by rw [ht]; exact hH⟩) hlo (zdec hd) hlk
              · cases hr0
                exact W.aret hx hb (hrt.trans hty) hrt' (Or.inl rfl) (fun t ht _ => ⟨_, rfl, rfl, by rw [ht]; exact hH⟩) hlo (zdec hd) hlk
              · cases hr0
          case return_ =>
            simp only [zok, Bool.and_eq_true, decide_eq_true_eq] at hO
            obtain ⟨hd, -, hn, hO⟩ := hO
            subst hn
            simp only [zfin] at hr0
            split at hr0
            · cases hr0
              exact W.vret hx hb (hrt.trans hO) (fun t ht _ => ⟨_, rfl, rfl, by rw [ht]; exact hH⟩) hlo (zdec hd) hlk
            · cases hr0
          all_goals (simp [zfin] at hr0)
        · cases h
      · next hs1 =>
        split at h
        · -- a throw
          next hs3 =>
          split at h
          rotate_left
          · cases h
          next hst4 =>
          cases h
          subst hpc
          have hth := List.all_eq_true.mp (zthrow_lt y hy) o (List.mem_of_find?_eq_some ho)
          obtain ⟨pc, i, n, x, v, z, ws⟩ := o
          cases i
          case new i =>
            have hz : z = 9 := by
              by_cases h9 : z = 9
              · exact h9
              · simp [zsort, h9] at hs3
            subst hz
            simp only [zok, Bool.and_eq_true, decide_eq_true_eq, if_pos] at hO
            obtain ⟨hd, -, hn, d3, d4, d6, d9, w1, w2, ⟨htx, hf6⟩, hl90⟩ := hO
            subst hn
            simp only [zthrow, if_pos, Bool.and_eq_true, decide_eq_true_eq, List.all_eq_true] at hth
            obtain ⟨hx3, hstr, hat⟩ := hth
            obtain ⟨a0, ha0⟩ := hE.2.2.1
            obtain ⟨tx, htx9⟩ : ∃ tx, Cond.stringRef (zOwn y) v tx ∈ lw_tbl := by
              split at hstr
              · next w k tx hw =>
                simp only [Bool.and_eq_true, decide_eq_true_eq] at hstr
                refine ⟨tx, ?_⟩
                have := List.mem_of_getElem? hw
                rw [hstr.1, hstr.2] at this
                exact this
              · cases hstr
            obtain ⟨sa, hsa⟩ := hX.1 _ _ _ htx9
            have e1 : zC (znew μ 0 0 6) = zC μ + 1 := rfl
            have e2 : zL (znew μ 0 0 6) = zL μ + 6 := rfl
            have hatw : ∀ w ∈ vx_atS (zOwn y) (zgi ws 0) (zEx x) ["java/lang/RuntimeException", "java/lang/Exception"], w.before args s = true := fun w hw => zwordAt hW0 hw (hat w hw).2 (ha0 w (hat w hw).1)
            have g1 := (List.mem_filter.mp (zhas_in w1)).2
            have g2 := (List.mem_filter.mp (zhas_in w2)).2
            intro T9 hT9 X9
            have hsize : s.heap.size ≤ H.size := by
              have h9 : s.heap.size ≤ T9.heap.size := X9.same.2.1
              rwa [hT9] at h9
            have hsum4 := zsum hst4
            refine (zthrowS (own := zOwn y) (cls := zEx x) (text := tx) (names := ["java/lang/RuntimeException", "java/lang/Exception"]) (ik := i) (is := v) (ic := zgi ws 0) (sa := sa) (A := fun q => B0 ≤ q) hx hb hE.2.2.2.2.1 hown ?_ (by decide +kernel) (hwd _ (zhas_in w1)) (hwd _ (zhas_in w2)) (vk_R.warm hW0 hsa) hatw ?_
              (zZq hW0 hE.2.1 hs0 hE.2.2.2.2.2.1) (zZq hW0 hE.2.1 hs0 hE.2.2.2.2.2.2.1) ?_ (by rw [hml]; exact hL.1) (zdec hd) d3 d4 d6 d9 (fun z hz => ?_) ?_ ?_ (by omega) (by omega) hlk (fun t hal hz9 hq9 => ?_) hlo (by omega) (by omega)) T9 hT9 X9
            · rcases (show x = 0 ∨ x = 1 ∨ x = 2 by omega) with rfl | rfl | rfl <;> decide +kernel
            · intro w hw
              rcases List.mem_cons.mp hw with rfl | hw
              · simp only [vx_ot, g1, Bool.or_true]
              · rcases List.mem_cons.mp hw with rfl | hw
                · simp only [vx_ot, g2, Bool.or_true]
                · exact (hat w hw).2
            · refine ⟨?_, fun q hq hA => ?_, hlo⟩
              · exact hsize
              · have hlt : q < B0 := Nat.lt_of_not_le hA
                rw [hH.2.2.1 q hlt, hs0 q hlt]
            · rw [htb, htx] at hz
              cases hz
            · show 2 + 3 < R.frames
              omega
            · show _ + (13 * (2 + 1) + 43) ≤ R.locals
              omega
            · exact ⟨x, hx3, rfl, rfl, zHp_new hH hz9 hq9 (by decide) (fun h9 => by omega)⟩
          all_goals first | (simp [zsort] at hs3; done) | (simp only [zsort] at hs3; split at hs3 <;> cases hs3)
        · next hs3 =>
          split at h
          · -- a call
            next hs2 =>
            split at h
            · cases h
            · next as rest ha =>
              obtain ⟨-, hlen, -, hcat, -⟩ := zargs_ok ha
              have hvx : o.2.2.2.2.1 ≤ zX o.2.2.2.1 := by
                obtain ⟨pc, i, n, x, v, z, ws⟩ := o
                cases i
                case invokevirtual i =>
                  have hz : z = 100 := by
                    by_cases h9 : z = 100
                    · exact h9
                    · simp [zsort, h9] at hs2
                  simp only [zok, Bool.and_eq_true, decide_eq_true_eq, if_pos hz] at hO
                  exact hO.2.2.2.2.2.2.2.2.2.2.2.2.2.2.1
                case invokespecial i =>
                  have hz : z = 101 := by
                    by_cases h9 : z = 101
                    · exact h9
                    · simp [zsort, h9] at hs2
                  simp only [zok, Bool.and_eq_true, decide_eq_true_eq, if_pos hz] at hO
                  exact hO.2.2.2.2.2.2.2.2.2.2.2.2.2.1
                case invokestatic i =>
                  have hz : z = 102 ∨ z = 103 ∨ z = 104 := by
                    by_cases h9 : z = 102 ∨ z = 103 ∨ z = 104
                    · exact h9
                    · simp [zsort, h9] at hs2
                  simp only [zok, Bool.and_eq_true, decide_eq_true_eq, if_pos hz] at hO
                  exact hO.2.2.2.2.2.2.2.2.2.1
                all_goals first | (simp [zsort] at hs2; done) | (simp only [zsort] at hs2; split at hs2 <;> cases hs2)
              have hmeet : ∀ (r1 : zRes) (μ1 : zM), zrn zcode zX zHd de mi f o.2.2.2.1 0 (zent (zX o.2.2.2.1) as) [] μ = some (r1, μ1) → zMet D T B0 U0 l o.2.2.2.1 as μ r1 μ1 := by
                intro r1 μ1 h1
                have hx79 : o.2.2.2.1 < 79 := by
                  cases f with
                  | zero => simp [zrn] at h1
                  | succ f =>
                    simp only [zrn] at h1
                    split at h1
                    · cases h1
                    · next o9 ho9 => exact zcode_lt ho9
                refine zmeet hx79 hcat (by omega) hE (fun p2 e2 R2 s2 m2 args2 below2 meth2 cc2 lsA2 hC2 hR2 hR3 hH2 hL2 => ?_)
                have k := ih _ _ _ _ _ _ _ h1 p2 e2 R2 s2 m2 args2 below2 meth2 cc2 (zC μ) (zL μ) s2.heap [] lsA2 hC2 (Nat.le_of_eq hR2.symm) (Nat.le_of_eq hR3.symm) (Nat.le_refl _) (Nat.le_refl _) hH2 hL2 (fun _ h9 => nomatch h9)
                rw [Nat.sub_self, Nat.sub_self] at k
                exact k
              split at h
              · cases h
              · next v μ1 h1 =>
                have m1 := zrn_mono _ _ _ _ _ _ _ _ h1
                have m2 := zrn_mono _ _ _ _ _ _ _ _ h
                subst hpc
                obtain ⟨hn3, hrun⟩ := zcall (e := e) (below := below) (locs := locs) (cells := zC μ - c0) (slots := zL μ - l0) hE hC hO hs2 ha hH hL.1 (hmeet _ _ h1) (by omega) (by omega)
                intro T9 hT9 X9
                rcases hrun T9 hT9 X9 with ⟨v9, st₀, t, T', L, h0, X', hLf, e1, e2, ⟨v8, hv8, hv9, hH8⟩, stp⟩ | ⟨q, st₀, t, T', L, E, ce, h0, X', hLf, e1, e2, ⟨k9, hk9, hr9, -⟩, -⟩
                · cases hv8
                  cases hv9
                  have hH' : zHp D T B0 U0 μ1 T'.heap := by rw [e1]; exact hH8
                  have k := ih _ _ _ _ _ _ _ h p e R s m args below meth cc c0 l0 T'.heap (locs ++ L) lsA hC hRc hRs (by omega) (by omega) hH' hL (fun z hz => (List.mem_append.mp hz).elim (hlo z) (hLf z))
                  have q1 : zC μ - c0 + (zC μ1 - zC μ) = zC μ1 - c0 := by omega
                  have q2 : zL μ - l0 + (zL μ1 - zL μ) = zL μ1 - l0 := by omega
                  rw [q1, q2] at X'
                  rw [hn3] at k
                  obtain ⟨t2, a1, b1⟩ := k T' rfl X'
                  exact ⟨t2, stp t2 a1, b1⟩
                · cases hr9
              · next E μ1 h1 =>
                have m1 := zrn_mono _ _ _ _ _ _ _ _ h1
                subst hpc
                have hle : zC μ1 ≤ zC μ' ∧ zL μ1 ≤ zL μ' := by
                  split at h
                  · cases h; exact ⟨Nat.le_refl _, Nat.le_refl _⟩
                  · split at h
                    · cases h
                    · split at h
                      · exact zrn_mono _ _ _ _ _ _ _ _ h
                      · cases h
                obtain ⟨hn3, hrun⟩ := zcall (e := e) (below := below) (locs := locs) (cells := zC μ - c0) (slots := zL μ - l0) hE hC hO hs2 ha hH hL.1 (hmeet _ _ h1) (by omega) (by omega)
                intro T9 hT9 X9
                rcases hrun T9 hT9 X9 with ⟨v9, st₀, t, T', L, h0, X', hLf, e1, e2, ⟨v8, hv8, hv9, hH8⟩, stp⟩ | ⟨q, st₀, t, T', L, E9, ce, h0, X', hLf, e1, e2, ⟨k9, hk9, hr9, hE9, hH8⟩, hce, hcv, hcl, stp⟩
                · cases hv8
                · cases hr9
                  subst hE9
                  have hH' : zHp D T B0 U0 μ1 T'.heap := by rw [e1]; exact hH8
                  have hce' : T'.heap[q]? = some ce := by rw [e1]; exact hce
                  have hlo' : ∀ z ∈ locs ++ L, B0 ≤ z.base := fun z hz => (List.mem_append.mp hz).elim (hlo z) (hLf z)
                  have q1 : zC μ - c0 + (zC μ1 - zC μ) = zC μ1 - c0 := by omega
                  have q2 : zL μ - l0 + (zL μ1 - zL μ) = zL μ1 - l0 := by omega
                  rw [q1, q2] at X'
                  suffices hw : vx_W p l e R s m args below meth cc T'.heap (locs ++ L) (zC μ1 - c0) (zL μ1 - l0) (vx_MQ below (zQc D T B0 U0 r μ') (zXc D T B0 U0 r μ') args s (zC μ' - c0) (zL μ' - l0) (fun q => B0 ≤ q)) (F0 m o.1 lsA rest) q by
                    obtain ⟨t2, a1, b1⟩ := hw T' rfl X'
                    exact ⟨t2, stp.trans a1, b1⟩
                  split at h
                  · next hf =>
                    cases h
                    refine vx_outP hown hlk (E := zEx E) (fun z hz => ?_) hce' hcv hcl (fun t9 ht9 _ => ⟨E, hk9, rfl, rfl, by rw [ht9]; exact hH'⟩) hlo' (Nat.le_refl _) (Nat.le_refl _)
                    rw [htb] at hz
                    obtain ⟨i, hi⟩ := List.getElem?_of_mem hz
                    have hi2 : (zTb y)[i]? ≠ none := by
                      intro h9
                      unfold tableOf at hi
                      rw [List.getElem?_map, h9] at hi
                      cases hi
                    obtain ⟨q0, hq0⟩ := Option.ne_none_iff_exists'.mp hi2
                    obtain ⟨e0, he0⟩ := zrow' hy hq0
                    exact zpass hy hX hW0 hwd hk9 he0 (zfind_none _ _ _ hf _ _ he0) hi
                  · next hh hf =>
                    obtain ⟨i, q0, g1, g2, g3, g4, g5, g6⟩ := zfind_some _ _ _ _ hf
                    obtain ⟨ct, r1, r2, r3, r4⟩ := zrow hy g1
                    have hrow : (tableOf (zTb y))[i]? = some ⟨q0.1, q0.2.1, q0.2.2.1, ct⟩ := by
                      unfold tableOf
                      rw [List.getElem?_map, r1]
                      rfl
                    have hil := (List.getElem?_eq_some_iff.mp hrow).1
                    have hsplit : cc.exceptionTable.toList = (tableOf (zTb y)).take i ++ ⟨q0.1, q0.2.1, q0.2.2.1, ct⟩ :: (tableOf (zTb y)).drop (i + 1) := by
                      rw [htb]
                      have h9 := (List.getElem?_eq_some_iff.mp hrow).2
                      have h8 := List.drop_eq_getElem_cons hil
                      rw [h9] at h8
                      rw [← h8, List.take_append_drop]
                    obtain ⟨a0, ha0⟩ := hE.2.2.1
                    have hcast : (Cond.castable (zEx E) (zEx q0.2.2.2)).before args s = true := by
                      rw [g4]
                      exact va_Nw.use rfl (va_Nw.warmC hW0 (va_Nw.of rfl (ha0 _ (zEx_castable E hk9))))
                    refine vx_catch (name := zEx q0.2.2.2) hown ((tableOf (zTb y)).take i) ⟨q0.1, q0.2.1, q0.2.2.1, ct⟩ ((tableOf (zTb y)).drop (i + 1)) hsplit (fun z hz => ?_) ?_ r2 (hwd _ (zhas_in r4)) hcast hce' hcv hcl ?_
                    · obtain ⟨j, hj⟩ := List.getElem?_of_mem hz
                      have hji : j < i := by
                        have := (List.getElem?_eq_some_iff.mp hj).1
                        rw [List.length_take] at this
                        omega
                      rw [List.getElem?_take_of_lt hji] at hj
                      have hi2 : (zTb y)[j]? ≠ none := by
                        intro h9
                        unfold tableOf at hj
                        rw [List.getElem?_map, h9] at hj
                        cases hj
                      obtain ⟨q1, hq1⟩ := Option.ne_none_iff_exists'.mp hi2
                      obtain ⟨e0, he0⟩ := zrow' hy hq1
                      exact zpass hy hX hW0 hwd hk9 he0 (g6 j _ hji he0) hj
                    · simp only [covers, Bool.and_eq_true, decide_eq_true_eq]
                      exact ⟨g2, g3⟩
                    · split at h
                      · cases h
                      · next n9 x9 hgo =>
                        split at h
                        · next hx9 =>
                          have hgo' : W p l e R s m args below meth cc T'.heap (locs ++ L) (zC μ1 - c0) (zL μ1 - l0) (vx_MQ below (zQc D T B0 U0 r μ') (zXc D T B0 U0 r μ') args s (zC μ' - c0) (zL μ' - l0) (fun q => B0 ≤ q)) (F0 m hh lsA [.ref q]) := by
                            unfold zgo at hgo
                            split at hgo
                            · next pc2 k2 n2 x2 rest2 hc2 =>
                              cases hgo
                              obtain ⟨hO2, hp2⟩ := zcode_ok hc2
                              obtain ⟨v2, z2, ws2⟩ := rest2
                              simp only [zok, Bool.and_eq_true, decide_eq_true_eq] at hO2
                              obtain ⟨hd2, -, hi2, hn2⟩ := hO2
                              simp only at hp2
                              subst hp2
                              subst hn2
                              subst hi2
                              refine lv_astore_n hx hb (zdec hd2) rfl (zlv_has hL) (by rw [← hL.2.2.1]; exact hx9) rfl (fun ls' h' => ?_)
                              exact ih _ _ _ _ _ _ _ h p e R s m args below meth cc c0 l0 T'.heap (locs ++ L) ls' hC hRc hRs (by omega) (by omega) hH' (zlv_setN (zlv_set hL rfl hx9 h')) hlo'
                            · next pc2 k2 n2 x2 rest2 hc2 =>
                              cases hgo
                              obtain ⟨hO2, hp2⟩ := zcode_ok hc2
                              obtain ⟨v2, z2, ws2⟩ := rest2
                              simp only [zok, Bool.and_eq_true, decide_eq_true_eq] at hO2
                              obtain ⟨hd2, -, hi2, hn2⟩ := hO2
                              simp only at hp2
                              subst hp2
                              subst hn2
                              subst hi2
                              refine lv_astore hx hb (zdec hd2) (zlv_has hL) (by rw [← hL.2.2.1]; exact hx9) rfl (fun ls' h' => ?_)
                              exact ih _ _ _ _ _ _ _ h p e R s m args below meth cc c0 l0 T'.heap (locs ++ L) ls' hC hRc hRs (by omega) (by omega) hH' (zlv_setN (zlv_set hL rfl hx9 h')) hlo'
                            · cases hgo
                          rw [← g5] at hgo'
                          exact hgo'
                        · cases h
          · next hs2 =>
            split at h
            · cases h
            · next c hc =>
              have hs0' : zsort o = 0 := by
                have : ∀ o : zOp, zsort o = 0 ∨ zsort o = 1 ∨ zsort o = 2 ∨ zsort o = 3 := fun o => by
                  unfold zsort
                  split <;> first | (split <;> simp) | simp
                rcases this o with q | q | q | q
                · exact q
                · exact absurd q hs1
                · exact absurd q hs2
                · exact absurd q hs3
              have m1 := zstep_mono hc
              have m2 := zrn_mono _ _ _ _ _ _ _ _ h
              subst hpc
              refine zgoal_all hO hs0' p l e R s m args below meth cc hE hC ls st μ c hc H locs lsA _ _ _ hH hL hlo (by omega) (by omega) (fun H' locs' lsA' hH' hL' hlo' => ?_)
              have k := ih _ _ _ _ _ _ _ h p e R s m args below meth cc c0 l0 H' locs' lsA' hC hRc hRs (by omega) (by omega) hH' hL' hlo'
              have q1 : zC μ - c0 + (zC c.2.2.2 - zC μ) = zC c.2.2.2 - c0 := by omega
              have q2 : zL μ - l0 + (zL c.2.2.2 - zL μ) = zL c.2.2.2 - l0 := by omega
              rw [q1, q2]
              exact k
end
section
/-! THE CLAIM OUT OF ONE WALK OF THE LAW'S BODY. Your part is whole_start (and what it stands on); all else here is the same for every law, but numbers. -/
def R_law : String := "SpritehallLaw"
def lw_P (b : Addr) (xs : List Int32) (args : Array Value) (s : State) : Prop := args = #[.ref b] ∧ s.IntsAt b xs ∧ xs.length ≤ 260 ∧ (Jvm.Cond.and given_1 narrow_1).before args s = true
def lw_Q (_ : Array Value) (s : State) (o : Outcome) (t : State) : Prop := o = .returned (some (.int 1)) ∧ Framed s o t [] room_1.cells room_1.slots
def lw_Z (below : List Frame) (a : Array Value) (s : State) : State → Prop := fun t => ∃ o, t.status = .running ∧ Ended t below o ∧ lw_Q a s o t
/-- the law's own end, with 1 on the stack, nothing written that was there before, its room as the claim has it -/
theorem lw_ret {p : Program} {l : Launch} {e : Env} {s : State} {m : MethodId} {below : List Frame} {meth : Method} {c : Code} {b : Nat} (hx : p.tables.exec = Jvm.exec) (hb : c.code = code) (hr : meth.sig.returnType = ret) (hlocks : meth.locks = false) {pc : Nat} {H : Heap} {ls : Array Slot} (hdg : decode code pc = .ok (.ireturn, 1)) : W p l e room_1 s m #[Value.ref b] below meth c H [] room_1.cells room_1.slots (lw_Z below #[Value.ref b] s) (F0 m pc ls [.int 1]) := by
  intro T hT X
  obtain ⟨fs, hret, hrun, hended, hW, hframe⟩ := X.leave (v := some (.int 1)) (hlocks := hlocks) (fun h => by rw [hr] at h; cases h)
  have hmeth' : T.vm.method? m = some meth := X.method'
  refine ⟨T.setFrames fs, ?_, .returned (some (.int 1)), hrun, hended, rfl, ⟨_, rfl⟩, hW, hframe⟩
  jvm_step X.here [X.here.top, hx, hb, hdg, hmeth', hr, ret, narrow_b1]
  (try refine ⟨rfl, ?_⟩); (try refine ⟨rfl, ?_⟩)
  first | (intro acts; rw [hret _ acts rfl rfl rfl]) | rw [hret _ _ rfl rfl rfl]
  exact Steps.refl _
/-- what holds at the law's entry: the machine, the code, the tables' words (any of lw_tbl by 'hts w (by decide +kernel)'), the script of L ints xs at the cell b, what the Statement gives of the start (any of its parts by flat_of_before) -/
def lw_At (p : Program) (s : State) (m : MethodId) (meth : Method) (c : Code) (b L : Nat) (xs : Nat → Int32) : Prop :=
  p.tables.exec = Jvm.exec ∧ c.code = code ∧ meth.sig.returnType = ret ∧ c.maxLocals = 5 ∧ s.vm.findClass R_law = some m.cls ∧ (∀ w ∈ lw_tbl, w.before #[Value.ref b] s = true) ∧ va_X b L xs s s.heap ∧ b < s.heap.size ∧ meth.locks = false ∧ (Jvm.Cond.and given_1 narrow_1).before #[Value.ref b] s = true ∧ c.exceptionTable.toList = []
/-! ===== the law's start: what the tables and the Statement say, as the run's environment ===== -/
theorem zKn {s : State} {b : Nat} (hts : ∀ w ∈ lw_tbl, w.before #[Value.ref b] s = true) : ∃ (D : va_G), ∀ (k : Nat) (q : vw_C), vwCl[k]? = some q → u_Kn s q.1 q.2.1 q.2.2 (D.1 k) (D.2 k) := by
  have key : ∀ x, x < 8 → ∃ (cC : ClassId) (iS : Nat → Nat), u_Kn s (zRC x) (zTC x) (zNf x) cC iS := by
    intro x hx
    have hi : ∀ x, x < 8 → Cond.instantiable (zRC x) (zNf x) ∈ lw_tbl := by decide +kernel
    exact u_known hts (fun w hw => (zlay0 x hx w hw).1) (hts _ (hi x hx))
  have key2 : ∀ x, ∃ (q : ClassId × (Nat → Nat)), x < 8 → u_Kn s (zRC x) (zTC x) (zNf x) q.1 q.2 := by
    intro x
    by_cases hx : x < 8
    · obtain ⟨a, b, h⟩ := key x hx
      exact ⟨(a, b), fun _ => h⟩
    · exact ⟨(0, fun _ => 0), fun h => absurd h hx⟩
  refine ⟨(fun k => (Classical.choose (key2 k)).1, fun k => (Classical.choose (key2 k)).2), fun k q hq => ?_⟩
  have hk : k < 8 := (List.getElem?_eq_some_iff.mp hq).1
  have h := Classical.choose_spec (key2 k) hk
  rw [zcl hk] at hq
  cases hq
  exact h
theorem zAr {s : State} {b : Nat} (hts : ∀ w ∈ lw_tbl, w.before #[Value.ref b] s = true) : ∃ T : Nat → ClassId, ∀ (k : Nat) (q : ClassId × FieldType), (zTys T)[k]? = some q → ArrOfT s q.1 q.2 ∧ va_RA s q.1 q.2 := by
  have prim : ∀ ty : FieldType, Cond.arrayClass ty ∈ lw_tbl → (∀ C, ty ≠ .object C) → ∃ cA : ClassId, ArrOfT s cA ty ∧ va_RA s cA ty := by
    intro ty hm hno
    obtain ⟨c, k, comp, h1, h2, h3⟩ := Cond.arrayClass_spec (hts _ hm)
    refine ⟨c, fun n z => ⟨(fun q h => by cases h), k, h2, comp, h3⟩, ?_⟩
    cases ty <;> first | exact h1 | exact absurd rfl (hno _)
  have obj : ∀ C : String, Cond.arrayOver (.object C) ∈ lw_tbl → ∃ cA : ClassId, ArrOfT s cA (.object C) ∧ va_RA s cA (.object C) := by
    intro C hm
    obtain ⟨comp, c, k, h1, -, h2, h3, h4⟩ := Cond.arrayOver_spec (hts _ hm)
    exact ⟨c, fun n z => ⟨(fun q h => by cases h), k, h2, comp, h3⟩, k, comp, h2, h3, h1, h4⟩
  obtain ⟨c0, p0⟩ := prim .int (by decide +kernel) (fun C h => by cases h)
  obtain ⟨c2, p2⟩ := obj RX0 (by decide +kernel)
  obtain ⟨c3, p3⟩ := obj "java/lang/Object" (by decide +kernel)
  refine ⟨fun i => match i with | 0 => c0 | 2 => c2 | _ => c3, fun k q hq => ?_⟩
  match k, hq with
  | 0, hq => cases hq; exact p0
  | 1, hq => cases hq; exact p0
  | 2, hq => cases hq; exact p2
  | 3, hq => cases hq; exact p3
  | k + 4, hq => simp [zTys] at hq
/-- the whole environment, at the law's start -/
theorem zstart {s : State} {b L : Nat} {xs : Nat → Int32} {l : Launch} (hflags : l.flags = flags0) (hts : ∀ w ∈ lw_tbl, w.before #[Value.ref b] s = true) (hgv : (Jvm.Cond.and given_1 narrow_1).before #[Value.ref b] s = true) (hX : va_X b L xs s s.heap) :
    ∃ (D : va_G) (T : Nat → ClassId) (de mi : Nat), zEnv D T s.heap.size de mi s l ∧ zEnvX s ∧ zEmp s de s.heap ∧ b ≠ de := by
  have hs := flat_of_before _ hgv
  obtain ⟨D, hD⟩ := zKn hts
  obtain ⟨T, hT⟩ := zAr hts
  have hA : ∀ a : Nat, a < s.heap.size → ¬ s.heap.size ≤ a := fun a h => Nat.not_le.mpr h
  have hex : (Cond.exactly (.static "java/util/ArrayList" "DEFAULTCAPACITY_EMPTY_ELEMENTDATA" "[Ljava/lang/Object;") "[Ljava/lang/Object;").before #[Value.ref b] s = true := hs _ (by decide +kernel)
  have har : (Cond.arrayOf (.static "java/util/ArrayList" "DEFAULTCAPACITY_EMPTY_ELEMENTDATA" "[Ljava/lang/Object;") (.object "java/lang/Object")).before #[Value.ref b] s = true := hs _ (by decide +kernel)
  have hln : (Cond.eq (.length (.static "java/util/ArrayList" "DEFAULTCAPACITY_EMPTY_ELEMENTDATA" "[Ljava/lang/Object;")) (.int 0)).before #[Value.ref b] s = true := hs _ (by decide +kernel)
  obtain ⟨de, cc, cell, k, ev, hcc, hcell, hk, hst, hcls, -⟩ := Cond.exactly_spec hex
  obtain ⟨hiso, hunk⟩ := Cond.arrayOf_spec har ev hcell
  have hsz : cell.slots.size = 0 := by
    cases hv : (Term.length (.static "java/util/ArrayList" "DEFAULTCAPACITY_EMPTY_ELEMENTDATA" "[Ljava/lang/Object;")).eval #[Value.ref b] s none [] s with
    | none => simp [Cond.before, Cond.holds, Cond.value, hv] at hln
    | some v =>
      obtain ⟨a9, c9, q1, q2, q3⟩ := Term.length_spec hv
      cases ev.symm.trans q1
      have q5 := (State.arrayAt?_spec q2).1
      cases hcell.symm.trans q5
      have hsm : ∀ t : Term, t.eval #[Value.ref b] s none [] s = some (.ref de) → (Term.length t).eval #[Value.ref b] s none [] s = some v → cell.slots.size < 2 ^ 31 := by
        intro t ht h9
        simp [Term.eval, ht, q2] at h9
        have := h9.1
        omega
      have q6 := hsm _ ev hv
      rw [q3] at hv
      have h9 := Cond.eq_ints hv (show (Term.int 0).eval #[Value.ref b] s none [] s = some (.int 0) from rfl)
      simp only [Cond.before, Cond.holds, h9] at hln
      have h8 : cell.slots.size.toInt32 = 0 := by simpa using hln
      have h7 := congrArg Int32.toInt h8
      rw [show cell.slots.size.toInt32 = nI cell.slots.size from rfl, nI_toInt q6] at h7
      have h6 : ((0 : Int32)).toInt = 0 := by decide
      omega
  have hmi : (Cond.isRef (.mirror "[Ljava/lang/Object;")).before #[Value.ref b] s = true := hs _ (by decide +kernel)
  obtain ⟨mi, hmi'⟩ := va_Mi.of hmi
  refine ⟨D, T, de, mi, ⟨⟨hD, hT⟩, rfl, ⟨_, hts⟩, ?_, ?_, ?_, ?_, hmi'⟩, ⟨fun own k tx h => ?_, fun i j hi hj hij => ?_⟩, ⟨cell, hcell, hiso, hunk, hsz⟩, fun e => ?_⟩
  · exact va_Zof (hts _ (by decide +kernel)) (hts _ (by decide +kernel)) ev hA
  · unfold Launch.stackTraces; rw [hflags]; decide
  · exact vx_Zqof (hts _ (by decide +kernel)) (hts _ (by decide +kernel)) (hs _ (by decide +kernel)) hA
  · exact vx_Zqof (hts _ (by decide +kernel)) (hts _ (by decide +kernel)) (hs _ (by decide +kernel)) hA
  · have h1 := hts _ h
    cases hc : s.vm.findClass own with
    | none => simp [Cond.before, Cond.holds, Cond.value, hc] at h1
    | some cur =>
      obtain ⟨k9, cf, i, a, -, -, -, -, -, hev⟩ := Cond.stringRef_spec hc h1
      exact ⟨a, vk_R.of h1 hev⟩
  · have hall : ∀ i, i < 3 → ∀ j, j < 3 → i ≠ j → Cond.not (.castable (zEx i) (zEx j)) ∈ flatC (Jvm.Cond.and given_1 narrow_1) := by decide +kernel
    exact va_Nc.of (hs _ (hall i hi j hj hij))
  · obtain ⟨scr, h1, h2, -⟩ := hX
    rw [e, hcell] at h1
    cases h1
    obtain ⟨-, k1, q1, comp1, q2⟩ := h2
    obtain ⟨-, k2, q3, comp2, q4⟩ := hiso
    rw [q1] at q3
    cases q3
    rw [q2] at q4
    cases q4
/-- the memory at the law's start -/
def zmem0 (b de L sz : Nat) (xs : Nat → Int32) : zM := ((fun a => if a = b then (14, L) else if a = de then (15, 0) else (0, 0)), (fun a k => if a = b then xs k else 0), (fun _ _ => none), (fun _ _ => 0), sz, 0, 0)
theorem zstartH {D : va_G} {T : Nat → ClassId} {s : State} {b de L : Nat} {xs : Nat → Int32} (hX : va_X b L xs s s.heap) (hE : zEmp s de s.heap) (hne : b ≠ de) : zHp D T s.heap.size s (zmem0 b de L s.heap.size xs) s.heap := by
  have hb : b < s.heap.size := by obtain ⟨scr, h1, -⟩ := hX; exact (Array.getElem?_eq_some_iff.mp h1).1
  have hd : de < s.heap.size := by obtain ⟨scr, h1, -⟩ := hE; exact (Array.getElem?_eq_some_iff.mp h1).1
  have hK : ∀ a, zK (zmem0 b de L s.heap.size xs) a = if a = b then (14, L) else if a = de then (15, 0) else (0, 0) := fun a => rfl
  have hI : zI (zmem0 b de L s.heap.size xs) b = xs := by funext k; show (if b = b then xs k else 0) = xs k; rw [if_pos rfl]
  refine ⟨fun a => ⟨fun h => ?_, fun h => ?_, fun h => ?_⟩, rfl, fun _ _ => rfl, Nat.le_refl _, fun a h => ?_, fun a h => ?_⟩
  · rw [hK] at h
    split at h
    · exact absurd h.2 (by simp only; decide)
    · split at h
      · exact absurd h.2 (by simp only; decide)
      · exact absurd h.1 (by simp only; decide)
  · rw [hK] at h
    split at h
    · next e => subst e; rw [hK, if_pos rfl, hI]; exact hX
    · split at h
      · exact absurd h (by simp only; decide)
      · exact absurd h (by simp only; decide)
  · rw [hK] at h
    split at h
    · exact absurd h (by simp only; decide)
    · split at h
      · next h1 h2 => subst h2; rw [hK, if_neg h1, if_pos rfl]; exact ⟨hE, rfl⟩
      · exact absurd h (by simp only; decide)
  · rw [hK] at h
    split at h
    · exact absurd h.2 (by simp only; decide)
    · split at h
      · exact absurd h.2 (by simp only; decide)
      · exact absurd h.1 (by simp only; decide)
  · rw [hK] at h
    split at h
    · next e => rw [e]; exact hb
    · split at h
      · next e => rw [e]; exact hd
      · exact absurd h (by simp only; decide)

/-- nothing that was there before is written -/
theorem zframed {s t : State} {o : Outcome} {L : List Loc} {k n k' n' : Nat} (h : FrameEnd s o t L k n) (hL : ∀ q ∈ L, s.heap.size ≤ q.base) (hk : k ≤ k') (hn : n ≤ n') : Framed s o t [] k' n' := by
  obtain ⟨h1, h2, e1, e2, e3, e4, e5, e6⟩ := h
  refine ⟨h1, h2, e1, e2, Nat.le_trans e3 (Nat.add_le_add_left hk _), e4, Nat.le_trans e5 hn, fun a c ha => ?_⟩
  obtain ⟨c', q1, q2, q3, q4⟩ := e6 a c ha
  refine ⟨c', q1, q2, q3, fun i _ => q4 i (fun hm => ?_)⟩
  have := hL _ hm
  have h9 := (Array.getElem?_eq_some_iff.mp ha).1
  simp only at this
  omega
/-- the law's claim, out of its run -/
theorem zwhole {p : Program} {e : Env} {s : State} {m : MethodId} {below : List Frame} {meth : Method} {c : Code} (l : Launch) (hflags : l.flags = flags0) {b L : Nat} {xs : Nat → Int32} (C0 : lw_At p s m meth c b L xs)
    (hrun : ∀ de mi sz : Nat, b ≠ de → b < sz → de < sz → ∃ f μ', zrn zcode zX zHd de mi f mL_law 0 [some (.ref b), none, none, none, none] [] (zmem0 b de L sz xs) = some (.inl (some (.int 1)), μ') ∧ zC μ' ≤ room_1.cells ∧ zL μ' ≤ room_1.slots) :
    W p l e room_1 s m #[Value.ref b] below meth c s.heap [] 0 0 (lw_Z below #[Value.ref b] s) (entryFrame m ([Value.ref b] : List Value).toArray 5) := by
  obtain ⟨hx, hb, hr, hml, hown, hts, hX, hbl, hlocks, hgv, htab⟩ := C0
  obtain ⟨D, T, de, mi, hE, hEX, hEmp, hne⟩ := zstart hflags hts hgv hX
  have hH := zstartH (D := D) (T := T) hX hEmp hne
  have hdl : de < s.heap.size := by obtain ⟨scr, h1, -⟩ := hEmp; exact (Array.getElem?_eq_some_iff.mp h1).1
  obtain ⟨f, μ', hr1, hc1, hc2⟩ := hrun de mi s.heap.size hne hbl hdl
  have hcat : ∀ v ∈ ([Value.ref b] : List Value), v.category = 1 := fun v hv => by rw [List.mem_singleton.mp hv]; rfl
  have hl := zentry (n := 5) hcat (Nat.le_of_ble_eq_true rfl)
  rw [lg_entry_eq]
  have hC : zCtx D T s.heap.size de mi s mL_law p l room_1 s m #[Value.ref b] meth c :=
    ⟨hx, hb, hown, fun w hw => hts w (List.mem_filter.mp hw).1, hml, hlocks, hr, by decide, by decide, State.WarmedH.refl s, fun _ _ => rfl, Nat.le_refl _, (fun h => by cases h), htab⟩
  have k := zrn_sound hE hEX f mL_law 0 [some (.ref b), none, none, none, none] [] (zmem0 b de L s.heap.size xs) _ μ' hr1 p e room_1 s m #[Value.ref b] below meth c 0 0 s.heap [] _ hC (by rw [Nat.sub_zero]; exact hc1) (by rw [Nat.sub_zero]; exact hc2) (Nat.le_refl _) (Nat.le_refl _) hH hl (fun _ h => nomatch h)
  intro T9 hT9 X9
  obtain ⟨t, st, o, h1, h2, h3⟩ := k T9 hT9 X9
  refine ⟨t, st, o, h1, h2, ?_⟩
  rcases h3 with ⟨⟨v, hv1, hv2, -⟩, Lf, hf, hLf⟩ | ⟨q, -, E, ce, Lf, ⟨k9, -, hv1, -⟩, -⟩
  · cases hv1
    exact ⟨hv2, zframed hf hLf (by rw [Nat.sub_zero]; exact hc1) (by rw [Nat.sub_zero]; exact hc2)⟩
  · cases hv1
end
section
/-! ===== REASONING ABOUT RUNS: from here on there is no machine, only zrn ===== -/
/-- from here method y's run ends with Q -/
def zH (de mi y pc : Nat) (ls : List (Option Value)) (st : List Value) (μ : zM) (Q : zRes → zM → Prop) : Prop :=
  ∃ f r μ', zrn zcode zX zHd de mi f y pc ls st μ = some (r, μ') ∧ Q r μ'
def zCall (de mi x : Nat) (as : List Value) (μ : zM) (Q : zRes → zM → Prop) : Prop := zH de mi x 0 (zent (zX x) as) [] μ Q
/-- E thrown by the call at pc -/
def zHx (de mi y pc : Nat) (ls : List (Option Value)) (E : Nat) (μ : zM) (Q : zRes → zM → Prop) : Prop := match zfind (zHd y) pc E with
  | none => Q (.inr E) μ
  | some h => match zgo zcode y h with
    | none => False
    | some (n, x) => x < ls.length ∧ zH de mi y n (ls.set x none) [] μ Q
theorem zH.mono {de mi y pc : Nat} {ls : List (Option Value)} {st : List Value} {μ : zM} {Q Q' : zRes → zM → Prop} (h : zH de mi y pc ls st μ Q) (hq : ∀ r μ', Q r μ' → Q' r μ') : zH de mi y pc ls st μ Q' := by
  obtain ⟨f, r, μ', h1, h2⟩ := h
  exact ⟨f, r, μ', h1, hq _ _ h2⟩
theorem zCall.mono {de mi x : Nat} {as : List Value} {μ : zM} {Q Q' : zRes → zM → Prop} (h : zCall de mi x as μ Q) (hq : ∀ r μ', Q r μ' → Q' r μ') : zCall de mi x as μ Q' := zH.mono h hq
/-- a run has one end -/
theorem zH.one {de mi y pc : Nat} {ls : List (Option Value)} {st : List Value} {μ : zM} {r : zRes} {μ' : zM} (h : zH de mi y pc ls st μ (fun r' m => r' = r ∧ m = μ')) (Q : zRes → zM → Prop) : zH de mi y pc ls st μ Q = Q r μ' := by
  obtain ⟨f, r1, m1, h1, rfl, rfl⟩ := h
  refine propext ⟨fun ⟨g, r2, m2, h2, hq⟩ => ?_, fun hq => ⟨f, _, _, h1, hq⟩⟩
  have a := zrn_more h1 g
  have b := zrn_more h2 f
  rw [Nat.add_comm g f, a] at b
  cases b
  exact hq
theorem zCall.one {de mi x : Nat} {as : List Value} {μ : zM} {r : zRes} {μ' : zM} (h : zCall de mi x as μ (fun r' m => r' = r ∧ m = μ')) (Q : zRes → zM → Prop) : zCall de mi x as μ Q = Q r μ' := zH.one h Q
/-- a list of instructions run in a row: the rest of the method from one of them on -/
def zx (de mi y : Nat) (Q : zRes → zM → Prop) : List zOp → Nat → List (Option Value) → List Value → zM → Prop
  | [], p, ls, st, μ => zH de mi y p ls st μ Q
  | o :: L, _, ls, st, μ =>
    if zsort o = 1 then (match zfin o st with | some r => Q r μ | none => False)
    else if zsort o = 3 then st.length ≤ 4 ∧ Q (.inr o.2.2.2.1) (znew μ 0 0 6)
    else if zsort o = 2 then (match zargs o st μ with
      | none => False
      | some (as, rest) => zCall de mi o.2.2.2.1 as μ (fun r μ1 => match r with
        | .inl v => zx de mi y Q L o.2.2.1 ls (v.toList ++ rest) μ1
        | .inr E => zHx de mi y o.1 ls E μ1 Q))
    else (match zstep de mi o ls st μ with
      | none => False
      | some c => if c.1 = o.2.2.1 then zx de mi y Q L c.1 c.2.1 c.2.2.1 c.2.2.2 else zH de mi y c.1 c.2.1 c.2.2.1 c.2.2.2 Q)
def zeqO (a b : zOp) : Bool := decide (a.1 = b.1) && (decide (a.2.1 = b.2.1) && (decide (a.2.2.1 = b.2.2.1) && (decide (a.2.2.2.1 = b.2.2.2.1) && (decide (a.2.2.2.2.1 = b.2.2.2.2.1) && (decide (a.2.2.2.2.2.1 = b.2.2.2.2.2.1) && decide (a.2.2.2.2.2.2 = b.2.2.2.2.2.2))))))
theorem zeqO_ok {a b : zOp} (h : zeqO a b = true) : a = b := by
  obtain ⟨a1, a2, a3, a4, a5, a6, a7⟩ := a
  obtain ⟨b1, b2, b3, b4, b5, b6, b7⟩ := b
  simp only [zeqO, Bool.and_eq_true, decide_eq_true_eq] at h
  obtain ⟨rfl, rfl, rfl, rfl, rfl, rfl, rfl⟩ := h
  rfl
def zat1 (y p : Nat) (o : zOp) : Bool := match zcode y p with
  | some o' => zeqO o' o
  | none => false
theorem zat1_ok {y p : Nat} {o : zOp} (h : zat1 y p o = true) : zcode y p = some o := by
  unfold zat1 at h
  split at h
  · next o' ho => rw [ho, zeqO_ok h]
  · cases h
/-- the list stands in the method's body from p on -/
def zbv (y : Nat) : List zOp → Nat → Bool
  | [], _ => true
  | o :: L, p => decide (o.1 = p) && (zat1 y p o && zbv y L o.2.2.1)
theorem zH_step {de mi y pc : Nat} {ls : List (Option Value)} {st : List Value} {μ : zM} {Q : zRes → zM → Prop} {o : zOp} (ho : zcode y pc = some o) (h0 : zsort o ≠ 1) (h3 : zsort o ≠ 3) (h2 : zsort o ≠ 2) {c : zCf} (hc : zstep de mi o ls st μ = some c) (h : zH de mi y c.1 c.2.1 c.2.2.1 c.2.2.2 Q) : zH de mi y pc ls st μ Q := by
  obtain ⟨f, r, μ', h1, hq⟩ := h
  refine ⟨f + 1, r, μ', ?_, hq⟩
  rw [zrn, ho]
  simp only [if_neg h0, if_neg h3, if_neg h2, hc]
  exact h1
theorem zx_sound {de mi y : Nat} {Q : zRes → zM → Prop} : ∀ (L : List zOp) (p : Nat) (ls : List (Option Value)) (st : List Value) (μ : zM), zbv y L p = true → zx de mi y Q L p ls st μ → zH de mi y p ls st μ Q := by
  intro L
  induction L with
  | nil => intro p ls st μ _ h; exact h
  | cons o L ih =>
    intro p ls st μ hv h
    simp only [zbv, Bool.and_eq_true, decide_eq_true_eq] at hv
    obtain ⟨hp, ho, hv⟩ := hv
    have ho := zat1_ok ho
    unfold zx at h
    by_cases h1 : zsort o = 1
    · rw [if_pos h1] at h
      split at h
      · next r hr =>
        refine ⟨1, r, μ, ?_, h⟩
        rw [zrn, ho]
        simp only [if_pos h1, hr]
      · exact h.elim
    rw [if_neg h1] at h
    by_cases h3 : zsort o = 3
    · rw [if_pos h3] at h
      refine ⟨1, _, _, ?_, h.2⟩
      rw [zrn, ho]
      simp only [if_neg h1, if_pos h3, if_pos h.1]
    rw [if_neg h3] at h
    by_cases h2 : zsort o = 2
    · rw [if_pos h2] at h
      split at h
      · exact h.elim
      · next as rest ha =>
        obtain ⟨f, r, μ1, g1, g2⟩ := h
        rcases r with v | E
        · obtain ⟨f2, r2, μ2, k1, k2⟩ := ih _ _ _ _ hv g2
          refine ⟨f + f2 + 1, r2, μ2, ?_, k2⟩
          have a1 := zrn_more g1 f2
          have a2 := zrn_more k1 f
          rw [Nat.add_comm f2 f] at a2
          rw [zrn, ho]
          simp only [if_neg h1, if_neg h3, if_pos h2, ha, a1]
          exact a2
        · subst hp
          have g3 : zHx de mi y o.1 ls E μ1 Q := g2
          unfold zHx at g3
          split at g3
          · next hf =>
            refine ⟨f + 1, _, _, ?_, g3⟩
            rw [zrn, ho]
            simp only [if_neg h1, if_neg h3, if_pos h2, ha, g1, hf]
          · next hh hf =>
            split at g3
            · exact g3.elim
            · next n x hg =>
              obtain ⟨hx, f2, r2, μ2, k1, k2⟩ := g3
              refine ⟨f + f2 + 1, r2, μ2, ?_, k2⟩
              have a1 := zrn_more g1 f2
              have a2 := zrn_more k1 f
              rw [Nat.add_comm f2 f] at a2
              rw [zrn, ho]
              simp only [if_neg h1, if_neg h3, if_pos h2, ha, a1, hf, hg, if_pos hx]
              exact a2
    rw [if_neg h2] at h
    split at h
    · exact h.elim
    · next c hc =>
      refine zH_step ho h1 h3 h2 hc ?_
      split at h
      · next hn =>
        rw [← hn] at hv
        exact ih _ _ _ _ hv h
      · exact h
/-- what follows a call -/
def zret (de mi y : Nat) (Q : zRes → zM → Prop) (L : List zOp) (n pc : Nat) (ls : List (Option Value)) (rest : List Value) : zRes → zM → Prop := fun r μ1 => match r with
  | .inl v => zx de mi y Q L n ls (v.toList ++ rest) μ1
  | .inr E => zHx de mi y pc ls E μ1 Q
theorem zret_some {de mi y : Nat} {Q : zRes → zM → Prop} {L : List zOp} {n pc : Nat} {ls : List (Option Value)} {rest : List Value} {v : Value} {μ : zM} : zret de mi y Q L n pc ls rest (.inl (some v)) μ = zx de mi y Q L n ls (v :: rest) μ := rfl
theorem zret_none {de mi y : Nat} {Q : zRes → zM → Prop} {L : List zOp} {n pc : Nat} {ls : List (Option Value)} {rest : List Value} {μ : zM} : zret de mi y Q L n pc ls rest (.inl none) μ = zx de mi y Q L n ls rest μ := rfl
theorem zret_thrown {de mi y : Nat} {Q : zRes → zM → Prop} {L : List zOp} {n pc E : Nat} {ls : List (Option Value)} {rest : List Value} {μ : zM} : zret de mi y Q L n pc ls rest (.inr E) μ = zHx de mi y pc ls E μ Q := rfl
end

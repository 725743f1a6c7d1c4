/-! ===== the law's own methods, run over lists and names ===== -/
/-- every call of the class over the lists -/
noncomputable def zm0 (w : zWd) (y : Nat) (as : List Int32) : Option (zR9 × zWd) := match as with
  | [] => if y = 21 then zmV w (nI (zcn (zheld (zD w.1)) w.2.1))
    else if y = 29 then zmV w (zD w.1 16 0)
    else if y = 30 then zmN w (nI (zcn (zfr (zD (zswT w.1))) 12) - nI (zcn (zfr (zD w.1)) 12)) (zswT w.1) w.2.1 0 0
    else if y = 31 then zmV w (nI (zcn (zfr (zD w.1)) 12))
    else if y = 33 then zmV w (zsu (zD w.1) w.2.1)
    else if y = 34 then zmV w (zsu (zD w.1) w.2.1)
    else if y = 37 then zmV w (zse (zD w.1) (zns (zD w.1)) (zns (zD w.1)))
    else none
  | [x] => if y = 17 then zm17 w x
    else if y = 20 then zmV w (if zfd (zD w.1) x w.2.1 = -nI 1 then nI 0 else nI 1)
    else if y = 22 then (if zfd (zD w.1) x w.2.1 = -nI 1 then zmT w 0 else zmV w (nI (zfk w x)))
    else if y = 23 then (if zfd (zD w.1) x w.2.1 = -nI 1 then zmT w 0 else zmV w (zD w.1 2 (zfk w x)))
    else if y = 24 then (if zfd (zD w.1) x w.2.1 = -nI 1 then zmT w 0 else zmV w (zD w.1 5 (zfk w x)))
    else if y = 26 then (if zfd (zD w.1) x w.2.1 = -nI 1 then zmT w 0 else zmV w (nI (zcn (zct (zD w.1) (nI (zfk w x))) (3 * w.2.1))))
    else if y = 28 then zm28 w x
    else if y = 32 then (if zin x (nI 0) (nI 11) = 0 then zmT w 0 else zmV w (zD w.1 12 x.toNatClampNeg))
    else if y = 35 then (if zin x (nI 0) (nI 9) = 0 then zmT w 1 else zmN w (zD w.1 26 0) (zut w.1 26 0 x) w.2.1 0 0)
    else if y = 36 then zm36 w x
    else none
  | [x, p] => if y = 19 then zm19 w x p else if y = 25 then zm25 w x p else none
  | [x, p, k] => if y = 18 then zm18 w x p k else none
  | [a, b, c, d, e] => if y = 16 then zm16 w a b c d e else if y = 27 then zm27 w a b c d e else none
  | _ => none
section M0
variable {b de h mi L : Nat} {xs : Nat → Int32} {μ : zM} {w w' : zWd} {r : zR9} {ρ : Nat → Int32} {Q : zRes → zM → Prop}
theorem zm0_ok {y : Nat} {as : List Int32} (q : zRl b de h L xs w μ) (e : zm0 w y as = some (r, w')) (hq : ∀ μ', zRl b de h L xs w' μ' → Q (zdnR h ρ r) μ') : zCall de mi y (.ref h :: as.map Value.int) μ Q := by
  have hN := q.ia.w0.2
  rcases as with _ | ⟨x, as⟩
  · show zCall de mi y [.ref h] μ Q
    simp only [zm0] at e
    by_cases h1 : y = 21
    · rw [if_pos h1] at e; subst h1
      exact O21 q.2 (q.V e hq)
    rw [if_neg h1] at e
    by_cases h2 : y = 29
    · rw [if_pos h2] at e; subst h2
      exact O29 q.2 (q.V e hq)
    rw [if_neg h2] at e
    by_cases h3 : y = 30
    · rw [if_pos h3] at e; subst h3
      refine O30 q.2 (fun μ' s => ?_)
      rw [← q.ok.sw.2]
      exact zRl.N (c := 0) (s := 0) q.ok.sw s e hq
    rw [if_neg h3] at e
    by_cases h4 : y = 31
    · rw [if_pos h4] at e; subst h4
      exact O31 q.2 (q.V e hq)
    rw [if_neg h4] at e
    by_cases h5 : y = 33
    · rw [if_pos h5] at e; subst h5
      exact O33 q.2 (q.V e hq)
    rw [if_neg h5] at e
    by_cases h6 : y = 34
    · rw [if_pos h6] at e; subst h6
      exact O34 q.2 (q.V e hq)
    rw [if_neg h6] at e
    by_cases h7 : y = 37
    · rw [if_pos h7] at e; subst h7
      exact O37 q.2 (q.V e hq)
    rw [if_neg h7] at e
    cases e
  rcases as with _ | ⟨p, as⟩
  · show zCall de mi y [.ref h, .int x] μ Q
    simp only [zm0] at e
    have fk : zfd (zD w.1) x w.2.1 ≠ -nI 1 → ∃ k, k < w.2.1 ∧ zfd (zD w.1) x w.2.1 = nI k ∧ zfk w x = k := fun z => by
      obtain ⟨k, hk, -, -, hv, ek⟩ := zfd_ex hN z
      exact ⟨k, hk, hv, ek⟩
    by_cases h1 : y = 17
    · rw [if_pos h1] at e; subst h1
      exact E17 q e hq
    rw [if_neg h1] at e
    by_cases h2 : y = 20
    · rw [if_pos h2] at e; subst h2
      exact O20 q.2 (q.V e hq)
    rw [if_neg h2] at e
    by_cases h3 : y = 22
    · rw [if_pos h3] at e; subst h3
      by_cases z : zfd (zD w.1) x w.2.1 = -nI 1
      · rw [if_pos z] at e
        exact O22a q.2 z (fun μ' s => q.T s e hq)
      · rw [if_neg z] at e
        obtain ⟨k, hk, hv, ek⟩ := fk z
        rw [ek] at e
        exact O22b q.2 hv hk (q.V e hq)
    rw [if_neg h3] at e
    by_cases h4 : y = 23
    · rw [if_pos h4] at e; subst h4
      by_cases z : zfd (zD w.1) x w.2.1 = -nI 1
      · rw [if_pos z] at e
        exact O23a q.2 z (fun μ' s => q.T s e hq)
      · rw [if_neg z] at e
        obtain ⟨k, hk, hv, ek⟩ := fk z
        rw [ek] at e
        exact O23b q.2 hv hk (q.V e hq)
    rw [if_neg h4] at e
    by_cases h5 : y = 24
    · rw [if_pos h5] at e; subst h5
      by_cases z : zfd (zD w.1) x w.2.1 = -nI 1
      · rw [if_pos z] at e
        exact O24a q.2 z (fun μ' s => q.T s e hq)
      · rw [if_neg z] at e
        obtain ⟨k, hk, hv, ek⟩ := fk z
        rw [ek] at e
        exact O24b q.2 hv hk (q.V e hq)
    rw [if_neg h5] at e
    by_cases h6 : y = 26
    · rw [if_pos h6] at e; subst h6
      by_cases z : zfd (zD w.1) x w.2.1 = -nI 1
      · rw [if_pos z] at e
        exact O26a q.2 z (fun μ' s => q.T s e hq)
      · rw [if_neg z] at e
        obtain ⟨k, hk, hv, ek⟩ := fk z
        rw [ek] at e
        exact O26b q.2 hv hk (q.V e hq)
    rw [if_neg h6] at e
    by_cases h7 : y = 28
    · rw [if_pos h7] at e; subst h7
      exact E28 q e hq
    rw [if_neg h7] at e
    by_cases h8 : y = 32
    · rw [if_pos h8] at e; subst h8
      by_cases z : zin x (nI 0) (nI 11) = 0
      · rw [if_pos z] at e
        exact O32a q.2 z (fun μ' s => q.T s e hq)
      · rw [if_neg z] at e
        exact O32b q.2 z (q.V e hq)
    rw [if_neg h8] at e
    by_cases h9 : y = 35
    · rw [if_pos h9] at e; subst h9
      by_cases z : zin x (nI 0) (nI 9) = 0
      · rw [if_pos z] at e
        exact O35a q.2 z (fun μ' s => q.T s e hq)
      · rw [if_neg z] at e
        exact O35b q.2 z (fun μ' s => zRl.N (c := 0) (s := 0) (q.ok.ut (f := 26) (show 0 < 1 by decide)) s e hq)
    rw [if_neg h9] at e
    by_cases h10 : y = 36
    · rw [if_pos h10] at e; subst h10
      exact E36 q e hq
    rw [if_neg h10] at e
    cases e
  rcases as with _ | ⟨k, as⟩
  · show zCall de mi y [.ref h, .int x, .int p] μ Q
    simp only [zm0] at e
    by_cases h1 : y = 19
    · rw [if_pos h1] at e; subst h1
      exact E19 q e hq
    rw [if_neg h1] at e
    by_cases h2 : y = 25
    · rw [if_pos h2] at e; subst h2
      exact E25 q e hq
    rw [if_neg h2] at e
    cases e
  rcases as with _ | ⟨d, as⟩
  · show zCall de mi y [.ref h, .int x, .int p, .int k] μ Q
    simp only [zm0] at e
    by_cases h1 : y = 18
    · rw [if_pos h1] at e; subst h1
      exact E18 q e hq
    rw [if_neg h1] at e
    cases e
  rcases as with _ | ⟨f, as⟩
  · cases e
  rcases as with _ | ⟨g, as⟩
  · show zCall de mi y [.ref h, .int x, .int p, .int k, .int d, .int f] μ Q
    simp only [zm0] at e
    by_cases h1 : y = 16
    · rw [if_pos h1] at e; subst h1
      exact E16 q e hq
    rw [if_neg h1] at e
    by_cases h2 : y = 27
    · rw [if_pos h2] at e; subst h2
      exact E27 q e hq
    rw [if_neg h2] at e
    cases e
  · cases e
end M0
/-! the run of a method of the law -/
def zisI (v : zV9) : Bool := match v with
  | .inl _ => true
  | .inr k => !(Nat.beq k 0)
theorem zisI_ok {h : Nat} {ρ : Nat → Int32} {v : zV9} (e : zisI v = true) : ∃ x, zden h ρ v = .int x := by
  rcases v with x | k
  · exact ⟨x, rfl⟩
  · refine ⟨ρ k, if_neg (fun q => ?_)⟩
    subst q
    cases e
def zlk9 (ls : List (Option zV9)) (i : Nat) : Option zV9 := match ls[i]? with
  | some (some v) => some v
  | _ => none
def zsuf : List zOp → Nat → List zOp
  | [], _ => []
  | o :: L, p => if o.1 = p then o :: L else zsuf L p
abbrev zSt9 (α : Type) : Type := List zOp × List (Option zV9) × List zV9 × α
/-- one instruction -/
def zls1 {α : Type} (M : α → Nat → List zV9 → Option (zV9 × α)) (B L : List zOp) (pc : Nat) (i : Instr) (x v z : Nat) (ws : List Nat) (ls : List (Option zV9)) (st : List zV9) (w : α) : Option (zSt9 α ⊕ (zV9 × α)) :=
  match i with
  | .iconst _ => some (.inl (L, ls, .inl (zcst z x) :: st, w))
  | .bipush _ => some (.inl (L, ls, .inl (zcst z x) :: st, w))
  | .sipush _ => some (.inl (L, ls, .inl (zcst z x) :: st, w))
  | .ldc _ => if z = 5 then none else some (.inl (L, ls, .inl (nI x) :: st, w))
  | .iload_n _ => (match zlk9 ls x with | some a => if zisI a = true then some (.inl (L, ls, a :: st, w)) else none | none => none)
  | .iload _ => (match zlk9 ls x with | some a => if zisI a = true then some (.inl (L, ls, a :: st, w)) else none | none => none)
  | .aload_n _ => (match zlk9 ls x with | some (.inr k) => if k = 0 then some (.inl (L, ls, .inr 0 :: st, w)) else none | _ => none)
  | .aload _ => (match zlk9 ls x with | some (.inr k) => if k = 0 then some (.inl (L, ls, .inr 0 :: st, w)) else none | _ => none)
  | .istore_n _ => (match st with | a :: r => if zisI a = true ∧ x < ls.length then some (.inl (L, ls.set x (some a), r, w)) else none | _ => none)
  | .istore _ => (match st with | a :: r => if zisI a = true ∧ x < ls.length then some (.inl (L, ls.set x (some a), r, w)) else none | _ => none)
  | .iinc _ _ => (match zlk9 ls x with | some (.inl a) => if x < ls.length then some (.inl (L, ls.set x (some (.inl (a + zcst z v))), st, w)) else none | _ => none)
  | .iadd => (match st with | .inl c :: .inl a :: r => some (.inl (L, ls, .inl (a + c) :: r, w)) | _ => none)
  | .isub => (match st with | .inl c :: .inl a :: r => some (.inl (L, ls, .inl (a - c) :: r, w)) | _ => none)
  | .imul => (match st with | .inl c :: .inl a :: r => some (.inl (L, ls, .inl (a * c) :: r, w)) | _ => none)
  | .ineg => (match st with | .inl a :: r => some (.inl (L, ls, .inl (-a) :: r, w)) | _ => none)
  | .goto _ => some (.inl (zsuf B x, ls, st, w))
  | .ifCond c _ => (match st with
    | .inl a :: r => if (match c with
      | .eq => decide (a = 0)
      | .ne => decide (a ≠ 0)
      | .lt => decide (a < 0)
      | .ge => decide (0 ≤ a)
      | .gt => decide (0 < a)
      | .le => decide (a ≤ 0)) = true then some (.inl (zsuf B x, ls, r, w)) else some (.inl (L, ls, r, w))
    | _ => none)
  | .if_icmp c _ => (match st with
    | .inl d :: .inl a :: r => if (match c with
      | .eq => decide (a = d)
      | .ne => decide (a ≠ d)
      | .lt => decide (a < d)
      | .ge => decide (d ≤ a)
      | .gt => decide (d < a)
      | .le => decide (a ≤ d)) = true then some (.inl (zsuf B x, ls, r, w)) else some (.inl (L, ls, r, w))
    | .inr j :: .inr k :: r => if j = k ∧ j ≠ 0 then (match c with
      | .ne => some (.inl (L, ls, r, w))
      | .eq => some (.inl (zsuf B x, ls, r, w))
      | _ => none) else none
    | _ => none)
  | .invokevirtual _ => if z = 100 ∧ ¬ st.length < v ∧ ¬ 4 + v < st.length ∧ ws.getD 0 0 = 6 then (match (st.take v).reverse with
    | .inr k :: as => if k = 0 then (match M w x (.inr 0 :: as) with
      | some (a, w') => if zisI a = true then some (.inl (L, ls, a :: st.drop v, w')) else none
      | none => none) else none
    | _ => none) else none
  | .invokestatic _ => if (z = 102 ∨ z = 104) ∧ ¬ st.length < v ∧ ¬ 4 + v < st.length then (match M w x (st.take v).reverse with
      | some (a, w') => if zisI a = true then some (.inl (L, ls, a :: st.drop v, w')) else none
      | none => none) else none
  | .new _ => (match st with | [] => some (.inr (.inr pc, w)) | _ => none)
  | .ireturn => (match st with | [.inl a] => if z = 2 ∧ ¬ (a = 0 ∨ a = 1) then none else some (.inr (.inl a, w)) | _ => none)
  | _ => none
noncomputable def zlst {α : Type} (M : α → Nat → List zV9 → Option (zV9 × α)) (B : List zOp) (s : zSt9 α) : Option (zSt9 α ⊕ (zV9 × α)) := match s.1 with
  | [] => none
  | o :: L => zls1 M B L o.1 o.2.1 o.2.2.2.1 o.2.2.2.2.1 o.2.2.2.2.2.1 o.2.2.2.2.2.2 s.2.1 s.2.2.1 s.2.2.2
noncomputable def zlgo {α : Type} (M : α → Nat → List zV9 → Option (zV9 × α)) (B : List zOp) (f : Nat) : zSt9 α → Option (zV9 × α) :=
  @Nat.rec (fun _ => zSt9 α → Option (zV9 × α)) (fun _ => none) (fun _ ih s => match zlst M B s with
    | none => none
    | some (.inl s') => ih s'
    | some (.inr r) => some r) f
theorem zlgo_s {α : Type} {M : α → Nat → List zV9 → Option (zV9 × α)} {B : List zOp} {f : Nat} {s : zSt9 α} : zlgo M B (f + 1) s = (match zlst M B s with
    | none => none
    | some (.inl s') => zlgo M B f s'
    | some (.inr r) => some r) := rfl
/-- places rise, and each instruction goes on at the next -/
def zcont : List zOp → Bool
  | [] => true
  | o :: L => (match L with | [] => true | o' :: _ => decide (o.1 < o'.1) && decide (o.2.2.1 = o'.1)) && zcont L
theorem zcont_tail {o : zOp} {L : List zOp} (h : zcont (o :: L) = true) : zcont L = true := by
  unfold zcont at h
  rw [Bool.and_eq_true] at h
  exact h.2
theorem zcont_lt : ∀ {L : List zOp} {o : zOp}, zcont (o :: L) = true → ∀ q ∈ L, o.1 < q.1
  | [], o, h, q, hq => by cases hq
  | o' :: L, o, h, q, hq => by
    have t := zcont_tail h
    unfold zcont at h
    simp only [Bool.and_eq_true, decide_eq_true_eq] at h
    rcases List.mem_cons.mp hq with e | e
    · rw [e]; exact h.1.1
    · exact Nat.lt_trans h.1.1 (zcont_lt t q e)
theorem zcont_next {o o' : zOp} {L : List zOp} (h : zcont (o :: o' :: L) = true) : o.2.2.1 = o'.1 := by
  unfold zcont at h
  simp only [Bool.and_eq_true, decide_eq_true_eq] at h
  exact h.1.2
theorem zcont_app : ∀ {pre L : List zOp}, zcont (pre ++ L) = true → zcont L = true
  | [], L, h => h
  | o :: pre, L, h => zcont_app (pre := pre) (zcont_tail h)
theorem zcont_find : ∀ {pre : List zOp} {o : zOp} {L : List zOp}, zcont (pre ++ o :: L) = true → (pre ++ o :: L).find? (fun q => q.1 == o.1) = some o
  | [], o, L, h => by
    show (o :: L).find? _ = _
    rw [List.find?_cons_of_pos (by simp)]
  | q :: pre, o, L, h => by
    have hlt := zcont_lt (L := pre ++ o :: L) (o := q) h o (by simp)
    show (q :: (pre ++ o :: L)).find? _ = _
    rw [List.find?_cons_of_neg (by simp; omega)]
    exact zcont_find (zcont_tail (o := q) (L := pre ++ o :: L) h)
theorem zsuf_ok : ∀ (B : List zOp) (p : Nat) (o : zOp) (L : List zOp), zsuf B p = o :: L → o.1 = p ∧ ∃ pre, B = pre ++ o :: L
  | [], p, o, L, h => by cases h
  | q :: B, p, o, L, h => by
    unfold zsuf at h
    by_cases e : q.1 = p
    · rw [if_pos e] at h
      cases h
      exact ⟨e, [], rfl⟩
    · rw [if_neg e] at h
      obtain ⟨a, pre, b⟩ := zsuf_ok B p o L h
      exact ⟨a, q :: pre, by rw [b]; rfl⟩
/-- the locals hold what the names say -/
def zlm (h : Nat) (ρ : Nat → Int32) (ls : List (Option zV9)) (lc : List (Option Value)) : Prop := lc.length = ls.length ∧ ∀ (i : Nat) (v : zV9), zlk9 ls i = some v → zld lc i = some (zden h ρ v)
theorem zlm.set {h : Nat} {ρ : Nat → Int32} {ls : List (Option zV9)} {lc : List (Option Value)} {x : Nat} {a : zV9} (m : zlm h ρ ls lc) (hx : x < ls.length) : zlm h ρ (ls.set x (some a)) (lc.set x (some (zden h ρ a))) := by
  refine ⟨by rw [List.length_set, List.length_set]; exact m.1, fun i v e => ?_⟩
  have hx' : x < lc.length := by rw [m.1]; exact hx
  by_cases q : i = x
  · subst q
    unfold zlk9 at e
    rw [List.getElem?_set_self hx] at e
    cases e
    unfold zld
    rw [List.getElem?_set_self hx']
  · have e2 : zlk9 ls i = some v := by
      unfold zlk9 at e ⊢
      rw [List.getElem?_set_ne (Ne.symm q)] at e
      exact e
    have := m.2 i v e2
    unfold zld at this ⊢
    rw [List.getElem?_set_ne (Ne.symm q)]
    exact this
theorem z01 : (0 : Nat) ≠ 1 := by decide
theorem z03 : (0 : Nat) ≠ 3 := by decide
theorem z02 : (0 : Nat) ≠ 2 := by decide
theorem zeqO_self (o : zOp) : zeqO o o = true := by
  simp [zeqO]
theorem zbv1 {y pc : Nat} {o : zOp} (ho : zcode y pc = some o) : zbv y [o] pc = true := by
  have e := (zcode_ok ho).2
  simp only [zbv, zat1, ho, zeqO_self, e, decide_true, Bool.and_self]
theorem zH_call {de mi y pc : Nat} {ls : List (Option Value)} {st : List Value} {μ : zM} {Q : zRes → zM → Prop} {o : zOp} {as rest : List Value} (ho : zcode y pc = some o) (h1 : zsort o ≠ 1) (h3 : zsort o ≠ 3) (h2 : zsort o = 2) (ha : zargs o st μ = some (as, rest)) (hc : zCall de mi o.2.2.2.1 as μ (fun r μ1 => match r with
    | .inl v => zH de mi y o.2.2.1 ls (v.toList ++ rest) μ1 Q
    | .inr _ => False)) : zH de mi y pc ls st μ Q := by
  refine zx_sound [o] pc ls st μ (zbv1 ho) ?_
  unfold zx
  rw [if_neg h1, if_neg h3, if_pos h2, ha]
  refine hc.mono (fun r μ1 hr => ?_)
  rcases r with v | E
  · exact hr
  · exact hr.elim
theorem zH_ret {de mi y pc : Nat} {ls : List (Option Value)} {st : List Value} {μ : zM} {Q : zRes → zM → Prop} {o : zOp} {r : zRes} (ho : zcode y pc = some o) (h1 : zsort o = 1) (hr : zfin o st = some r) (hq : Q r μ) : zH de mi y pc ls st μ Q := by
  refine zx_sound [o] pc ls st μ (zbv1 ho) ?_
  unfold zx
  rw [if_pos h1, hr]
  exact hq

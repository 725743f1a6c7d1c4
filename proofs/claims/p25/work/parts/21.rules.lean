/-! ===== REASONING ABOUT RUNS: from here on there is no machine, only zrn ===== -/
/-- from here method y's run ends with Q -/
def zH (de mi y pc : Nat) (ls : List (Option Value)) (st : List Value) (μ : zM) (Q : zRes → zM → Prop) : Prop :=
  ∃ f r μ', zrn zcode zX zHd de mi f y pc ls st μ = some (r, μ') ∧ Q r μ'
def zCall (de mi x : Nat) (as : List Value) (μ : zM) (Q : zRes → zM → Prop) : Prop := zH de mi x 0 (zent (zX x) as) [] μ Q
/-- E thrown by the call at pc -/
def zHx (de mi y pc : Nat) (ls : List (Option Value)) (E : Nat) (μ : zM) (Q : zRes → zM → Prop) : Prop := match zfind (zHd y) pc E with
  | none => Q (.inr E) μ
  | some h => match zgo zcode y h with
    | none => False
    | some (n, x) => x < ls.length ∧ zH de mi y n (ls.set x none) [] μ Q
theorem zH.mono {de mi y pc : Nat} {ls : List (Option Value)} {st : List Value} {μ : zM} {Q Q' : zRes → zM → Prop} (h : zH de mi y pc ls st μ Q) (hq : ∀ r μ', Q r μ' → Q' r μ') : zH de mi y pc ls st μ Q' := by
  obtain ⟨f, r, μ', h1, h2⟩ := h
  exact ⟨f, r, μ', h1, hq _ _ h2⟩
theorem zCall.mono {de mi x : Nat} {as : List Value} {μ : zM} {Q Q' : zRes → zM → Prop} (h : zCall de mi x as μ Q) (hq : ∀ r μ', Q r μ' → Q' r μ') : zCall de mi x as μ Q' := zH.mono h hq
/-- a run has one end -/
theorem zH.one {de mi y pc : Nat} {ls : List (Option Value)} {st : List Value} {μ : zM} {r : zRes} {μ' : zM} (h : zH de mi y pc ls st μ (fun r' m => r' = r ∧ m = μ')) (Q : zRes → zM → Prop) : zH de mi y pc ls st μ Q = Q r μ' := by
  obtain ⟨f, r1, m1, h1, rfl, rfl⟩ := h
  refine propext ⟨fun ⟨g, r2, m2, h2, hq⟩ => ?_, fun hq => ⟨f, _, _, h1, hq⟩⟩
  have a := zrn_more h1 g
  have b := zrn_more h2 f
  rw [Nat.add_comm g f, a] at b
  cases b
  exact hq
theorem zCall.one {de mi x : Nat} {as : List Value} {μ : zM} {r : zRes} {μ' : zM} (h : zCall de mi x as μ (fun r' m => r' = r ∧ m = μ')) (Q : zRes → zM → Prop) : zCall de mi x as μ Q = Q r μ' := zH.one h Q
/-- a list of instructions run in a row: the rest of the method from one of them on -/
def zx (de mi y : Nat) (Q : zRes → zM → Prop) : List zOp → Nat → List (Option Value) → List Value → zM → Prop
  | [], p, ls, st, μ => zH de mi y p ls st μ Q
  | o :: L, _, ls, st, μ =>
    if zsort o = 1 then (match zfin o st with | some r => Q r μ | none => False)
    else if zsort o = 3 then st.length ≤ 4 ∧ Q (.inr o.2.2.2.1) (znew μ 0 0 6)
    else if zsort o = 2 then (match zargs o st μ with
      | none => False
      | some (as, rest) => zCall de mi o.2.2.2.1 as μ (fun r μ1 => match r with
        | .inl v => zx de mi y Q L o.2.2.1 ls (v.toList ++ rest) μ1
        | .inr E => zHx de mi y o.1 ls E μ1 Q))
    else (match zstep de mi o ls st μ with
      | none => False
      | some c => if c.1 = o.2.2.1 then zx de mi y Q L c.1 c.2.1 c.2.2.1 c.2.2.2 else zH de mi y c.1 c.2.1 c.2.2.1 c.2.2.2 Q)
def zeqO (a b : zOp) : Bool := decide (a.1 = b.1) && (decide (a.2.1 = b.2.1) && (decide (a.2.2.1 = b.2.2.1) && (decide (a.2.2.2.1 = b.2.2.2.1) && (decide (a.2.2.2.2.1 = b.2.2.2.2.1) && (decide (a.2.2.2.2.2.1 = b.2.2.2.2.2.1) && decide (a.2.2.2.2.2.2 = b.2.2.2.2.2.2))))))
theorem zeqO_ok {a b : zOp} (h : zeqO a b = true) : a = b := by
  obtain ⟨a1, a2, a3, a4, a5, a6, a7⟩ := a
  obtain ⟨b1, b2, b3, b4, b5, b6, b7⟩ := b
  simp only [zeqO, Bool.and_eq_true, decide_eq_true_eq] at h
  obtain ⟨rfl, rfl, rfl, rfl, rfl, rfl, rfl⟩ := h
  rfl
def zat1 (y p : Nat) (o : zOp) : Bool := match zcode y p with
  | some o' => zeqO o' o
  | none => false
theorem zat1_ok {y p : Nat} {o : zOp} (h : zat1 y p o = true) : zcode y p = some o := by
  unfold zat1 at h
  split at h
  · next o' ho => rw [ho, zeqO_ok h]
  · cases h
/-- the list stands in the method's body from p on -/
def zbv (y : Nat) : List zOp → Nat → Bool
  | [], _ => true
  | o :: L, p => decide (o.1 = p) && (zat1 y p o && zbv y L o.2.2.1)
theorem zH_step {de mi y pc : Nat} {ls : List (Option Value)} {st : List Value} {μ : zM} {Q : zRes → zM → Prop} {o : zOp} (ho : zcode y pc = some o) (h0 : zsort o ≠ 1) (h3 : zsort o ≠ 3) (h2 : zsort o ≠ 2) {c : zCf} (hc : zstep de mi o ls st μ = some c) (h : zH de mi y c.1 c.2.1 c.2.2.1 c.2.2.2 Q) : zH de mi y pc ls st μ Q := by
  obtain ⟨f, r, μ', h1, hq⟩ := h
  refine ⟨f + 1, r, μ', ?_, hq⟩
  rw [zrn, ho]
  simp only [if_neg h0, if_neg h3, if_neg h2, hc]
  exact h1
theorem zx_sound {de mi y : Nat} {Q : zRes → zM → Prop} : ∀ (L : List zOp) (p : Nat) (ls : List (Option Value)) (st : List Value) (μ : zM), zbv y L p = true → zx de mi y Q L p ls st μ → zH de mi y p ls st μ Q := by
  intro L
  induction L with
  | nil => intro p ls st μ _ h; exact h
  | cons o L ih =>
    intro p ls st μ hv h
    simp only [zbv, Bool.and_eq_true, decide_eq_true_eq] at hv
    obtain ⟨hp, ho, hv⟩ := hv
    have ho := zat1_ok ho
    unfold zx at h
    by_cases h1 : zsort o = 1
    · rw [if_pos h1] at h
      split at h
      · next r hr =>
        refine ⟨1, r, μ, ?_, h⟩
        rw [zrn, ho]
        simp only [if_pos h1, hr]
      · exact h.elim
    rw [if_neg h1] at h
    by_cases h3 : zsort o = 3
    · rw [if_pos h3] at h
      refine ⟨1, _, _, ?_, h.2⟩
      rw [zrn, ho]
      simp only [if_neg h1, if_pos h3, if_pos h.1]
    rw [if_neg h3] at h
    by_cases h2 : zsort o = 2
    · rw [if_pos h2] at h
      split at h
      · exact h.elim
      · next as rest ha =>
        obtain ⟨f, r, μ1, g1, g2⟩ := h
        rcases r with v | E
        · obtain ⟨f2, r2, μ2, k1, k2⟩ := ih _ _ _ _ hv g2
          refine ⟨f + f2 + 1, r2, μ2, ?_, k2⟩
          have a1 := zrn_more g1 f2
          have a2 := zrn_more k1 f
          rw [Nat.add_comm f2 f] at a2
          rw [zrn, ho]
          simp only [if_neg h1, if_neg h3, if_pos h2, ha, a1]
          exact a2
        · subst hp
          have g3 : zHx de mi y o.1 ls E μ1 Q := g2
          unfold zHx at g3
          split at g3
          · next hf =>
            refine ⟨f + 1, _, _, ?_, g3⟩
            rw [zrn, ho]
            simp only [if_neg h1, if_neg h3, if_pos h2, ha, g1, hf]
          · next hh hf =>
            split at g3
            · exact g3.elim
            · next n x hg =>
              obtain ⟨hx, f2, r2, μ2, k1, k2⟩ := g3
              refine ⟨f + f2 + 1, r2, μ2, ?_, k2⟩
              have a1 := zrn_more g1 f2
              have a2 := zrn_more k1 f
              rw [Nat.add_comm f2 f] at a2
              rw [zrn, ho]
              simp only [if_neg h1, if_neg h3, if_pos h2, ha, a1, hf, hg, if_pos hx]
              exact a2
    rw [if_neg h2] at h
    split at h
    · exact h.elim
    · next c hc =>
      refine zH_step ho h1 h3 h2 hc ?_
      split at h
      · next hn =>
        rw [← hn] at hv
        exact ih _ _ _ _ hv h
      · exact h
/-- what follows a call -/
def zret (de mi y : Nat) (Q : zRes → zM → Prop) (L : List zOp) (n pc : Nat) (ls : List (Option Value)) (rest : List Value) : zRes → zM → Prop := fun r μ1 => match r with
  | .inl v => zx de mi y Q L n ls (v.toList ++ rest) μ1
  | .inr E => zHx de mi y pc ls E μ1 Q
theorem zret_some {de mi y : Nat} {Q : zRes → zM → Prop} {L : List zOp} {n pc : Nat} {ls : List (Option Value)} {rest : List Value} {v : Value} {μ : zM} : zret de mi y Q L n pc ls rest (.inl (some v)) μ = zx de mi y Q L n ls (v :: rest) μ := rfl
theorem zret_none {de mi y : Nat} {Q : zRes → zM → Prop} {L : List zOp} {n pc : Nat} {ls : List (Option Value)} {rest : List Value} {μ : zM} : zret de mi y Q L n pc ls rest (.inl none) μ = zx de mi y Q L n ls rest μ := rfl
theorem zret_thrown {de mi y : Nat} {Q : zRes → zM → Prop} {L : List zOp} {n pc E : Nat} {ls : List (Option Value)} {rest : List Value} {μ : zM} : zret de mi y Q L n pc ls rest (.inr E) μ = zHx de mi y pc ls E μ Q := rfl

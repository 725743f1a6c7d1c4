/-! ===== the run over names is a run ===== -/
section SOUND
variable {α : Type} {M : α → Nat → List zV9 → Option (zV9 × α)} {Rel : α → zM → Prop} {de mi h y pc n x v z : Nat} {ρ : Nat → Int32} {B L L' : List zOp} {i : Instr} {ws : List Nat} {ls ls' : List (Option zV9)} {st st' : List zV9} {w w' : α} {lc : List (Option Value)} {μ : zM} {Q : zRes → zM → Prop}
theorem zden0 : zden h ρ (.inr 0) = .ref h := rfl
theorem zdenc {a : zV9} : (zden h ρ a).category = 1 := by
  rcases a with c | k
  · rfl
  · unfold zden
    simp only
    split <;> rfl
theorem zallc : ∀ (l : List zV9), (l.map (zden h ρ)).all (fun v => v.category == 1) = true
  | [] => rfl
  | a :: l => by
    rw [List.map_cons, List.all_cons, zallc l, zdenc]; rfl
set_option maxHeartbeats 4000000 in
theorem zls1_ok (hM : ∀ (w : α) (y : Nat) (as : List zV9) (a : zV9) (w' : α) (μ : zM) (Q : zRes → zM → Prop), M w y as = some (a, w') → Rel w μ → (∀ μ', Rel w' μ' → Q (.inl (some (zden h ρ a))) μ') → zCall de mi y (as.map (zden h ρ)) μ Q)
    (hK : ∀ (w : α) (μ : zM), Rel w μ → zK μ h = (7, 0)) (ho : zcode y pc = some (pc, i, n, x, v, z, ws)) (e : zls1 M B L pc i x v z ws ls st w = some (.inl (L', ls', st', w'))) (m : zlm h ρ ls lc) (R : Rel w μ)
    (k : ∀ (p : Nat) (lc' : List (Option Value)) (μ' : zM), ((L' = L ∧ p = n) ∨ (L' = zsuf B x ∧ p = x)) → zlm h ρ ls' lc' → Rel w' μ' → lc'.length = lc.length → zH de mi y p lc' (st'.map (zden h ρ)) μ' Q) : zH de mi y pc lc (st.map (zden h ρ)) μ Q := by
  cases i
  case iconst j =>
    cases e
    exact zH_step ho z01 z03 z02 (c := (n, lc, .int (zcst z x) :: st.map (zden h ρ), μ)) rfl (k n lc μ (Or.inl ⟨rfl, rfl⟩) m R rfl)
  case bipush j =>
    cases e
    exact zH_step ho z01 z03 z02 (c := (n, lc, .int (zcst z x) :: st.map (zden h ρ), μ)) rfl (k n lc μ (Or.inl ⟨rfl, rfl⟩) m R rfl)
  case sipush j =>
    cases e
    exact zH_step ho z01 z03 z02 (c := (n, lc, .int (zcst z x) :: st.map (zden h ρ), μ)) rfl (k n lc μ (Or.inl ⟨rfl, rfl⟩) m R rfl)
  case ldc j =>
    simp only [zls1] at e
    by_cases q : z = 5
    · rw [if_pos q] at e; cases e
    · rw [if_neg q] at e
      cases e
      exact zH_step ho z01 z03 z02 (c := (n, lc, .int (nI x) :: st.map (zden h ρ), μ)) (if_neg q) (k n lc μ (Or.inl ⟨rfl, rfl⟩) m R rfl)
  case iload_n j =>
    simp only [zls1] at e
    split at e
    · next a ha =>
      split at e
      · next hz =>
        cases e
        obtain ⟨c, hc⟩ := zisI_ok (h := h) (ρ := ρ) hz
        have hl := m.2 x a ha
        rw [hc] at hl
        have hs : zstep de mi (pc, .iload_n j, n, x, v, z, ws) lc (st.map (zden h ρ)) μ = some (n, lc, .int c :: st.map (zden h ρ), μ) := by simp only [zstep, hl]
        have kk := k n lc μ (Or.inl ⟨rfl, rfl⟩) m R rfl
        rw [List.map_cons, hc] at kk
        exact zH_step ho z01 z03 z02 hs kk
      · cases e
    · cases e
  case iload j =>
    simp only [zls1] at e
    split at e
    · next a ha =>
      split at e
      · next hz =>
        cases e
        obtain ⟨c, hc⟩ := zisI_ok (h := h) (ρ := ρ) hz
        have hl := m.2 x a ha
        rw [hc] at hl
        have hs : zstep de mi (pc, .iload j, n, x, v, z, ws) lc (st.map (zden h ρ)) μ = some (n, lc, .int c :: st.map (zden h ρ), μ) := by simp only [zstep, hl]
        have kk := k n lc μ (Or.inl ⟨rfl, rfl⟩) m R rfl
        rw [List.map_cons, hc] at kk
        exact zH_step ho z01 z03 z02 hs kk
      · cases e
    · cases e
  case aload_n j =>
    simp only [zls1] at e
    split at e
    · next a ha =>
      split at e
      · next hz =>
        subst hz
        cases e
        have hl := m.2 x _ ha
        rw [zden0] at hl
        have hs : zstep de mi (pc, .aload_n j, n, x, v, z, ws) lc (st.map (zden h ρ)) μ = some (n, lc, .ref h :: st.map (zden h ρ), μ) := by simp only [zstep, hl]
        exact zH_step ho z01 z03 z02 hs (k n lc μ (Or.inl ⟨rfl, rfl⟩) m R rfl)
      · cases e
    · cases e
  case aload j =>
    simp only [zls1] at e
    split at e
    · next a ha =>
      split at e
      · next hz =>
        subst hz
        cases e
        have hl := m.2 x _ ha
        rw [zden0] at hl
        have hs : zstep de mi (pc, .aload j, n, x, v, z, ws) lc (st.map (zden h ρ)) μ = some (n, lc, .ref h :: st.map (zden h ρ), μ) := by simp only [zstep, hl]
        exact zH_step ho z01 z03 z02 hs (k n lc μ (Or.inl ⟨rfl, rfl⟩) m R rfl)
      · cases e
    · cases e
  case istore_n j =>
    rcases st with _ | ⟨a, r⟩
    · cases e
    simp only [zls1] at e
    split at e
    · next hz =>
      cases e
      obtain ⟨c, hc⟩ := zisI_ok (h := h) (ρ := ρ) hz.1
      have m2 := m.set (a := a) hz.2
      have kk := k n _ μ (Or.inl ⟨rfl, rfl⟩) m2 R (by rw [List.length_set])
      rw [hc] at kk
      rw [List.map_cons, hc]
      exact zH_step ho z01 z03 z02 (c := (n, lc.set x (some (.int c)), _, μ)) (if_pos (show x < lc.length by rw [m.1]; exact hz.2)) kk
    · cases e
  case istore j =>
    rcases st with _ | ⟨a, r⟩
    · cases e
    simp only [zls1] at e
    split at e
    · next hz =>
      cases e
      obtain ⟨c, hc⟩ := zisI_ok (h := h) (ρ := ρ) hz.1
      have m2 := m.set (a := a) hz.2
      have kk := k n _ μ (Or.inl ⟨rfl, rfl⟩) m2 R (by rw [List.length_set])
      rw [hc] at kk
      rw [List.map_cons, hc]
      exact zH_step ho z01 z03 z02 (c := (n, lc.set x (some (.int c)), _, μ)) (if_pos (show x < lc.length by rw [m.1]; exact hz.2)) kk
    · cases e
  case iinc j1 j2 =>
    simp only [zls1] at e
    split at e
    · next a ha =>
      split at e
      · next hz =>
        cases e
        have hl := m.2 x _ ha
        have m2 := m.set (a := .inl (a + zcst z v)) hz
        have kk := k n _ μ (Or.inl ⟨rfl, rfl⟩) m2 R (by rw [List.length_set])
        have hl' : zld lc x = some (.int a) := hl
        have hs : zstep de mi (pc, .iinc j1 j2, n, x, v, z, ws) lc (st.map (zden h ρ)) μ = some (n, lc.set x (some (.int (a + zcst z v))), st.map (zden h ρ), μ) := by
          simp only [zstep, hl']
          exact if_pos (show x < lc.length by rw [m.1]; exact hz)
        exact zH_step ho z01 z03 z02 hs kk
      · cases e
    · cases e
  case iadd =>
    rcases st with _ | ⟨a | k1, _ | ⟨c | k2, r⟩⟩ <;> try (cases e; done)
    cases e
    exact zH_step ho z01 z03 z02 (c := (n, lc, .int (c + a) :: r.map (zden h ρ), μ)) rfl (k n lc μ (Or.inl ⟨rfl, rfl⟩) m R rfl)
  case isub =>
    rcases st with _ | ⟨a | k1, _ | ⟨c | k2, r⟩⟩ <;> try (cases e; done)
    cases e
    exact zH_step ho z01 z03 z02 (c := (n, lc, .int (c - a) :: r.map (zden h ρ), μ)) rfl (k n lc μ (Or.inl ⟨rfl, rfl⟩) m R rfl)
  case imul =>
    rcases st with _ | ⟨a | k1, _ | ⟨c | k2, r⟩⟩ <;> try (cases e; done)
    cases e
    exact zH_step ho z01 z03 z02 (c := (n, lc, .int (c * a) :: r.map (zden h ρ), μ)) rfl (k n lc μ (Or.inl ⟨rfl, rfl⟩) m R rfl)
  case ineg =>
    rcases st with _ | ⟨a | k1, r⟩ <;> try (cases e; done)
    cases e
    exact zH_step ho z01 z03 z02 (c := (n, lc, .int (-a) :: r.map (zden h ρ), μ)) rfl (k n lc μ (Or.inl ⟨rfl, rfl⟩) m R rfl)
  case goto j =>
    cases e
    exact zH_step ho z01 z03 z02 (c := (x, lc, st.map (zden h ρ), μ)) rfl (k x lc μ (Or.inr ⟨rfl, rfl⟩) m R rfl)
  case ifCond cc j =>
    rcases st with _ | ⟨a | k1, r⟩ <;> try (cases e; done)
    have J : ∀ {c : Prop} [Decidable c], (if c then some (Sum.inl (zsuf B x, ls, r, w)) else some (Sum.inl (L, ls, r, w)) : Option (zSt9 α ⊕ (zV9 × α))) = some (.inl (L', ls', st', w')) → (c → zH de mi y x lc (r.map (zden h ρ)) μ Q) ∧ (¬ c → zH de mi y n lc (r.map (zden h ρ)) μ Q) := by
      intro c _ e
      by_cases q : c
      · rw [if_pos q] at e
        cases e
        exact ⟨fun _ => k x lc μ (Or.inr ⟨rfl, rfl⟩) m R rfl, fun z => absurd q z⟩
      · rw [if_neg q] at e
        cases e
        exact ⟨fun z => absurd z q, fun _ => k n lc μ (Or.inl ⟨rfl, rfl⟩) m R rfl⟩
    have S : ∀ {c : Prop} [Decidable c], zstep de mi (pc, .ifCond cc j, n, x, v, z, ws) lc (.int a :: r.map (zden h ρ)) μ = (if c then some (x, lc, r.map (zden h ρ), μ) else some (n, lc, r.map (zden h ρ), μ)) → (c → zH de mi y x lc (r.map (zden h ρ)) μ Q) ∧ (¬ c → zH de mi y n lc (r.map (zden h ρ)) μ Q) → zH de mi y pc lc (.int a :: r.map (zden h ρ)) μ Q := by
      intro c _ hs g
      by_cases q : c
      · rw [if_pos q] at hs
        exact zH_step ho z01 z03 z02 hs (g.1 q)
      · rw [if_neg q] at hs
        exact zH_step ho z01 z03 z02 hs (g.2 q)
    show zH de mi y pc lc (.int a :: r.map (zden h ρ)) μ Q
    cases cc
    all_goals (simp only [zls1, decide_eq_true_eq] at e; exact S rfl (J e))
  case if_icmp cc j =>
    rcases st with _ | ⟨d | k1, _ | ⟨a | k2, r⟩⟩ <;> try (cases e; done)
    · have J : ∀ {c : Prop} [Decidable c], (if c then some (Sum.inl (zsuf B x, ls, r, w)) else some (Sum.inl (L, ls, r, w)) : Option (zSt9 α ⊕ (zV9 × α))) = some (.inl (L', ls', st', w')) → (c → zH de mi y x lc (r.map (zden h ρ)) μ Q) ∧ (¬ c → zH de mi y n lc (r.map (zden h ρ)) μ Q) := by
        intro c _ e
        by_cases q : c
        · rw [if_pos q] at e
          cases e
          exact ⟨fun _ => k x lc μ (Or.inr ⟨rfl, rfl⟩) m R rfl, fun z => absurd q z⟩
        · rw [if_neg q] at e
          cases e
          exact ⟨fun z => absurd z q, fun _ => k n lc μ (Or.inl ⟨rfl, rfl⟩) m R rfl⟩
      have S : ∀ {c : Prop} [Decidable c], zstep de mi (pc, .if_icmp cc j, n, x, v, z, ws) lc (.int d :: .int a :: r.map (zden h ρ)) μ = (if c then some (x, lc, r.map (zden h ρ), μ) else some (n, lc, r.map (zden h ρ), μ)) → (c → zH de mi y x lc (r.map (zden h ρ)) μ Q) ∧ (¬ c → zH de mi y n lc (r.map (zden h ρ)) μ Q) → zH de mi y pc lc (.int d :: .int a :: r.map (zden h ρ)) μ Q := by
        intro c _ hs g
        by_cases q : c
        · rw [if_pos q] at hs
          exact zH_step ho z01 z03 z02 hs (g.1 q)
        · rw [if_neg q] at hs
          exact zH_step ho z01 z03 z02 hs (g.2 q)
      show zH de mi y pc lc (.int d :: .int a :: r.map (zden h ρ)) μ Q
      cases cc
      all_goals (simp only [zls1, decide_eq_true_eq] at e; exact S rfl (J e))
    · simp only [zls1] at e
      by_cases q : k1 = k2 ∧ k1 ≠ 0
      · rw [if_pos q] at e
        obtain ⟨rfl, q0⟩ := q
        have hd : zden h ρ (.inr k1) = .int (ρ k1) := if_neg q0
        rw [List.map_cons, List.map_cons, hd]
        cases cc <;> try (cases e; done)
        · cases e
          exact zH_step ho z01 z03 z02 (c := (x, lc, _, μ)) (if_pos rfl) (k x lc μ (Or.inr ⟨rfl, rfl⟩) m R rfl)
        · cases e
          exact zH_step ho z01 z03 z02 (c := (n, lc, _, μ)) (if_neg (fun z => z rfl)) (k n lc μ (Or.inl ⟨rfl, rfl⟩) m R rfl)
      · rw [if_neg q] at e; cases e
  case invokevirtual j =>
    simp only [zls1] at e
    split at e
    · next hc =>
      obtain ⟨h100, c1, c2, c6⟩ := hc
      subst h100
      split at e
      · next kk as hr =>
        split at e
        · next k0 =>
          subst k0
          split at e
          · next a w9 hm =>
            split at e
            · next hz =>
              cases e
              have ha : zargs (pc, .invokevirtual j, n, x, v, 100, ws) (st.map (zden h ρ)) μ = some (.ref h :: as.map (zden h ρ), (st.drop v).map (zden h ρ)) := by
                have e1 : ((st.map (zden h ρ)).take v).reverse = .ref h :: as.map (zden h ρ) := by
                  rw [← List.map_take, ← List.map_reverse, hr]; rfl
                have e2 : ((st.map (zden h ρ)).take v).all (fun v => v.category == 1) = true := by
                  rw [← List.map_take]; exact zallc _
                have e3 : ¬ ((st.map (zden h ρ)).length < v ∨ 4 + v < (st.map (zden h ρ)).length ∨ ((st.map (zden h ρ)).take v).all (fun v => v.category == 1) = false) := by
                  rw [List.length_map, e2]
                  rintro (q | q | q)
                  · exact c1 q
                  · exact c2 q
                  · cases q
                simp only [zargs]
                rw [if_neg e3, if_pos trivial, e1]
                simp only
                rw [if_pos (by rw [hK w μ R, c6]), List.map_drop]
              refine zH_call ho (show (2 : Nat) ≠ 1 by decide) (show (2 : Nat) ≠ 3 by decide) rfl ha (hM w x _ a _ μ _ hm R (fun μ' R' => ?_))
              exact k n lc μ' (Or.inl ⟨rfl, rfl⟩) m R' rfl
            · cases e
          · cases e
        · cases e
      · cases e
    · cases e
  case invokestatic j =>
    simp only [zls1] at e
    split at e
    · next hc =>
      obtain ⟨hz9, c1, c2⟩ := hc
      split at e
      · next a w9 hm =>
        split at e
        · next hz =>
          cases e
          have n100 : z ≠ 100 := by omega
          have n101 : z ≠ 101 := by omega
          have ha : zargs (pc, .invokestatic j, n, x, v, z, ws) (st.map (zden h ρ)) μ = some ((st.take v).reverse.map (zden h ρ), (st.drop v).map (zden h ρ)) := by
            have e1 : ((st.map (zden h ρ)).take v).reverse = (st.take v).reverse.map (zden h ρ) := by
              rw [← List.map_take, ← List.map_reverse]
            have e2 : ((st.map (zden h ρ)).take v).all (fun v => v.category == 1) = true := by
              rw [← List.map_take]; exact zallc _
            have e3 : ¬ ((st.map (zden h ρ)).length < v ∨ 4 + v < (st.map (zden h ρ)).length ∨ ((st.map (zden h ρ)).take v).all (fun v => v.category == 1) = false) := by
              rw [List.length_map, e2]
              rintro (q | q | q)
              · exact c1 q
              · exact c2 q
              · cases q
            simp only [zargs]
            rw [if_neg e3, if_neg n100, if_neg n101, e1, List.map_drop]
          have s2 : zsort (pc, .invokestatic j, n, x, v, z, ws) = 2 := if_pos (show z = 102 ∨ z = 103 ∨ z = 104 by omega)
          refine zH_call ho (by rw [s2]; decide) (by rw [s2]; decide) s2 ha (hM w x _ a _ μ _ hm R (fun μ' R' => ?_))
          exact k n lc μ' (Or.inl ⟨rfl, rfl⟩) m R' rfl
        · cases e
      · cases e
    · cases e
  case ireturn =>
    exfalso
    simp only [zls1] at e
    split at e
    · split at e
      · cases e
      · cases e
    · cases e
  case new j =>
    exfalso
    simp only [zls1] at e
    split at e
    · cases e
    · cases e
  all_goals (exfalso; simp [zls1] at e)
set_option maxHeartbeats 4000000 in
theorem zls1_ret (ho : zcode y pc = some (pc, i, n, x, v, z, ws)) {a : zV9} (e : zls1 M B L pc i x v z ws ls st w = some (.inr (a, w'))) : w' = w ∧ (∀ c, a = .inl c → ∀ Q : zRes → zM → Prop, Q (.inl (some (.int c))) μ → zH de mi y pc lc (st.map (zden h ρ)) μ Q) ∧ ∀ p, a = .inr p → p = pc ∧ st = [] := by
  cases i
  case ireturn =>
    rcases st with _ | ⟨a1 | k1, _ | ⟨a2, r⟩⟩ <;> try (simp [zls1] at e; done)
    simp only [zls1] at e
    split at e
    · cases e
    · next hz =>
      cases e
      refine ⟨rfl, fun c ec Q hq => ?_, fun p ep => (by cases ep)⟩
      cases ec
      refine zH_ret ho rfl ?_ hq
      show (if z = 2 then (if a1 = 0 ∨ a1 = 1 then some (.inl (some (.int a1))) else none) else some (.inl (some (.int a1))) : Option zRes) = _
      by_cases q : z = 2
      · rw [if_pos q, if_pos (Classical.byContradiction fun q2 => hz ⟨q, q2⟩)]
      · rw [if_neg q]
  case new j =>
    rcases st with _ | ⟨a1, r⟩
    · cases e
      exact ⟨rfl, fun c ec => (by cases ec), fun p ep => (by cases ep; exact ⟨rfl, rfl⟩)⟩
    · simp [zls1] at e
  all_goals (exfalso; simp only [zls1] at e; try (repeat' (split at e)))
  all_goals (cases e)
theorem zlgo_nil : ∀ (f : Nat) (ls : List (Option zV9)) (st : List zV9) (w : α), zlgo M B f ([], ls, st, w) = none
  | 0, _, _, _ => rfl
  | f + 1, _, _, _ => rfl
theorem zlgo_ok (hM : ∀ (w : α) (y : Nat) (as : List zV9) (a : zV9) (w' : α) (μ : zM) (Q : zRes → zM → Prop), M w y as = some (a, w') → Rel w μ → (∀ μ', Rel w' μ' → Q (.inl (some (zden h ρ a))) μ') → zCall de mi y (as.map (zden h ρ)) μ Q)
    (hK : ∀ (w : α) (μ : zM), Rel w μ → zK μ h = (7, 0)) (hB : zcont (zbody y) = true) {k : Nat} {Q : zRes → zM → Prop} {a : zV9} {w' : α} (hq : ∀ c, a = .inl c → ∀ μ', Rel w' μ' → Q (.inl (some (.int c))) μ') (hs : ∀ p, a = .inr p → ∀ (lc' : List (Option Value)) (μ' : zM), lc'.length = k → Rel w' μ' → zH de mi y p lc' [] μ' Q) : ∀ (f : Nat) (L : List zOp) (ls : List (Option zV9)) (st : List zV9) (w : α), zlgo M (zbody y) f (L, ls, st, w) = some (a, w') → (∃ pre, zbody y = pre ++ L) → ∀ (o : zOp) (L1 : List zOp), L = o :: L1 → ∀ (lc : List (Option Value)) (μ : zM), zlm h ρ ls lc → Rel w μ → lc.length = k → zH de mi y o.1 lc (st.map (zden h ρ)) μ Q := by
  intro f
  induction f with
  | zero => intro L ls st w e; cases e
  | succ f ih =>
    intro L ls st w e hp o L1 eL lc μ m R hk
    subst eL
    obtain ⟨pre, hp⟩ := hp
    have hB2 : zcont (pre ++ o :: L1) = true := by rw [← hp]; exact hB
    have ho : zcode y o.1 = some o := by
      unfold zcode
      rw [hp]
      exact zcont_find hB2
    obtain ⟨pc, i, n, x, v, z, ws⟩ := o
    rw [zlgo_s] at e
    have hz : zlst M (zbody y) ((pc, i, n, x, v, z, ws) :: L1, ls, st, w) = zls1 M (zbody y) L1 pc i x v z ws ls st w := rfl
    rw [hz] at e
    cases hs1 : zls1 M (zbody y) L1 pc i x v z ws ls st w with
    | none => rw [hs1] at e; cases e
    | some s1 =>
      rw [hs1] at e
      rcases s1 with ⟨L2, ls2, st2, w2⟩ | ⟨a2, w2⟩
      · have e : zlgo M (zbody y) f (L2, ls2, st2, w2) = some (a, w') := e
        refine zls1_ok (Rel := Rel) (ρ := ρ) hM hK ho hs1 m R (fun p lc' μ' hpp m' R' hk' => ?_)
        rcases L2 with _ | ⟨o2, L3⟩
        · rw [zlgo_nil] at e; cases e
        rcases hpp with ⟨q1, q2⟩ | ⟨q1, q2⟩
        · subst q1
          have nx := zcont_next (zcont_app (pre := pre) hB2)
          rw [q2, show n = o2.1 from nx]
          exact ih _ _ _ _ e ⟨pre ++ [(pc, i, n, x, v, z, ws)], by rw [hp]; simp⟩ o2 L3 rfl lc' μ' m' R' (hk'.trans hk)
        · obtain ⟨g1, g2⟩ := zsuf_ok _ _ _ _ q1.symm
          rw [q2, ← g1]
          exact ih _ _ _ _ e g2 o2 L3 rfl lc' μ' m' R' (hk'.trans hk)
      · have e : some (a2, w2) = some (a, w') := e
        cases e
        obtain ⟨r1, r2, r3⟩ := zls1_ret (h := h) (ρ := ρ) (de := de) (mi := mi) (lc := lc) (μ := μ) ho hs1
        subst r1
        rcases a with c | p
        · exact r2 c rfl Q (hq c rfl μ R)
        · obtain ⟨g1, g2⟩ := r3 p rfl
          subst g2
          have := hs p rfl lc μ hk R
          rw [g1] at this
          exact this
end SOUND

/-! ===== the drawn hall refuses what there is not ===== -/
def zbadL : List Int32 := [-nI 1, -nI 2, nI 99, nI 2147483647, -nI 2147483647 - nI 1]
def zthD (w : Nat × Nat) (E : Nat) : Option (zR9 × (Nat × Nat)) := some (.inr E, (w.1 + 1, w.2 + 6))
/-- what is known of the drawn hall's answers: f frames have run -/
def zmD (f : Int32) (w : Nat × Nat) (y : Nat) (as : List Int32) : Option (zR9 × (Nat × Nat)) := match as with
  | [] => if y = 21 then some (.inl (.inr 1), w)
    else if y = 33 then some (.inl (.inr 2), w)
    else if y = 31 then some (.inl (.inr 3), w)
    else if y = 37 then some (.inl (.inr 4), w)
    else if y = 29 then some (.inl (.inl f), w)
    else none
  | [x] => if (y = 17 ∨ y = 22 ∨ y = 23 ∨ y = 24 ∨ y = 26 ∨ y = 36) ∧ x ∈ zbadL then zthD w 0
    else if y = 20 ∧ x ∈ zbadL then some (.inl (.inl (nI 0)), w)
    else if y = 28 ∧ zin x (nI 0) (nI 50) = 0 then zthD w 1
    else if y = 32 ∧ zin x (nI 0) (nI 11) = 0 then zthD w 0
    else if y = 35 ∧ zin x (nI 0) (nI 9) = 0 then zthD w 1
    else none
  | [x, p] => if (y = 19 ∨ y = 25) ∧ (x ∈ zbadL ∨ (x = nI 100 ∧ (p < 0 ∨ nI 3 ≤ p))) then zthD w 0 else none
  | [x, z, k] => if y = 18 ∧ (x ∈ zbadL ∨ z ∈ zbadL ∨ zin k (nI 0) (nI 2) = 0) then zthD w 0
    else if y = 18 ∧ x = nI 100 ∧ z = nI 100 ∧ ¬ zin k (nI 0) (nI 2) = 0 then zthD w 1
    else none
  | [a, b, c, d, e] => if y = 16 ∧ a ≠ -nI 1 ∧ a ∈ zbadL then zthD w 0
    else if y = 16 ∧ a = -nI 1 ∧ zrt b c d e = 0 then zthD w 1
    else if y = 27 ∧ (zin a f (nI 500) = 0 ∨ zrt b c d e = 0) then zthD w 1
    else none
  | _ => none
section DRAWN
variable {b de h mi L n c0 s0 : Nat} {xs : Nat → Int32} {μ : zM} {σ : Nat → Nat → Int32} {f : Int32} {w w' : Nat × Nat} {r : zR9} {ρ : Nat → Int32} {Q : zRes → zM → Prop}
def zRd (b de h L : Nat) (xs : Nat → Int32) (σ : Nat → Nat → Int32) (n c0 s0 : Nat) (w : Nat × Nat) (μ : zM) : Prop := zS1 b de h L xs σ n (c0 + w.1) (s0 + w.2) μ
theorem zRd.T {E : Nat} {μ' : zM} (s : zS1 b de h L xs σ n (c0 + w.1 + 1) (s0 + w.2 + 6) μ') (e : zthD w E = some (r, w')) (hq : ∀ μ', zRd b de h L xs σ n c0 s0 w' μ' → Q (zdnR h ρ r) μ') : Q (.inr E) μ' := by
  cases e
  exact hq μ' s
theorem zbad3 {p : Int32} {l : Nat} (hl : l ≤ 3) (hp : p < 0 ∨ nI 3 ≤ p) : zin p (nI 0) (nI l - nI 1) = 0 := by
  refine Classical.byContradiction fun q => ?_
  obtain ⟨j, hj, ej⟩ := zpl2 hl q
  subst ej
  rcases hp with a | a
  · exact nI_pos (by omega) a
  · have := (nI_leI (by omega) (by omega)).mp a
    omega
theorem zmD_ok (hbad : ∀ x, x ∈ zbadL → zfd σ x n = -nI 1) (h100 : zfd σ (nI 100) n = nI 0) (hn : 0 < n) (hf : σ 16 0 = f) (r1 : ρ 1 = nI (zcn (zheld σ) n)) (r2 : ρ 2 = zsu σ n) (r3 : ρ 3 = nI (zcn (zfr σ) 12)) (r4 : ρ 4 = zse σ (zns σ) (zns σ)) {y : Nat} {as : List Int32} (R : zRd b de h L xs σ n c0 s0 w μ) (e : zmD f w y as = some (r, w')) (hq : ∀ μ', zRd b de h L xs σ n c0 s0 w' μ' → Q (zdnR h ρ r) μ') : zCall de mi y (.ref h :: as.map Value.int) μ Q := by
  have s : zS1 b de h L xs σ n (c0 + w.1) (s0 + w.2) μ := R
  have ia := s.2.2.1
  rcases as with _ | ⟨x, as⟩
  · show zCall de mi y [.ref h] μ Q
    simp only [zmD] at e
    by_cases h1 : y = 21
    · rw [if_pos h1] at e; subst h1; cases e
      have q := hq μ R
      refine O21 s ?_
      rw [← r1]; exact q
    rw [if_neg h1] at e
    by_cases h2 : y = 33
    · rw [if_pos h2] at e; subst h2; cases e
      have q := hq μ R
      refine O33 s ?_
      rw [← r2]; exact q
    rw [if_neg h2] at e
    by_cases h3 : y = 31
    · rw [if_pos h3] at e; subst h3; cases e
      have q := hq μ R
      refine O31 s ?_
      rw [← r3]; exact q
    rw [if_neg h3] at e
    by_cases h4 : y = 37
    · rw [if_pos h4] at e; subst h4; cases e
      have q := hq μ R
      refine O37 s ?_
      rw [← r4]; exact q
    rw [if_neg h4] at e
    by_cases h5 : y = 29
    · rw [if_pos h5] at e; subst h5; cases e
      have q := hq μ R
      refine O29 s ?_
      rw [hf]; exact q
    rw [if_neg h5] at e
    cases e
  rcases as with _ | ⟨p, as⟩
  · show zCall de mi y [.ref h, .int x] μ Q
    simp only [zmD] at e
    by_cases h1 : (y = 17 ∨ y = 22 ∨ y = 23 ∨ y = 24 ∨ y = 26 ∨ y = 36) ∧ x ∈ zbadL
    · rw [if_pos h1] at e
      have hv := hbad x h1.2
      rcases h1.1 with rfl | rfl | rfl | rfl | rfl | rfl
      · exact O17a s hv (fun μ' s' => zRd.T s' e hq)
      · exact O22a s hv (fun μ' s' => zRd.T s' e hq)
      · exact O23a s hv (fun μ' s' => zRd.T s' e hq)
      · exact O24a s hv (fun μ' s' => zRd.T s' e hq)
      · exact O26a s hv (fun μ' s' => zRd.T s' e hq)
      · exact O36a s hv (fun μ' s' => zRd.T s' e hq)
    rw [if_neg h1] at e
    by_cases h2 : y = 20 ∧ x ∈ zbadL
    · rw [if_pos h2] at e
      obtain ⟨rfl, h2⟩ := h2
      cases e
      have q := hq μ R
      refine O20 s ?_
      rw [if_pos (hbad x h2)]; exact q
    rw [if_neg h2] at e
    by_cases h3 : y = 28 ∧ zin x (nI 0) (nI 50) = 0
    · rw [if_pos h3] at e
      obtain ⟨rfl, h3⟩ := h3
      exact O28a s h3 (fun μ' s' => zRd.T s' e hq)
    rw [if_neg h3] at e
    by_cases h4 : y = 32 ∧ zin x (nI 0) (nI 11) = 0
    · rw [if_pos h4] at e
      obtain ⟨rfl, h4⟩ := h4
      exact O32a s h4 (fun μ' s' => zRd.T s' e hq)
    rw [if_neg h4] at e
    by_cases h5 : y = 35 ∧ zin x (nI 0) (nI 9) = 0
    · rw [if_pos h5] at e
      obtain ⟨rfl, h5⟩ := h5
      exact O35a s h5 (fun μ' s' => zRd.T s' e hq)
    rw [if_neg h5] at e
    cases e
  rcases as with _ | ⟨k, as⟩
  · show zCall de mi y [.ref h, .int x, .int p] μ Q
    simp only [zmD] at e
    by_cases h1 : (y = 19 ∨ y = 25) ∧ (x ∈ zbadL ∨ (x = nI 100 ∧ (p < 0 ∨ nI 3 ≤ p)))
    · rw [if_pos h1] at e
      obtain ⟨h1, h2⟩ := h1
      rcases h2 with h2 | ⟨h2, h3⟩
      · have hv := hbad x h2
        rcases h1 with rfl | rfl
        · exact O19a s hv (fun μ' s' => zRd.T s' e hq)
        · exact O25a s hv (fun μ' s' => zRd.T s' e hq)
      · subst h2
        obtain ⟨l, hl3, hl⟩ := ia.w7.1 0 hn
        have hp : zin p (nI 0) (σ 7 0 - nI 1) = 0 := by rw [hl]; exact zbad3 hl3 h3
        rcases h1 with rfl | rfl
        · exact O19b s h100 hn hp (fun μ' s' => zRd.T s' e hq)
        · exact O25b s h100 hn hp (fun μ' s' => zRd.T s' e hq)
    rw [if_neg h1] at e
    cases e
  rcases as with _ | ⟨d, as⟩
  · show zCall de mi y [.ref h, .int x, .int p, .int k] μ Q
    simp only [zmD] at e
    by_cases h1 : y = 18 ∧ (x ∈ zbadL ∨ p ∈ zbadL ∨ zin k (nI 0) (nI 2) = 0)
    · rw [if_pos h1] at e
      obtain ⟨rfl, h1⟩ := h1
      refine O18a s ?_ (fun μ' s' => zRd.T s' e hq)
      rcases h1 with h1 | h1 | h1
      · exact Or.inl (hbad x h1)
      · exact Or.inr (Or.inl (hbad p h1))
      · exact Or.inr (Or.inr h1)
    rw [if_neg h1] at e
    by_cases h2 : y = 18 ∧ x = nI 100 ∧ p = nI 100 ∧ ¬ zin k (nI 0) (nI 2) = 0
    · rw [if_pos h2] at e
      obtain ⟨rfl, rfl, rfl, h2⟩ := h2
      exact O18b s h100 hn h100 h2 (fun μ' s' => zRd.T s' e hq)
    rw [if_neg h2] at e
    cases e
  rcases as with _ | ⟨g, as⟩
  · cases e
  rcases as with _ | ⟨g2, as⟩
  · show zCall de mi y [.ref h, .int x, .int p, .int k, .int d, .int g] μ Q
    simp only [zmD] at e
    by_cases h1 : y = 16 ∧ x ≠ -nI 1 ∧ x ∈ zbadL
    · rw [if_pos h1] at e
      obtain ⟨rfl, h1, h2⟩ := h1
      exact O16a s h1 (hbad x h2) (fun μ' s' => zRd.T s' e hq)
    rw [if_neg h1] at e
    by_cases h2 : y = 16 ∧ x = -nI 1 ∧ zrt p k d g = 0
    · rw [if_pos h2] at e
      obtain ⟨rfl, h2, h3⟩ := h2
      exact O16b s (Or.inl h2) h3 (fun μ' s' => zRd.T s' e hq)
    rw [if_neg h2] at e
    by_cases h3 : y = 27 ∧ (zin x f (nI 500) = 0 ∨ zrt p k d g = 0)
    · rw [if_pos h3] at e
      obtain ⟨rfl, h3⟩ := h3
      rw [← hf] at h3
      exact O27a s h3 (fun μ' s' => zRd.T s' e hq)
    rw [if_neg h3] at e
    cases e
  · cases e
end DRAWN
noncomputable def zrunD (f : Int32) : Bool := match zlgo (zM1 (zmD f)) (zbody 74) 4000 (zbody 74, [.inr 0, .inl (nI 100), .inl (nI 99)].map some ++ List.replicate (zX 74 - 3) none, [], (0, 0)) with
  | some (.inl c, w') => decide (c = 1) && (Nat.ble w'.1 300 && Nat.ble w'.2 1800)
  | _ => false
theorem zrD1 : zrunD (nI 1) = true := by decide +kernel
theorem zrD7 : zrunD (nI 7) = true := by decide +kernel
theorem zrD13 : zrunD (nI 13) = true := by decide +kernel
theorem zrD19 : zrunD (nI 19) = true := by decide +kernel
theorem zS1.up {b de h L n cc ss cc' ss' : Nat} {xs : Nat → Int32} {μ : zM} {σ : Nat → Nat → Int32} (s : zS1 b de h L xs σ n cc ss μ) (hc : cc ≤ cc') (hs : ss ≤ ss') : zS1 b de h L xs σ n cc' ss' μ := by
  obtain ⟨⟨m1, m2, m3, m4, m5⟩, r⟩ := s
  exact ⟨⟨m1, m2, m3, Nat.le_trans m4 hc, Nat.le_trans m5 hs⟩, r⟩
theorem zrefD {b de h mi L n c0 s0 : Nat} {xs : Nat → Int32} {μ : zM} {σ : Nat → Nat → Int32} {f : Int32} {Q : zRes → zM → Prop} (hbad : ∀ x, x ∈ zbadL → zfd σ x n = -nI 1) (h100 : zfd σ (nI 100) n = nI 0) (hn : 0 < n) (hf : σ 16 0 = f) (e : zrunD f = true) (s : zS1 b de h L xs σ n c0 s0 μ) (hq : ∀ μ', zS1 b de h L xs σ n (c0 + 300) (s0 + 1800) μ' → Q (.inl (some (.int 1))) μ') : zCall de mi 74 [.ref h, .int (nI 100), .int (nI 99)] μ Q := by
  obtain ⟨ρ, hρ⟩ : ∃ ρ : Nat → Int32, ρ 1 = nI (zcn (zheld σ) n) ∧ ρ 2 = zsu σ n ∧ ρ 3 = nI (zcn (zfr σ) 12) ∧ ρ 4 = zse σ (zns σ) (zns σ) := ⟨fun k => if k = 1 then nI (zcn (zheld σ) n) else if k = 2 then zsu σ n else if k = 3 then nI (zcn (zfr σ) 12) else zse σ (zns σ) (zns σ), rfl, rfl, rfl, rfl⟩
  obtain ⟨r1, r2, r3, r4⟩ := hρ
  unfold zrunD at e
  cases hr : zlgo (zM1 (zmD f)) (zbody 74) 4000 (zbody 74, [.inr 0, .inl (nI 100), .inl (nI 99)].map some ++ List.replicate (zX 74 - 3) none, [], (0, 0)) with
  | none => rw [hr] at e; cases e
  | some q =>
    rw [hr] at e
    obtain ⟨a, w'⟩ := q
    rcases a with c | j
    · simp only [Bool.and_eq_true, decide_eq_true_eq] at e
      obtain ⟨e1, e2, e3⟩ := e
      obtain ⟨o, L1, eL, o0⟩ := zb74h
      have hK : ∀ (w : Nat × Nat) (μ : zM), zRd b de h L xs σ n c0 s0 w μ → zK μ h = (7, 0) := fun w μ R => zS1.kh R
      have k := zlgo_ok (Rel := zRd b de h L xs σ n c0 s0) (ρ := ρ) (y := 74) (de := de) (mi := mi) (Q := Q) (k := 20) (zM1_ok (fun w y as r w' μ Q e R hq => zmD_ok hbad h100 hn hf r1 r2 r3 r4 R e hq) hK) hK zc74 (a := .inl c) (w' := w') (fun c1 ec μ' R' => by
        cases ec
        rw [e1]
        exact hq μ' (zS1.up R' (Nat.add_le_add_left (Nat.le_of_ble_eq_true e2) _) (Nat.add_le_add_left (Nat.le_of_ble_eq_true e3) _))) (fun p ep => by cases ep) 4000 (zbody 74) _ _ _ hr ⟨[], rfl⟩ o L1 eL ([some (.ref h), some (.int (nI 100)), some (.int (nI 99))] ++ List.replicate (zX 74 - 3) none) μ (zlm0 [.inr 0, .inl (nI 100), .inl (nI 99)] _) s rfl
      rw [o0] at k
      exact k
    · cases e

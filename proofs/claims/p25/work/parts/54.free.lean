/-! ===== a free slot behind a sweep ===== -/
theorem zcn_rm {p : Nat → Bool} {t : Nat} (h : p t = true) : ∀ {n}, t < n → zcn (fun k => p k && decide (k ≠ t)) n + 1 = zcn p n
  | n + 1, ht => by
    by_cases e : t = n
    · subst e
      have : zcn (fun k => p k && decide (k ≠ t)) t = zcn p t := zcn_eq (fun k hk => by
        have : k ≠ t := by omega
        simp [this])
      simp only [zcn, this, h]
      simp
    · have a := zcn_rm h (n := n) (by omega)
      have b : n ≠ t := fun q => e q.symm
      show zcn (fun k => p k && decide (k ≠ t)) n + (if (p n && decide (n ≠ t)) = true then 1 else 0) + 1 = zcn p n + (if p n = true then 1 else 0)
      have c : (p n && decide (n ≠ t)) = p n := by simp [b]
      rw [c]
      omega
theorem zcn_inj {n : Nat} {f : Nat → Nat} : ∀ (m : Nat) (p : Nat → Bool), (∀ s, s < m → f s < n ∧ p (f s) = true) → (∀ s s', s < m → s' < m → f s = f s' → s = s') → m ≤ zcn p n
  | 0, _, _, _ => Nat.zero_le _
  | m + 1, p, h, hi => by
    have hm := h m (Nat.lt_succ_self m)
    have a := zcn_rm hm.2 hm.1
    have b := zcn_inj m (fun k => p k && decide (k ≠ f m)) (fun s hs => by
      have q := h s (by omega)
      refine ⟨q.1, ?_⟩
      have : f s ≠ f m := fun e => by have := hi s m (by omega) (Nat.lt_succ_self m) e; omega
      simp [q.2, this]) (fun s s' hs hs' e => hi s s' (by omega) (by omega) e)
    omega
theorem zlo_is (σ : Nat → Nat → Int32) : ∀ d, d ≤ 12 → (zlo σ d = -nI 1 ∧ ∀ s, 12 - d ≤ s → s < 12 → σ 11 s ≠ 0) ∨ ∃ s, 12 - d ≤ s ∧ s < 12 ∧ σ 11 s = 0 ∧ zlo σ d = nI s ∧ ∀ s', 12 - d ≤ s' → s' < s → σ 11 s' ≠ 0
  | 0, _ => Or.inl ⟨rfl, fun s h1 h2 => by omega⟩
  | d + 1, hd => by
    by_cases c : σ 11 (11 - d) = 0
    · exact Or.inr ⟨11 - d, by omega, by omega, c, if_pos c, fun s' h1 h2 => by omega⟩
    · rcases zlo_is σ d (by omega) with ⟨e, a⟩ | ⟨s, h1, h2, h3, e, a⟩
      · refine Or.inl ⟨(if_neg c).trans e, fun s q1 q2 => ?_⟩
        by_cases z : s = 11 - d
        · rw [z]; exact c
        · exact a s (by omega) q2
      · refine Or.inr ⟨s, by omega, h2, h3, (if_neg c).trans e, fun s' q1 q2 => ?_⟩
        by_cases z : s' = 11 - d
        · rw [z]; exact c
        · exact a s' (by omega) q2
/-- fewer than 12 held: a slot is free, at once or behind a sweep -/
theorem zfree {σ : Nat → Nat → Int32} {n : Nat} (hN : n ≤ 40) (w11 : zW11 σ n) (inj : ∀ s s', s < 12 → s' < 12 → σ 11 s ≠ 0 → σ 11 s = σ 11 s' → s = s') (hc : zcn (zheld σ) n < 12) : ∃ s, s < 12 ∧ zlo (zcs σ) 12 = nI s ∧ zcs σ 11 s = 0 ∧ ∀ s', s' < s → zcs σ 11 s' ≠ 0 := by
  have e11 : ∀ s, s < 12 → zsw σ 11 s = zsv σ s := fun s hs => by
    unfold zsw
    rw [zup_f (by decide)]
    exact if_pos ⟨rfl, hs⟩
  rcases zlo_is σ 12 (Nat.le_refl 12) with ⟨e, a⟩ | ⟨s, h1, h2, h3, e, a⟩
  · have ec : zcs σ = zsw σ := if_pos (by rw [e]; exact n1neg)
    rw [ec]
    rcases zlo_is (zsw σ) 12 (Nat.le_refl 12) with ⟨e2, a2⟩ | ⟨s, h1, h2, h3, e2, a2⟩
    · exfalso
      have := zcn_inj (n := n) (f := zly σ) 12 (zheld σ) (fun s hs => by
        have q := a2 s (by omega) hs
        rw [e11 s hs] at q
        unfold zsv at q
        by_cases c : σ 11 s ≠ 0 ∧ σ 10 ((σ 11 s).toNatClampNeg - 1) ≠ 0
        · rcases w11 s hs with z | ⟨t, ht, z⟩
          · exact absurd z c.1
          · have ez := zlyt (σ := σ) (show t < 1000 by omega) z
            refine ⟨by rw [ez]; exact ht, decide_eq_true c.2⟩
        · rw [if_neg c] at q; exact absurd rfl q) (fun s s' hs hs' q => by
        have q1 := a s (by omega) hs
        have q2 := a s' (by omega) hs'
        rcases w11 s hs with z | ⟨t, ht, z⟩
        · exact absurd z q1
        rcases w11 s' hs' with z' | ⟨t', ht', z'⟩
        · exact absurd z' q2
        rw [zlyt (σ := σ) (show t < 1000 by omega) z, zlyt (σ := σ) (show t' < 1000 by omega) z'] at q
        exact inj s s' hs hs' q1 (by rw [z, z', q]))
      omega
    · exact ⟨s, h2, e2, h3, fun s' q => a2 s' (by omega) q⟩
  · have ec : zcs σ = σ := if_neg (by rw [e]; exact nI_pos (by omega))
    rw [ec]
    exact ⟨s, h2, e, h3, fun s' q => a s' (by omega) q⟩


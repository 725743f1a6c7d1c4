/-! ===== the calls keep what is true of the rows ===== -/
section INV2
variable {n : Nat} {σ σ' τ : Nat → Nat → Int32}
theorem zhb (k : Nat) : zheld σ k = true ↔ σ 10 k ≠ 0 := by unfold zheld; exact decide_eq_true_iff
theorem zhbf (k : Nat) : zheld σ k = false ↔ σ 10 k = 0 := by unfold zheld; rw [decide_eq_false_iff_not]; exact Decidable.not_not
theorem zIA.cl (h : zIA σ n) : zCl σ n (fun k => zheld σ k = true) := by
  obtain ⟨-, -, -, -, -, -, -, -, -, hcl, -⟩ := h
  exact ⟨fun k hk a b => (zhb k).mpr (hcl.1 k hk a b), fun j hj a b c => (zhb _).mpr (hcl.2 j hj a ((zhb _).mp b) c)⟩
theorem zIA.lost (h : zIA σ n) (k : Nat) (hk : k < n) (q : zlost σ k = 1) : zheld σ k = false := by
  obtain ⟨-, -, -, -, -, -, wl, -⟩ := h
  exact (zhbf k).mpr (wl.1 k hk q)
theorem zun_Cl {X : Nat → Prop} {k l p : Nat} (hk : k < n) (hl : σ 7 k = nI (l + 1)) (hl3 : l < 3) (hp : p ≤ l) (cl : zCl σ n X) : zCl (zun σ k l p) n X := by
  have e5 : zun σ k l p 5 = σ 5 := zun_n (by decide) (by decide) (by decide)
  refine ⟨fun i hi a b => cl.1 i hi (by rw [← zun_n (σ := σ) (k := k) (l := l) (p := p) (f := 6) (by decide) (by decide) (by decide)]; exact a) (by rw [← e5]; exact b), fun j hj a b c => ?_⟩
  obtain ⟨a1, a2⟩ := a
  rw [zun_89 (Or.inr rfl)] at a2
  rw [e5] at c
  unfold ztg at c ⊢
  rw [zun_89 (Or.inl rfl)] at c ⊢
  by_cases q : j / 3 = k
  · rw [q, zun_7k] at a1
    have jl := (nI_ltI (by omega) (by omega)).mp a1
    by_cases q2 : 3 * k + p ≤ j ∧ j < 3 * k + l
    · rw [if_pos q2] at a2 c ⊢
      refine cl.2 (j + 1) (by omega) ⟨?_, a2⟩ (by rw [show (j + 1) / 3 = j / 3 by omega]; exact b) c
      rw [show (j + 1) / 3 = k by omega, hl, show (j + 1) % 3 = j % 3 + 1 by omega]
      exact nI_lt (by omega) (by omega)
    · rw [if_neg q2] at a2 c ⊢
      refine cl.2 j hj ⟨?_, a2⟩ b c
      rw [q, hl]
      exact nI_lt (by omega) (by omega)
  · rw [zun_7 q] at a1
    rw [if_neg (by omega)] at a2 c ⊢
    exact cl.2 j hj ⟨a1, a2⟩ b c
theorem ztie_Cl {X : Nat → Prop} {k l t : Nat} {kd : Int32} (hl : σ 7 k = nI l) (hl3 : l < 3) (ht : t < 2 ^ 31) (xt : X t) (cl : zCl σ n X) : zCl (ztie σ k l (nI t) kd) n X := by
  have e5 : ztie σ k l (nI t) kd 5 = σ 5 := ztie_n (by decide) (by decide) (by decide)
  have e6 : ztie σ k l (nI t) kd 6 = σ 6 := ztie_n (by decide) (by decide) (by decide)
  refine ⟨fun i hi a b => cl.1 i hi (by rw [← e6]; exact a) (by rw [← e5]; exact b), fun j hj a b c => ?_⟩
  obtain ⟨a1, a2⟩ := a
  rw [e5] at c
  unfold ztg at c ⊢
  by_cases q : j = 3 * k + l
  · rw [q, ztie_8k, nI_clamp ht]; exact xt
  · rw [ztie_8 q] at c ⊢
    rw [ztie_9 q] at a2
    refine cl.2 j hj ⟨?_, a2⟩ b c
    by_cases q2 : j / 3 = k
    · rw [q2, ztie_7k] at a1
      have := (nI_ltI (by omega) (by omega)).mp a1
      rw [q2, hl]
      exact nI_lt (by omega) (by omega)
    · rw [ztie_7 q2] at a1; exact a1
theorem zIA.unroot {k : Nat} (h : zIA σ n) : zIA (zho (zup σ 6 k (nI 0)) n) n := by
  have hc := h.cl
  have hlo := h.lost
  obtain ⟨w0, w7, w9, w11, w13, wc, wl, bey, h01, hcl, hlv, h8, uq, ag⟩ := h
  have e : ∀ f, f ≠ 6 → zup σ 6 k (nI 0) f = σ f := fun f q => zup_f q
  refine zho_inv (zheld σ) ?_ (w7.row (e 7 (by decide)) (e 8 (by decide))) (w9.row (e 7 (by decide)) (e 9 (by decide))) (w11.row (e 11 (by decide))) ?_ ?_ ?_ ?_ ?_ ?_ ⟨fun i hi a b => ?_, fun j hj a b c => ?_⟩ h8 (fun i hi q => hlo i hi ?_)
  · unfold zW0; rw [e 0 (by decide)]; exact w0
  · unfold zW13; rw [e 13 (by decide), e 14 (by decide)]; exact w13
  · unfold zWc; rw [e 2 (by decide), e 4 (by decide)]; exact wc
  · rw [e 11 (by decide)]; exact wl.2
  · rw [e 7 (by decide), e 10 (by decide)]; exact bey
  · unfold zUq; rw [e 1 (by decide)]; exact uq
  · unfold zAg; rw [e 12 (by decide), e 1 (by decide)]; exact ag
  · rw [e 5 (by decide)] at b
    refine hc.1 i hi (fun z => a ?_) b
    by_cases q : i = k
    · rw [q, zup_s]; rfl
    · rw [zup_k q]; exact z
  · unfold zst at a
    unfold ztg at c ⊢
    rw [e 7 (by decide), e 9 (by decide)] at a
    rw [e 5 (by decide), e 8 (by decide)] at c
    rw [e 8 (by decide)]
    exact hc.2 j hj a b c
  · unfold zlost at q ⊢; rw [e 14 (by decide), e 15 (by decide)] at q; exact q
theorem zIA.untie {k l p : Nat} (h : zIA σ n) (hk : k < n) (hl : σ 7 k = nI (l + 1)) (hl3 : l < 3) (hp : p ≤ l) : zIA (zho (zun σ k l p) n) n := by
  have hc := h.cl
  have hlo := h.lost
  obtain ⟨w0, w7, w9, w11, w13, wc, wl, bey, h01, hcl, hlv, h8, uq, ag⟩ := h
  have e : ∀ f, f ≠ 7 → f ≠ 8 → f ≠ 9 → zun σ k l p f = σ f := fun f a b c => zun_n a b c
  obtain ⟨v7, v9⟩ := zun_W w7 w9 hk hl hl3 hp
  refine zho_inv (zheld σ) ?_ v7 v9 (w11.row (e 11 (by decide) (by decide) (by decide))) ?_ ?_ ?_ (fun i hi => ?_) ?_ ?_ (zun_Cl hk hl hl3 hp hc) h8 (fun i hi q => hlo i hi ?_)
  · unfold zW0; rw [e 0 (by decide) (by decide) (by decide)]; exact w0
  · unfold zW13; rw [e 13 (by decide) (by decide) (by decide), e 14 (by decide) (by decide) (by decide)]; exact w13
  · unfold zWc; rw [e 2 (by decide) (by decide) (by decide), e 4 (by decide) (by decide) (by decide)]; exact wc
  · rw [e 11 (by decide) (by decide) (by decide)]; exact wl.2
  · rw [zun_7 (by omega), e 10 (by decide) (by decide) (by decide)]; exact bey i hi
  · unfold zUq; rw [e 1 (by decide) (by decide) (by decide)]; exact uq
  · unfold zAg; rw [e 12 (by decide) (by decide) (by decide), e 1 (by decide) (by decide) (by decide)]; exact ag
  · unfold zlost at q ⊢; rw [e 14 (by decide) (by decide) (by decide), e 15 (by decide) (by decide) (by decide)] at q; exact q
theorem zIA.tie {k l t : Nat} {kd : Int32} (h : zIA σ n) (hk : k < n) (ht : t < n) (hl : σ 7 k = nI l) (hl3 : l < 3) (th : σ 10 t ≠ 0) (hkd : kd = nI 0 ∨ kd = nI 1 ∨ kd = nI 2) : zIA (ztie σ k l (nI t) kd) n := by
  obtain ⟨w0, w7, w9, w11, w13, wc, wl, bey, h01, hcl, hlv, h8, uq, ag⟩ := h
  have e : ∀ f, f ≠ 7 → f ≠ 8 → f ≠ 9 → ztie σ k l (nI t) kd f = σ f := fun f a b c => ztie_n a b c
  have e10 := e 10 (by decide) (by decide) (by decide)
  have e5 := e 5 (by decide) (by decide) (by decide)
  have eh : zheld (ztie σ k l (nI t) kd) = zheld σ := by funext i; unfold zheld; rw [e10]
  refine ⟨?_, ztie_W7 w7 ht hl hl3, ztie_W9 w7 w9 ht hl hl3 hkd, w11.row (e 11 (by decide) (by decide) (by decide)), ?_, ?_, ⟨fun i hi q => ?_, ?_⟩, fun i hi => ?_, ?_, ?_, ?_, ?_, ?_, ?_⟩
  · unfold zW0; rw [e 0 (by decide) (by decide) (by decide)]; exact w0
  · unfold zW13; rw [e 13 (by decide) (by decide) (by decide), e 14 (by decide) (by decide) (by decide)]; exact w13
  · unfold zWc; rw [e 2 (by decide) (by decide) (by decide), e 4 (by decide) (by decide) (by decide)]; exact wc
  · rw [e10]
    refine wl.1 i hi ?_
    unfold zlost at q ⊢; rw [e 14 (by decide) (by decide) (by decide), e 15 (by decide) (by decide) (by decide)] at q; exact q
  · rw [e 11 (by decide) (by decide) (by decide)]; exact wl.2
  · rw [ztie_7 (by omega), e10]; exact bey i hi
  · rw [e10]; exact h01
  · rw [e10]; exact ztie_Cl hl hl3 (by have := w0.2; omega) th hcl
  · rw [e10, e5]; exact hlv
  · rw [eh]; exact h8
  · unfold zUq; rw [e 1 (by decide) (by decide) (by decide)]; exact uq
  · unfold zAg; rw [e 12 (by decide) (by decide) (by decide), e 1 (by decide) (by decide) (by decide)]; exact ag
/-- an actor more: what is true ahead of holding -/
theorem zcm_pre {s : Nat} {c w sd l r : Int32} (h : zIA σ n) (hn : n < 40) (hs : s < 12) (hr : zrt c w sd l ≠ 0) : zW0 (zcm σ n s c w sd l r) (n + 1) ∧ zW7 (zcm σ n s c w sd l r) (n + 1) ∧ zW9 (zcm σ n s c w sd l r) (n + 1) ∧ zW11 (zcm σ n s c w sd l r) (n + 1) ∧ zW13 (zcm σ n s c w sd l r) (n + 1) ∧ zWc (zcm σ n s c w sd l r) (n + 1) ∧ (∀ s1 s2, s1 < 12 → s2 < 12 → zcm σ n s c w sd l r 11 s1 ≠ 0 → zcm σ n s c w sd l r 11 s1 = zcm σ n s c w sd l r 11 s2 → s1 = s2) ∧ (∀ k, n + 1 ≤ k → zcm σ n s c w sd l r 7 k = 0 ∧ zcm σ n s c w sd l r 10 k = 0) ∧ zUq (zcm σ n s c w sd l r) (n + 1) ∧ zAg (zcm σ n s c w sd l r) (n + 1) ∧ zCl (zcm σ n s c w sd l r) (n + 1) (fun k => (zheld σ k || decide (k = n)) = true) ∧ (∀ k, k < n + 1 → zlost (zcm σ n s c w sd l r) k = 1 → (zheld σ k || decide (k = n)) = false) := by
  have hc := h.cl
  have hlo := h.lost
  obtain ⟨w0, w7, w9, w11, w13, wc, wl, bey, h01, hcl, hlv, h8, uq, ag⟩ := h
  have r' : ∀ f, f ≠ 0 → (f < 2 ∨ 6 < f) → zcm σ n s c w sd l r f = zs1 σ n s f := fun f a q => zcm_r a q
  have r7 : ∀ f, f = 7 ∨ f = 8 ∨ f = 9 ∨ f = 10 ∨ 13 ≤ f → zcm σ n s c w sd l r f = σ f := fun f q => zcm_7 q
  have rk : ∀ f k, f = 2 ∨ f = 3 ∨ f = 4 ∨ f = 5 ∨ f = 6 → k ≠ n → zcm σ n s c w sd l r f k = σ f k := fun f k q hk => by
    rw [zcm_k (by omega) hk, zs1_n (by omega) (by omega) (by omega)]
  have v := zcm_v (σ := σ) (n := n) (s := s) (c := c) (w := w) (sd := sd) (l := l) (r := r)
  have b7 := (bey n (Nat.le_refl n)).1
  have sl : ∀ s1, s1 < 12 → σ 11 s1 = 0 ∨ ∃ t, t < n ∧ σ 11 s1 = nI (t + 1) := w11
  obtain ⟨bf, hbf, ebf⟩ := w13.2
  obtain ⟨⟨cj, hcj, ecj⟩, hsd⟩ := zrt_ex hr
  obtain ⟨a, ha, ea⟩ := ag.1 s hs
  have eh : nI 100 * (σ 12 s + nI 1) + nI s = nI (100 * (a + 1) + s) := by rw [ea, nI_add, pk_mul, nI_add]
  refine ⟨⟨by unfold zcm; rw [zup_s], hn⟩, (w7.succ b7).row (r7 7 (by omega)) (r7 8 (by omega)), (zW9.succ w7 w9 b7).row (r7 7 (by omega)) (r7 9 (by omega)), ?_, ⟨?_, bf, by omega, ?_⟩, ?_, ?_, ?_, ?_, ⟨?_, ?_⟩, ⟨?_, ?_⟩, ?_⟩
  · intro s' hs'
    rw [r' 11 (by decide) (by omega)]
    by_cases q : s' = s
    · rw [q, zs1_11s]; exact Or.inr ⟨n, by omega, rfl⟩
    · rw [zs1_11 q]
      rcases w11 s' hs' with z | ⟨t, ht, z⟩
      · exact Or.inl z
      · exact Or.inr ⟨t, by omega, z⟩
  · rw [r7 13 (by omega)]; exact w13.1
  · rw [r7 14 (by omega)]; exact ebf
  · intro k hk
    by_cases q : k = n
    · rw [q, v.1, v.2.2.1]; exact ⟨⟨cj, hcj, ecj⟩, hsd⟩
    · rw [rk 2 k (by omega) q, rk 4 k (by omega) q]; exact wc k (by omega)
  · intro s1 s2 h1 h2
    rw [r' 11 (by decide) (by omega)]
    by_cases q1 : s1 = s
    · by_cases q2 : s2 = s
      · intro _ _; rw [q1, q2]
      · rw [q1, zs1_11s, zs1_11 q2]
        intro z1 z2
        rcases w11 s2 h2 with z | ⟨t, ht, z⟩
        · rw [z] at z2; exact absurd z2 z1
        · rw [z] at z2
          have := (nI_eq (by omega) (by omega)).mp z2
          omega
    · by_cases q2 : s2 = s
      · rw [zs1_11 q1, q2, zs1_11s]
        intro z1 z2
        rcases w11 s1 h1 with z | ⟨t, ht, z⟩
        · exact absurd z z1
        · rw [z] at z2
          have := (nI_eq (by omega) (by omega)).mp z2
          omega
      · rw [zs1_11 q1, zs1_11 q2]
        exact wl.2 s1 s2 h1 h2
  · intro k hk
    rw [r7 7 (by omega), r7 10 (by omega)]
    exact bey k (by omega)
  · have fresh : ∀ k, k < n → σ 1 k ≠ nI (100 * (a + 1) + s) := by
      intro k hk q
      obtain ⟨s', a', b', hs', hab, hb, e12, e1⟩ := ag.2 k hk
      rw [e1] at q
      have q2 := (nI_eq (by omega) (by omega)).mp q
      have es : s' = s := by omega
      rw [es, ea] at e12
      have := (nI_eq (by omega) (by omega)).mp e12
      omega
    intro i j hi hj
    rw [r' 1 (by decide) (by omega)]
    by_cases q1 : i = n
    · by_cases q2 : j = n
      · intro _; rw [q1, q2]
      · rw [q1, zs1_1n, zs1_1 q2, eh]
        intro z; exact absurd z.symm (fresh j (by omega))
    · by_cases q2 : j = n
      · rw [q2, zs1_1n, zs1_1 q1, eh]
        intro z; exact absurd z (fresh i (by omega))
      · rw [zs1_1 q1, zs1_1 q2]
        exact uq i j (by omega) (by omega)
  · intro s' hs'
    rw [r' 12 (by decide) (by omega)]
    by_cases q : s' = s
    · rw [q, zs1_12s, ea, nI_add]; exact ⟨a + 1, by omega, rfl⟩
    · rw [zs1_12 q]
      obtain ⟨a', h1, h2⟩ := ag.1 s' hs'
      exact ⟨a', by omega, h2⟩
  · intro k hk
    rw [r' 12 (by decide) (by omega), r' 1 (by decide) (by omega)]
    by_cases q : k = n
    · refine ⟨s, a + 1, a + 1, hs, Nat.le_refl _, by omega, ?_, ?_⟩
      · rw [zs1_12s, ea, nI_add]
      · rw [q, zs1_1n, eh]
    · obtain ⟨s', a', b', hs', hab, hb, e12, e1⟩ := ag.2 k (by omega)
      rw [zs1_1 q]
      by_cases q2 : s' = s
      · rw [q2, ea] at e12
        have := (nI_eq (by omega) (by omega)).mp e12
        refine ⟨s, a', a + 1, hs, by omega, by omega, ?_, by rw [← q2]; exact e1⟩
        rw [zs1_12s, ea, nI_add]
      · exact ⟨s', a', b', hs', hab, by omega, by rw [zs1_12 q2]; exact e12, e1⟩
  · intro k hk z1 z2
    by_cases q : k = n
    · simp [q]
    · rw [rk 6 k (by omega) q] at z1
      rw [rk 5 k (by omega) q] at z2
      show (zheld σ k || decide (k = n)) = true
      rw [hc.1 k (by omega) z1 z2]; rfl
  · intro j hj z1 z2 z3
    unfold zst at z1
    rw [r7 7 (by omega), r7 9 (by omega)] at z1
    unfold ztg at z3 ⊢
    rw [r7 8 (by omega)] at z3 ⊢
    by_cases q : j / 3 = n
    · rw [q, b7] at z1
      exact absurd z1.1 (nI_pos (by omega))
    · obtain ⟨t, ht, et⟩ := w7.2 j (by omega) z1.1
      rw [et, nI_clamp (by omega), rk 5 t (by omega) (by omega)] at z3
      rw [et, nI_clamp (by omega)]
      have z2' : zheld σ (j / 3) = true := by
        have z2 : (zheld σ (j / 3) || decide (j / 3 = n)) = true := z2
        rwa [decide_eq_false q, Bool.or_false] at z2
      have k2 := hc.2 j (by omega) z1 z2'
      unfold ztg at k2
      rw [et, nI_clamp (by omega)] at k2
      show (zheld σ t || decide (t = n)) = true
      have k3 : zheld σ t = true := k2 z3
      rw [k3]; rfl
  · intro k hk z
    have el : zlost (zcm σ n s c w sd l r) k = zlost σ k := by unfold zlost; rw [r7 14 (by omega), r7 15 (by omega)]
    rw [el] at z
    by_cases q : k = n
    · unfold zlost at z
      rw [q, ebf, if_neg (fun y => nI_nlt hbf (by omega) y.1)] at z
      exact absurd z (by decide)
    · rw [hlo k (by omega) z, decide_eq_false q]; rfl
theorem zg_succ : zcn (fun k => zheld σ k || decide (k = n)) (n + 1) ≤ zcn (zheld σ) n + 1 := by
  have : zcn (fun k => zheld σ k || decide (k = n)) n = zcn (zheld σ) n := zcn_eq (fun k hk => by
    have : k ≠ n := by omega
    simp [this])
  simp only [zcn, this]
  split <;> omega
theorem zIA.root {s : Nat} {c w sd l : Int32} (h : zIA σ n) (hn : n < 40) (hs : s < 12) (hr : zrt c w sd l ≠ 0) (h8 : zcn (zheld σ) n < 8) : zIA (zho (zcm σ n s c w sd l (nI 1)) (n + 1)) (n + 1) := by
  obtain ⟨p0, p7, p9, p11, p13, pc, pi, pb, pu, pa, pl, plo⟩ := zcm_pre (r := nI 1) h hn hs hr
  exact zho_inv _ p0 p7 p9 p11 p13 pc pi pb pu pa pl (by have := zg_succ (σ := σ) (n := n); omega) plo
theorem zIA.kept {s k j : Nat} {c w sd l : Int32} (h : zIA σ n) (hn : n < 40) (hs : s < 12) (hr : zrt c w sd l ≠ 0) (h8 : zcn (zheld σ) n < 8) (hk : k < n) (h7 : σ 7 k = nI j) (hj : j < 3) : zIA (zho (ztie (zcm σ n s c w sd l (nI 0)) k j (nI n) (nI 0)) (n + 1)) (n + 1) := by
  obtain ⟨p0, p7, p9, p11, p13, pc, pi, pb, pu, pa, pl, plo⟩ := zcm_pre (r := nI 0) h hn hs hr
  have e : ∀ f, f ≠ 7 → f ≠ 8 → f ≠ 9 → ztie (zcm σ n s c w sd l (nI 0)) k j (nI n) (nI 0) f = zcm σ n s c w sd l (nI 0) f := fun f a b c => ztie_n a b c
  have h7' : zcm σ n s c w sd l (nI 0) 7 k = nI j := by rw [zcm_7 (by omega)]; exact h7
  refine zho_inv (fun k => zheld σ k || decide (k = n)) ?_ (ztie_W7 p7 (by omega) h7' hj) (ztie_W9 p7 p9 (by omega) h7' hj (Or.inl rfl)) (p11.row (e 11 (by decide) (by decide) (by decide))) ?_ ?_ ?_ (fun i hi => ?_) ?_ ?_ (ztie_Cl h7' hj (by omega) (by simp) pl) (by have := zg_succ (σ := σ) (n := n); omega) (fun i hi q => plo i hi ?_)
  · unfold zW0; rw [e 0 (by decide) (by decide) (by decide)]; exact p0
  · unfold zW13; rw [e 13 (by decide) (by decide) (by decide), e 14 (by decide) (by decide) (by decide)]; exact p13
  · unfold zWc; rw [e 2 (by decide) (by decide) (by decide), e 4 (by decide) (by decide) (by decide)]; exact pc
  · rw [e 11 (by decide) (by decide) (by decide)]; exact pi
  · rw [ztie_7 (by omega), e 10 (by decide) (by decide) (by decide)]; exact pb i hi
  · unfold zUq; rw [e 1 (by decide) (by decide) (by decide)]; exact pu
  · unfold zAg; rw [e 12 (by decide) (by decide) (by decide), e 1 (by decide) (by decide) (by decide)]; exact pa
  · unfold zlost at q ⊢; rw [e 14 (by decide) (by decide) (by decide), e 15 (by decide) (by decide) (by decide)] at q; exact q
/-- moves and hits -/
theorem zme_un {k : Nat} (h : σ 10 k = 0) : zme σ k n = nI 0 := zme_0 (fun i _ => decide_eq_false (fun q => q.1 h))
theorem zIA.hits (h : zIA σ n) : zIA (zho (zhr (zmv σ n) n n) n) n := by
  have hc := h.cl
  have hlo := h.lost
  obtain ⟨w0, w7, w9, w11, w13, wc, wl, bey, h01, hcl, hlv, h8, uq, ag⟩ := h
  have e : ∀ f, f ≠ 2 → f ≠ 3 → f ≠ 5 → zhr (zmv σ n) n n f = σ f := fun f a b c => by unfold zhr; rw [zrw_n c, zmv_n a b]
  have e2 : ∀ k, k < n → zhr (zmv σ n) n n 2 k = zcl' σ k := fun k hk => by
    unfold zhr zmv; rw [zrw_n (by decide), zrw_n (by decide), zrw_l hk]
  have e5 : ∀ k, k < n → 0 < zhr (zmv σ n) n n 5 k → 0 < σ 5 k := fun k hk q => by
    by_cases z : σ 10 k = 0
    · have z' : zmv σ n 10 k = 0 := by rw [zmv_n (by decide) (by decide)]; exact z
      have : zhr (zmv σ n) n n 5 k = σ 5 k := by
        unfold zhr
        rw [zrw_l hk, zme_un z', zmv_n (by decide) (by decide), nI_0]
        simp
      rw [this] at q; exact q
    · exact hlv k hk z
  refine zho_inv (zheld σ) ?_ (w7.row (e 7 (by decide) (by decide) (by decide)) (e 8 (by decide) (by decide) (by decide))) (w9.row (e 7 (by decide) (by decide) (by decide)) (e 9 (by decide) (by decide) (by decide))) (w11.row (e 11 (by decide) (by decide) (by decide))) ?_ (fun k hk => ⟨?_, ?_⟩) ?_ ?_ ?_ ?_ ⟨fun i hi a b => ?_, fun j hj a b c => ?_⟩ h8 (fun i hi q => hlo i hi ?_)
  · unfold zW0; rw [e 0 (by decide) (by decide) (by decide)]; exact w0
  · unfold zW13; rw [e 13 (by decide) (by decide) (by decide), e 14 (by decide) (by decide) (by decide)]; exact w13
  · rw [e2 k hk]
    unfold zcl'
    by_cases z : σ 10 k ≠ 0 ∧ zin (σ 2 k + σ 3 k) (nI 0) (nI 9) ≠ 0
    · rw [if_pos z]
      obtain ⟨j, hj, ej⟩ := zin_ex (by decide) z.2
      exact ⟨j, by omega, ej⟩
    · rw [if_neg z]; exact (wc k hk).1
  · rw [e 4 (by decide) (by decide) (by decide)]; exact (wc k hk).2
  · rw [e 11 (by decide) (by decide) (by decide)]; exact wl.2
  · rw [e 7 (by decide) (by decide) (by decide), e 10 (by decide) (by decide) (by decide)]; exact bey
  · unfold zUq; rw [e 1 (by decide) (by decide) (by decide)]; exact uq
  · unfold zAg; rw [e 12 (by decide) (by decide) (by decide), e 1 (by decide) (by decide) (by decide)]; exact ag
  · rw [e 6 (by decide) (by decide) (by decide)] at a
    exact hc.1 i hi a (e5 i hi b)
  · unfold zst at a
    unfold ztg at c ⊢
    rw [e 7 (by decide) (by decide) (by decide), e 9 (by decide) (by decide) (by decide)] at a
    rw [e 8 (by decide) (by decide) (by decide)] at c ⊢
    obtain ⟨t, ht, et⟩ := w7.2 j hj a.1
    have hN := w0.2
    have k2 := hc.2 j hj a b
    unfold ztg at k2
    rw [et, nI_clamp (by omega)] at c k2 ⊢
    exact k2 (e5 t ht c)
  · unfold zlost at q ⊢; rw [e 14 (by decide) (by decide) (by decide), e 15 (by decide) (by decide) (by decide)] at q; exact q
end INV2


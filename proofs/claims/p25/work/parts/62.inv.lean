/-! ===== what stays true of the rows ===== -/
section INV
variable {n : Nat} {σ σ' τ : Nat → Nat → Int32}
theorem zin_ex {x : Int32} {b : Nat} (hb : b < 1000) (h : zin x (nI 0) (nI b) ≠ 0) : ∃ j, j ≤ b ∧ x = nI j := by
  unfold zin at h
  by_cases a : x < nI 0
  · rw [if_pos a] at h; exact absurd rfl h
  · by_cases c : nI b < x
    · rw [if_neg a, if_pos c] at h; exact absurd rfl h
    · obtain ⟨j, hj, e⟩ := nI_of a
      rw [e] at c
      exact ⟨j, Nat.le_of_not_lt (fun q => c (nI_lt q hj)), e⟩
theorem zrt_ex {c w s l : Int32} (h : zrt c w s l ≠ 0) : (∃ j, j < 10 ∧ c = nI j) ∧ (s = nI 0 ∨ s = nI 1) := by
  unfold zrt at h
  by_cases h1 : zin c (nI 0) (nI 9) = 0
  · rw [if_pos h1] at h; exact absurd rfl h
  rw [if_neg h1] at h
  by_cases h2 : zin w (-nI 1) (nI 1) = 0
  · rw [if_pos h2] at h; exact absurd rfl h
  rw [if_neg h2] at h
  by_cases h3 : zin s (nI 0) (nI 1) = 0
  · rw [if_pos h3] at h; exact absurd rfl h
  obtain ⟨j, hj, e⟩ := zin_ex (by decide) h1
  obtain ⟨i, hi, e2⟩ := zin_ex (by decide) h3
  refine ⟨⟨j, by omega, e⟩, ?_⟩
  rcases i with _ | _ | i
  · exact Or.inl e2
  · exact Or.inr e2
  · omega
/-- ages count the comings, handles are made of them -/
def zAg (σ : Nat → Nat → Int32) (n : Nat) : Prop := (∀ s, s < 12 → ∃ a, a ≤ n ∧ σ 12 s = nI a) ∧ ∀ k, k < n → ∃ s a b, s < 12 ∧ a ≤ b ∧ b ≤ n ∧ σ 12 s = nI b ∧ σ 1 k = nI (100 * a + s)
def zIA (σ : Nat → Nat → Int32) (n : Nat) : Prop := zW0 σ n ∧ zW7 σ n ∧ zW9 σ n ∧ zW11 σ n ∧ zW13 σ n ∧ zWc σ n ∧ zWl σ n ∧ (∀ k, n ≤ k → σ 7 k = 0 ∧ σ 10 k = 0) ∧ (∀ k, k < n → σ 10 k = 0 ∨ σ 10 k = 1) ∧ zCl σ n (fun k => σ 10 k ≠ 0) ∧ (∀ k, k < n → σ 10 k ≠ 0 → 0 < σ 5 k) ∧ zcn (zheld σ) n ≤ 8 ∧ zUq σ n ∧ zAg σ n
def zIB (σ : Nat → Nat → Int32) (n : Nat) : Prop := (∃ W, W ≤ 20 ∧ σ 17 0 = nI W ∧ ∀ k, k < W → zrt (σ 19 k) (σ 20 k) (σ 21 k) (σ 22 k) ≠ 0) ∧ (∃ f, f ≤ 500 ∧ σ 16 0 = nI f) ∧ (∃ S, S ≤ 30 ∧ σ 23 0 = nI S ∧ zW24 σ n S) ∧ (∃ e, e < 10 ∧ σ 26 0 = nI e)
theorem zIA.row (h : zIA σ n) (e : ∀ f, f ≤ 15 → σ' f = σ f) : zIA σ' n := by
  obtain ⟨w0, w7, w9, w11, w13, wc, wl, bey, h01, hcl, hlv, h8, uq, ag⟩ := h
  have e10 := e 10 (by decide)
  have el : ∀ k, zlost σ' k = zlost σ k := fun k => by unfold zlost; rw [e 14 (by decide), e 15 (by decide)]
  have eh : zheld σ' = zheld σ := by funext k; unfold zheld; rw [e10]
  have es : ∀ j, zst σ' j = zst σ j := fun j => by unfold zst; rw [e 7 (by decide), e 9 (by decide)]
  have et : ∀ j, ztg σ' j = ztg σ j := fun j => by unfold ztg; rw [e 8 (by decide)]
  refine ⟨?_, w7.row (e 7 (by decide)) (e 8 (by decide)), w9.row (e 7 (by decide)) (e 9 (by decide)), w11.row (e 11 (by decide)), ?_, ?_, ⟨fun k hk => ?_, ?_⟩, ?_, ?_, ⟨?_, ?_⟩, ?_, ?_, ?_, ?_⟩
  · unfold zW0; rw [e 0 (by decide)]; exact w0
  · unfold zW13; rw [e 13 (by decide), e 14 (by decide)]; exact w13
  · unfold zWc; rw [e 2 (by decide), e 4 (by decide)]; exact wc
  · rw [el, e10]; exact wl.1 k hk
  · rw [e 11 (by decide)]; exact wl.2
  · rw [e 7 (by decide), e10]; exact bey
  · rw [e10]; exact h01
  · intro k hk; rw [e 6 (by decide), e 5 (by decide), e10]; exact hcl.1 k hk
  · intro j hj; rw [es, et, e 5 (by decide), e10]; exact hcl.2 j hj
  · rw [e10, e 5 (by decide)]; exact hlv
  · rw [eh]; exact h8
  · unfold zUq; rw [e 1 (by decide)]; exact uq
  · unfold zAg; rw [e 12 (by decide), e 1 (by decide)]; exact ag
theorem zIB.row (h : zIB σ n) (e : ∀ f, 16 ≤ f → f ≤ 26 → σ' f = σ f) : zIB σ' n := by
  unfold zIB zW24
  rw [e 17 (by decide) (by decide), e 19 (by decide) (by decide), e 20 (by decide) (by decide), e 21 (by decide) (by decide), e 22 (by decide) (by decide), e 16 (by decide) (by decide), e 23 (by decide) (by decide), e 24 (by decide) (by decide), e 26 (by decide) (by decide)]
  exact h
theorem zIB.succ (h : zIB σ n) : zIB σ (n + 1) := by
  obtain ⟨a, b, ⟨S, h1, h2, h3⟩, d⟩ := h
  exact ⟨a, b, ⟨S, h1, h2, fun k hk => by obtain ⟨t, ht, e⟩ := h3 k hk; exact ⟨t, by omega, e⟩⟩, d⟩
/-- who is held anew: rules -/
theorem zho_inv {m : Nat} (g : Nat → Bool) (w0 : zW0 τ m) (w7 : zW7 τ m) (w9 : zW9 τ m) (w11 : zW11 τ m) (w13 : zW13 τ m) (wc : zWc τ m) (inj : ∀ s s', s < 12 → s' < 12 → τ 11 s ≠ 0 → τ 11 s = τ 11 s' → s = s') (bey : ∀ k, m ≤ k → τ 7 k = 0 ∧ τ 10 k = 0) (uq : zUq τ m) (ag : zAg τ m) (cl : zCl τ m (fun k => g k = true)) (g8 : zcn g m ≤ 8) (lost : ∀ k, k < m → zlost τ k = 1 → g k = false) : zIA (zho τ m) m := by
  have e : ∀ f, f ≠ 10 → zho τ m f = τ f := fun f hf => zho_n hf
  have v : ∀ k, k < m → (zho τ m 10 k ≠ 0 ↔ zRe τ m k) := by
    intro k hk
    have z : zho τ m 10 k = @ite Int32 (zRe τ m k) (Classical.propDecidable _) 1 0 := by
      unfold zho; rw [zg10]; unfold zhd; rw [if_pos hk]
    rw [z]
    by_cases r : zRe τ m k
    · rw [if_pos r]; exact ⟨fun _ => r, fun _ => by decide⟩
    · rw [if_neg r]; exact ⟨fun q => absurd rfl q, fun q => absurd q r⟩
  have hg : ∀ k, k < m → zho τ m 10 k ≠ 0 → g k = true := fun k hk q => (v k hk).mp q _ cl
  have cl5 : zCl τ m (fun k => 0 < τ 5 k) := ⟨fun k _ _ q => q, fun j _ _ _ q => q⟩
  refine ⟨?_, w7.row (e 7 (by decide)) (e 8 (by decide)), w9.row (e 7 (by decide)) (e 9 (by decide)), w11.row (e 11 (by decide)), ?_, ?_, ⟨fun k hk q => ?_, ?_⟩, fun k hk => ?_, fun k hk => zho_b hk, ⟨fun k hk q1 q2 => ?_, fun j hj q1 q2 q3 => ?_⟩, fun k hk q => ?_, ?_, ?_, ?_⟩
  · unfold zW0; rw [e 0 (by decide)]; exact w0
  · unfold zW13; rw [e 13 (by decide), e 14 (by decide)]; exact w13
  · unfold zWc; rw [e 2 (by decide), e 4 (by decide)]; exact wc
  · have : zlost τ k = 1 := by unfold zlost at q ⊢; rw [e 14 (by decide), e 15 (by decide)] at q; exact q
    have g0 := lost k hk this
    exact Classical.byContradiction fun z => by rw [hg k hk z] at g0; cases g0
  · rw [e 11 (by decide)]; exact inj
  · rw [e 7 (by decide)]
    refine ⟨(bey k hk).1, ?_⟩
    unfold zho; rw [zg10]; unfold zhd; rw [if_neg (by omega)]; exact (bey k hk).2
  · rw [e 6 (by decide)] at q1
    rw [e 5 (by decide)] at q2
    exact (v k hk).mpr ((zRe_cl τ m).1 k hk q1 q2)
  · have q1' : zst τ j := by unfold zst at q1 ⊢; rw [e 7 (by decide), e 9 (by decide)] at q1; exact q1
    have et : ztg (zho τ m) j = ztg τ j := by unfold ztg; rw [e 8 (by decide)]
    rw [et, e 5 (by decide)] at q3
    rw [et]
    obtain ⟨t, ht, e8⟩ := w7.2 j hj q1'.1
    have tm : ztg τ j < m := by
      have := w0.2
      unfold ztg; rw [e8, nI_clamp (by omega)]; exact ht
    exact (v _ tm).mpr ((zRe_cl τ m).2 j hj q1' ((v _ (by omega)).mp q2) q3)
  · rw [e 5 (by decide)]
    exact (v k hk).mp q _ cl5
  · refine Nat.le_trans (zcn_mono fun k hk q => ?_) g8
    exact hg k hk (of_decide_eq_true q)
  · unfold zUq; rw [e 1 (by decide)]; exact uq
  · unfold zAg; rw [e 12 (by decide), e 1 (by decide)]; exact ag
/-- a sweep of all -/
theorem zsw_n {f : Nat} (h : f ≠ 11) (h' : f ≠ 13) : zsw σ f = σ f := by unfold zsw; rw [zup_f h', zsr_n h]
theorem zsw_11 {s : Nat} (hs : s < 12) : zsw σ 11 s = zsv σ s := by unfold zsw; rw [zup_f (by decide)]; exact if_pos ⟨rfl, hs⟩
theorem zIA.slots (h : zIA σ n) (e : ∀ f, f ≠ 11 → f ≠ 13 → f ≠ 14 → f ≠ 15 → f ≤ 15 → σ' f = σ f) (w11 : zW11 σ' n) (w13 : zW13 σ' n) (wl : zWl σ' n) : zIA σ' n := by
  obtain ⟨w0, w7, w9, -, -, wc, -, bey, h01, hcl, hlv, h8, uq, ag⟩ := h
  have e' : ∀ f, f < 11 ∨ f = 12 → σ' f = σ f := fun f hf => e f (by omega) (by omega) (by omega) (by omega) (by omega)
  have e10 := e' 10 (by decide)
  have eh : zheld σ' = zheld σ := by funext k; unfold zheld; rw [e10]
  have es : ∀ j, zst σ' j = zst σ j := fun j => by unfold zst; rw [e' 7 (by decide), e' 9 (by decide)]
  have et : ∀ j, ztg σ' j = ztg σ j := fun j => by unfold ztg; rw [e' 8 (by decide)]
  refine ⟨?_, w7.row (e' 7 (by decide)) (e' 8 (by decide)), w9.row (e' 7 (by decide)) (e' 9 (by decide)), w11, w13, ?_, wl, ?_, ?_, ⟨?_, ?_⟩, ?_, ?_, ?_, ?_⟩
  · unfold zW0; rw [e' 0 (by decide)]; exact w0
  · unfold zWc; rw [e' 2 (by decide), e' 4 (by decide)]; exact wc
  · rw [e' 7 (by decide), e10]; exact bey
  · rw [e10]; exact h01
  · intro k hk; rw [e' 6 (by decide), e' 5 (by decide), e10]; exact hcl.1 k hk
  · intro j hj; rw [es, et, e' 5 (by decide), e10]; exact hcl.2 j hj
  · rw [e10, e' 5 (by decide)]; exact hlv
  · rw [eh]; exact h8
  · unfold zUq; rw [e' 1 (by decide)]; exact uq
  · unfold zAg; rw [e' 12 (by decide), e' 1 (by decide)]; exact ag
theorem zIA.sw (h : zIA σ n) : zIA (zsw σ) n := by
  have h' := h
  obtain ⟨-, -, -, w11, w13, -, wl, -⟩ := h'
  refine h.slots (fun f a b _ _ _ => zsw_n a b) ((zsr_W11 (i := 12) w11).row (by unfold zsw; rw [zup_f (by decide)])) ⟨Or.inl (by unfold zsw; rw [zup_s]), ?_⟩ ⟨fun k hk q => ?_, fun s s' hs hs' q q2 => ?_⟩
  · obtain ⟨bf, hb, e⟩ := w13.2
    exact ⟨bf, hb, by rw [zsw_n (by decide) (by decide)]; exact e⟩
  · rw [zsw_n (by decide) (by decide)]
    refine wl.1 k hk ?_
    unfold zlost at q ⊢
    rw [zsw_n (by decide) (by decide), zsw_n (by decide) (by decide)] at q
    exact q
  · rw [zsw_11 hs] at q q2
    rw [zsw_11 hs'] at q2
    unfold zsv at q q2
    by_cases c : σ 11 s ≠ 0 ∧ σ 10 ((σ 11 s).toNatClampNeg - 1) ≠ 0
    · rw [if_pos c] at q q2
      by_cases c' : σ 11 s' ≠ 0 ∧ σ 10 ((σ 11 s').toNatClampNeg - 1) ≠ 0
      · rw [if_pos c'] at q2
        exact wl.2 s s' hs hs' q q2
      · rw [if_neg c'] at q2; exact absurd q2 q
    · rw [if_neg c] at q; exact absurd rfl q
theorem zIA.cs (h : zIA σ n) : zIA (zcs σ) n := by
  unfold zcs
  by_cases c : zlo σ 12 < 0
  · rw [if_pos c]; exact h.sw
  · rw [if_neg c]; exact h
/-- the sweep's steps -/
theorem zge_W : ∀ (f b : Nat) (σ : Nat → Nat → Int32), n ≤ 40 → zW0 σ n → zW11 σ n → zW13 σ n → zWl σ n → zW11 (zge n f b σ) n ∧ zW13 (zge n f b σ) n ∧ zWl (zge n f b σ) n
  | 0, _, _, _, _, w11, w13, wl => ⟨w11, w13, wl⟩
  | f + 1, b, σ, hN, w0, w11, w13, wl => by
    unfold zge
    by_cases c : σ 13 0 < 0
    · rw [if_pos c]
      by_cases c2 : b < 4
      · rw [if_pos c2]; exact ⟨w11, w13, wl⟩
      · rw [if_neg c2]
        obtain ⟨a1, a2, a3⟩ := zmk_W w0 w11
        exact zge_W f (b - 4) _ hN a1 a2 a3 (zmk_Wl hN wl)
    · rw [if_neg c]
      by_cases c2 : b < 1
      · rw [if_pos c2]; exact ⟨w11, w13, wl⟩
      · rw [if_neg c2]
        rcases w13.1 with q | ⟨s, hs, q⟩
        · rw [q] at c; exact absurd n1neg c
        · rw [q, nI_clamp (by omega)]
          obtain ⟨a1, a2, a3⟩ := zlk_W w0 w11 w13 hs
          exact zge_W f (b - 1) _ hN a1 a2 a3 (zlk_Wl wl)
theorem zIA.ge {f b : Nat} (h : zIA σ n) : zIA (zge n f b σ) n := by
  have h' := h
  obtain ⟨w0, -, -, w11, w13, -, wl, -⟩ := h'
  obtain ⟨a1, a2, a3⟩ := zge_W (n := n) f b σ w0.2 w0 w11 w13 wl
  exact h.slots (fun g a b c d _ => zge_n a b c d f _ σ) a1 a2 a3
end INV


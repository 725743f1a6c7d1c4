/-! ===== the model: who is held ===== -/
def zg (σ : Nat → Nat → Int32) (g : Nat → Int32) : Nat → Nat → Int32 := fun f k => if f = 10 then g k else σ f k
theorem zg10 {σ : Nat → Nat → Int32} {g : Nat → Int32} : zg σ g 10 = g := by funext k; exact if_pos rfl
theorem zgn {σ : Nat → Nat → Int32} {g : Nat → Int32} {f : Nat} (h : f ≠ 10) : zg σ g f = σ f := by funext k; exact if_neg h
theorem zg_up {σ : Nat → Nat → Int32} {g : Nat → Int32} {k : Nat} {x : Int32} : zup (zg σ g) 10 k x = zg σ (fun i => if i = k then x else g i) := by
  funext f i
  show (if f = 10 ∧ i = k then x else if f = 10 then g i else σ f i) = if f = 10 then (if i = k then x else g i) else σ f i
  by_cases h : f = 10
  · simp only [h, true_and, if_true]
  · simp only [h, false_and, if_false]
theorem zg_self {σ : Nat → Nat → Int32} : zg σ (σ 10) = σ := by
  funext f i
  show (if f = 10 then σ 10 i else σ f i) = σ f i
  by_cases h : f = 10
  · rw [if_pos h, h]
  · rw [if_neg h]
/-- a link that keeps, at the flat place j -/
def zst (σ : Nat → Nat → Int32) (j : Nat) : Prop := nI (j % 3) < σ 7 (j / 3) ∧ σ 9 j < nI 2
def ztg (σ : Nat → Nat → Int32) (j : Nat) : Nat := (σ 8 j).toNatClampNeg
def zCl (σ : Nat → Nat → Int32) (n : Nat) (X : Nat → Prop) : Prop := (∀ k, k < n → σ 6 k ≠ 0 → 0 < σ 5 k → X k) ∧ ∀ j, j < 3 * n → zst σ j → X (j / 3) → 0 < σ 5 (ztg σ j) → X (ztg σ j)
def zRe (σ : Nat → Nat → Int32) (n k : Nat) : Prop := ∀ X, zCl σ n X → X k
theorem zRe_cl (σ : Nat → Nat → Int32) (n : Nat) : zCl σ n (zRe σ n) := ⟨fun k hk h1 h2 X hX => hX.1 k hk h1 h2, fun j hj h1 h2 h3 X hX => hX.2 j hj h1 (h2 X hX) h3⟩
noncomputable def zhd (σ : Nat → Nat → Int32) (n k : Nat) : Int32 := if k < n then (@ite Int32 (zRe σ n k) (Classical.propDecidable _) 1 0) else σ 10 k
noncomputable def zho (σ : Nat → Nat → Int32) (n : Nat) : Nat → Nat → Int32 := zg σ (zhd σ n)
/-- the links lie right -/
def zW7 (σ : Nat → Nat → Int32) (n : Nat) : Prop := (∀ k, k < n → ∃ l, l ≤ 3 ∧ σ 7 k = nI l) ∧ ∀ j, j < 3 * n → nI (j % 3) < σ 7 (j / 3) → ∃ t, t < n ∧ σ 8 j = nI t
def zzr (g : Nat → Int32) (n : Nat) : Nat := zcn (fun k => decide (g k = 0)) n
theorem zcn_mono {p q : Nat → Bool} : ∀ {n}, (∀ k, k < n → p k = true → q k = true) → zcn p n ≤ zcn q n
  | 0, _ => Nat.le_refl _
  | n + 1, h => by
    have a := zcn_mono (n := n) (fun k hk => h k (Nat.lt_succ_of_lt hk))
    have b := h n (Nat.lt_succ_self n)
    simp only [zcn]
    cases hp : p n
    · simp only [Bool.false_eq_true, if_false, Nat.add_zero]; exact Nat.le_trans a (Nat.le_add_right _ _)
    · rw [b hp]; simp; exact a
theorem zcn_lt {p q : Nat → Bool} : ∀ {n t}, t < n → (∀ k, k < n → p k = true → q k = true) → p t = false → q t = true → zcn p n < zcn q n
  | n + 1, t, ht, h, h1, h2 => by
    by_cases e : t = n
    · subst e
      have a := zcn_mono (n := t) (fun k hk => h k (Nat.lt_succ_of_lt hk))
      simp only [zcn, h1, h2]; simp; omega
    · have a := zcn_lt (n := n) (t := t) (by omega) (fun k hk => h k (Nat.lt_succ_of_lt hk)) h1 h2
      have b := h n (Nat.lt_succ_self n)
      simp only [zcn]
      cases hp : p n
      · simp only [Bool.false_eq_true, if_false, Nat.add_zero]; exact Nat.lt_of_lt_of_le a (Nat.le_add_right _ _)
      · rw [b hp]; simp; exact a
/-- the set of a pass -/
def zHi (σ : Nat → Nat → Int32) (n : Nat) (g : Nat → Int32) : Prop := (∀ k, k < n → (g k = 0 ∨ g k = 1) ∧ (g k ≠ 0 → zRe σ n k) ∧ (σ 6 k ≠ 0 → 0 < σ 5 k → g k ≠ 0)) ∧ ∀ k, n ≤ k → g k = σ 10 k
theorem zHi_done {σ : Nat → Nat → Int32} {n : Nat} {g : Nat → Int32} (h : zHi σ n g) (hw : zW7 σ n) (hc : ∀ j, j < 3 * n → zst σ j → g (j / 3) ≠ 0 → 0 < σ 5 (ztg σ j) → g (ztg σ j) ≠ 0) (hN : n ≤ 40) : g = zhd σ n := by
  funext k
  unfold zhd
  by_cases hk : k < n
  · rw [if_pos hk]
    have a := h.1 k hk
    by_cases hr : zRe σ n k
    · rw [if_pos hr]
      have := hr (fun i => i < n ∧ g i ≠ 0) ⟨fun i hi h1 h2 => ⟨hi, (h.1 i hi).2.2 h1 h2⟩, fun j hj h1 h2 h3 => by
        refine ⟨?_, hc j hj h1 h2.2 h3⟩
        obtain ⟨t, ht, e⟩ := hw.2 j hj h1.1
        show (σ 8 j).toNatClampNeg < n
        rw [e, nI_clamp (by omega)]
        exact ht⟩
      exact a.1.resolve_left this.2
    · rw [if_neg hr]
      exact Classical.byContradiction fun q => hr (a.2.1 q)
  · rw [if_neg hk]; exact h.2 k (by omega)
theorem zHi_put {σ : Nat → Nat → Int32} {n t : Nat} {g : Nat → Int32} (h : zHi σ n g) (ht : t < n) (hr : zRe σ n t) : zHi σ n (fun i => if i = t then 1 else g i) := by
  refine ⟨fun k hk => ?_, fun k hk => ?_⟩
  · show ((if k = t then (1 : Int32) else g k) = 0 ∨ (if k = t then (1 : Int32) else g k) = 1) ∧ ((if k = t then (1 : Int32) else g k) ≠ 0 → _) ∧ (_ → _ → (if k = t then (1 : Int32) else g k) ≠ 0)
    by_cases e : k = t
    · rw [if_pos e, e]; exact ⟨Or.inr rfl, fun _ => hr, fun _ _ => by decide⟩
    · rw [if_neg e]; exact h.1 k hk
  · show (if k = t then (1 : Int32) else g k) = _
    rw [if_neg (by omega)]; exact h.2 k hk
theorem zzr_put {n t : Nat} {g : Nat → Int32} (ht : t < n) (h0 : g t = 0) : zzr (fun i => if i = t then 1 else g i) n < zzr g n := by
  refine zcn_lt ht (fun k _ h => ?_) ?_ ?_
  · simp only [decide_eq_true_eq] at h ⊢
    by_cases e : k = t
    · rw [e]; exact h0
    · rwa [if_neg e] at h
  · simp
  · simp [h0]
def zrt6 (σ : Nat → Nat → Int32) (k : Nat) : Int32 := if σ 6 k ≠ 0 ∧ 0 < σ 5 k then 1 else 0

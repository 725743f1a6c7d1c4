/-! ===== the model: the frame, the start ===== -/
def znu (σ : Nat → Nat → Int32) : Nat := (σ 0 0).toNatClampNeg
def zslo (σ : Nat → Nat → Int32) : Nat := (zlo (zcs σ) 12).toNatClampNeg
/-- wave k at its frame -/
noncomputable def zws (σ : Nat → Nat → Int32) (k : Nat) : Nat → Nat → Int32 := if σ 18 k = σ 16 0 ∧ zcn (zheld σ) (znu σ) < 8 ∧ znu σ < 40 then zho (zcm (zcs σ) (znu σ) (zslo σ) (σ 19 k) (σ 20 k) (σ 21 k) (σ 22 k) (nI 1)) (znu σ + 1) else σ
noncomputable def zwL (σ : Nat → Nat → Int32) : Nat → Nat → Nat → Int32
  | 0 => σ
  | k + 1 => zws (zwL σ k) k
/-- rows that a wave leaves alone -/
theorem zcs_n {σ : Nat → Nat → Int32} {f : Nat} (h : f ≠ 11) (h' : f ≠ 13) : zcs σ f = σ f := by
  unfold zcs zsw
  split
  · rw [zup_f h', zsr_n h]
  · rfl
theorem zcm_n {σ : Nat → Nat → Int32} {n s f : Nat} {c w sd l r : Int32} (h : f = 7 ∨ f = 8 ∨ f = 9 ∨ f = 10 ∨ 13 ≤ f) : zcm σ n s c w sd l r f = σ f := by
  unfold zcm
  rw [zup_f (by omega), zup_f (by omega), zup_f (by omega), zup_f (by omega), zup_f (by omega), zup_f (by omega), zup_f (by omega), zup_f (by omega), zup_f (by omega)]
theorem zws_n {σ : Nat → Nat → Int32} {k f : Nat} (h : 14 ≤ f) : zws σ k f = σ f := by
  unfold zws
  split
  · unfold zho
    rw [zgn (by omega), zcm_n (by omega), zcs_n (by omega) (by omega)]
  · rfl
theorem zwL_n {σ : Nat → Nat → Int32} {f : Nat} (h : 14 ≤ f) : ∀ k, zwL σ k f = σ f
  | 0 => rfl
  | k + 1 => by rw [zwL, zws_n h, zwL_n h k]
/-- the model's state is whole for n actors -/
def zOK (σ : Nat → Nat → Int32) (n : Nat) : Prop := zW0 σ n ∧ zW7 σ n ∧ zW11 σ n ∧ zW13 σ n ∧ (zcn (zheld σ) n < 8 → n < 40 → ∃ s, s < 12 ∧ zlo (zcs σ) 12 = nI s ∧ ∀ c w sd l r, zW7 (zcm (zcs σ) n s c w sd l r) (n + 1))
theorem zho_b {σ : Nat → Nat → Int32} {n k : Nat} (hk : k < n) : zho σ n 10 k = 0 ∨ zho σ n 10 k = 1 := by
  unfold zho
  rw [zg10]
  unfold zhd
  rw [if_pos hk]
  by_cases h : zRe σ n k
  · rw [if_pos h]; exact Or.inr rfl
  · rw [if_neg h]; exact Or.inl rfl
theorem zho_n {σ : Nat → Nat → Int32} {n f : Nat} (h : f ≠ 10) : zho σ n f = σ f := zgn h
/-- the whole frame behind the waves -/
noncomputable def zfrm (σ : Nat → Nat → Int32) (n b : Nat) : Nat → Nat → Int32 := zge n b b (zho (zhr (zmv σ n) n n) n)
theorem zge_n {n : Nat} {f : Nat} (h : f ≠ 11) (h' : f ≠ 13) (h2 : f ≠ 14) (h3 : f ≠ 15) : ∀ (u b : Nat) (σ : Nat → Nat → Int32), zge n u b σ f = σ f
  | 0, _, _ => rfl
  | u + 1, b, σ => by
    unfold zge
    split
    · split
      · rfl
      · rw [zge_n h h' h2 h3 u, zmk_0 h' h2 h3]
    · split
      · rfl
      · rw [zge_n h h' h2 h3 u, zlk_0 h' h]

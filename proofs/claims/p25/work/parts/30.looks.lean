/-! ===== the model: looks, waves, sounds ===== -/
/-- a counted link to actor x at the flat place j -/
def zct (σ : Nat → Nat → Int32) (x : Int32) (j : Nat) : Bool := decide (σ 10 (j / 3) ≠ 0 ∧ nI (j % 3) < σ 7 (j / 3) ∧ σ 9 j = nI 1 ∧ σ 8 j = x)
theorem zlt_le {a b : Int32} : a < b ↔ ¬ b ≤ a := by rw [Int32.lt_iff_toInt_lt, Int32.le_iff_toInt_le]; omega
/-- a wave more -/
def zwv (σ : Nat → Nat → Int32) (W : Nat) (f c w s l : Int32) : Nat → Nat → Int32 := zup (zup (zup (zup (zup (zup σ 18 W f) 19 W c) 20 W w) 21 W s) 22 W l) 17 0 (nI (W + 1))
def zwk (σ : Nat → Nat → Int32) (k : Nat) : Nat → Nat → Int32 := if zin (σ 2 k + σ 3 k) (nI 0) (nI 9) = 0 then zup σ 3 k (-σ 3 k) else zup σ 2 k (σ 2 k + σ 3 k)
/-- actor i meets actor k -/
def zmc (σ : Nat → Nat → Int32) (k i : Nat) : Bool := decide (σ 10 k ≠ 0 ∧ σ 10 i ≠ 0 ∧ σ 2 i = σ 2 k ∧ σ 4 i ≠ σ 4 k)
def zme (σ : Nat → Nat → Int32) (k : Nat) : Nat → Int32
  | 0 => nI 0
  | i + 1 => if zmc σ k i then nI 1 else zme σ k i
theorem zme_01 (σ : Nat → Nat → Int32) (k : Nat) : ∀ i, zme σ k i = nI 0 ∨ zme σ k i = nI 1
  | 0 => Or.inl rfl
  | i + 1 => by simp only [zme]; split; exact Or.inr rfl; exact zme_01 σ k i
theorem zor1 {x : Int32} (h : x = nI 0 ∨ x = nI 1) : x ||| nI 1 = nI 1 := by rcases h with rfl | rfl <;> decide +kernel
theorem zor0 {x : Int32} (h : x = nI 0 ∨ x = nI 1) : x ||| nI 0 = x := by rcases h with rfl | rfl <;> decide +kernel
/-- a sound more -/
def zso (σ : Nat → Nat → Int32) (S k : Nat) : Nat → Nat → Int32 := zup (zup (zup σ 24 S (nI k)) 25 S (σ 16 0)) 23 0 (nI (S + 1))

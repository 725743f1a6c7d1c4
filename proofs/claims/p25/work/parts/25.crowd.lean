/-! ===== the model: methods that only read ===== -/
theorem zfor {P : Nat → Prop} (n : Nat) (step : ∀ i, i < n → P (i + 1) → P i) (last : P n) : P 0 := by
  have a : ∀ d i, i + d = n → P i := by
    intro d
    induction d with
    | zero => intro i hi; obtain rfl : i = n := by omega
              exact last
    | succ d ih => intro i hi; exact step i (by omega) (ih (i + 1) (by omega))
  exact a n 0 (by omega)
def zheld (σ : Nat → Nat → Int32) (k : Nat) : Bool := decide (σ 10 k ≠ 0)
/-- come is n, at most 40 -/
def zW0 (σ : Nat → Nat → Int32) (n : Nat) : Prop := σ 0 0 = nI n ∧ n ≤ 40
def zin (a lo hi : Int32) : Int32 := if a < lo then 0 else if hi < a then 0 else 1
theorem zin_01 (a lo hi : Int32) : zin a lo hi = 0 ∨ zin a lo hi = 1 := by unfold zin; split; exact Or.inl rfl; split; exact Or.inl rfl; exact Or.inr rfl
/-- the last held actor of a handle -/
def zfd (σ : Nat → Nat → Int32) (x : Int32) : Nat → Int32
  | 0 => -nI 1
  | k + 1 => if σ 10 k ≠ 0 ∧ σ 1 k = x then nI k else zfd σ x k
/-- the lowest free slot of the last d -/
def zlo (σ : Nat → Nat → Int32) : Nat → Int32
  | 0 => -nI 1
  | d + 1 => if σ 11 (11 - d) = 0 then nI (11 - d) else zlo σ d
def zfr (σ : Nat → Nat → Int32) (s : Nat) : Bool := decide (σ 11 s = 0)
/-- traits in range -/
def zrt (c w s l : Int32) : Int32 := if zin c (nI 0) (nI 9) = 0 then 0 else if zin w (-nI 1) (nI 1) = 0 then 0 else if zin s (nI 0) (nI 1) = 0 then 0 else if zin l (nI 1) (nI 9) = 0 then 0 else 1
/-- the sum -/
def zsu (σ : Nat → Nat → Int32) : Nat → Int32
  | 0 => nI 0
  | k + 1 => zsu σ k + (if σ 10 k = 0 then nI 0 else (nI (k + 1)) * (σ 2 k + nI 10 * σ 5 k + nI 100 * (σ 3 k + nI 1)))
/-- a new value of thrown -/
abbrev zth (σ : Nat → Nat → Int32) (x : Int32) : Nat → Nat → Int32 := zup σ 27 0 x
theorem zth0 {σ : Nat → Nat → Int32} {x : Int32} {f k : Nat} (h : f ≠ 27) : zth σ x f k = σ f k := if_neg (fun q => h q.1)
theorem zthr {σ : Nat → Nat → Int32} {x : Int32} {f : Nat} (h : f ≠ 27) : zth σ x f = σ f := by funext k; exact zth0 h
theorem zW0.th {σ : Nat → Nat → Int32} {n : Nat} {x : Int32} (h : zW0 σ n) : zW0 (zth σ x) n := ⟨(zth0 (by decide)).trans h.1, h.2⟩
theorem zheld_th {σ : Nat → Nat → Int32} {x : Int32} : zheld (zth σ x) = zheld σ := by funext k; simp only [zheld, zthr (show 10 ≠ 27 by decide)]
theorem zfr_th {σ : Nat → Nat → Int32} {x : Int32} : zfr (zth σ x) = zfr σ := by funext k; simp only [zfr, zthr (show 11 ≠ 27 by decide)]
theorem zfd_th {σ : Nat → Nat → Int32} {x y : Int32} : ∀ n, zfd (zth σ x) y n = zfd σ y n
  | 0 => rfl
  | n + 1 => by simp only [zfd, zthr (show 10 ≠ 27 by decide), zthr (show 1 ≠ 27 by decide), zfd_th n]
theorem zsu_th {σ : Nat → Nat → Int32} {x : Int32} : ∀ n, zsu (zth σ x) n = zsu σ n
  | 0 => rfl
  | n + 1 => by simp only [zsu, zthr (show 10 ≠ 27 by decide), zthr (show 2 ≠ 27 by decide), zthr (show 3 ≠ 27 by decide), zthr (show 5 ≠ 27 by decide), zsu_th n]

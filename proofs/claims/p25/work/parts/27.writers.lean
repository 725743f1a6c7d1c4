/-! ===== the model: methods that write ===== -/
theorem zup_f {α : Type} {σ : Nat → Nat → α} {f k f' : Nat} {x : α} (h : f' ≠ f) : zup σ f k x f' = σ f' := by funext i; exact if_neg (fun q => h q.1)
theorem zup_k {α : Type} {σ : Nat → Nat → α} {f k f' k' : Nat} {x : α} (h : k' ≠ k) : zup σ f k x f' k' = σ f' k' := if_neg (fun q => h q.2)
theorem zup_s {α : Type} {σ : Nat → Nat → α} {f k : Nat} {x : α} : zup σ f k x f k = x := if_pos ⟨rfl, rfl⟩
theorem zup_up {α : Type} {σ : Nat → Nat → α} {f k : Nat} {x y : α} : zup (zup σ f k x) f k y = zup σ f k y := by
  funext g i
  show (if g = f ∧ i = k then y else if g = f ∧ i = k then x else σ g i) = if g = f ∧ i = k then y else σ g i
  by_cases h : g = f ∧ i = k
  · rw [if_pos h, if_pos h]
  · rw [if_neg h, if_neg h, if_neg h]
theorem n1neg : -nI 1 < 0 := by decide +kernel
theorem n1nge : ¬ 0 ≤ -nI 1 := by decide +kernel
/-- the slots after a sweep of all -/
def zsv (σ : Nat → Nat → Int32) (k : Nat) : Int32 := if σ 11 k ≠ 0 ∧ σ 10 ((σ 11 k).toNatClampNeg - 1) ≠ 0 then σ 11 k else 0
def zsr (σ : Nat → Nat → Int32) (i : Nat) : Nat → Nat → Int32 := fun f k => if f = 11 ∧ k < i then zsv σ k else σ f k
def zsw (σ : Nat → Nat → Int32) : Nat → Nat → Int32 := zup (zsr σ 12) 13 0 (-nI 1)
theorem zsr_n {σ : Nat → Nat → Int32} {i f : Nat} (h : f ≠ 11) : zsr σ i f = σ f := by funext k; exact if_neg (fun q => h q.1)
theorem zsr_g {σ : Nat → Nat → Int32} {i : Nat} : zsr σ i 11 i = σ 11 i := if_neg (fun q => Nat.lt_irrefl _ q.2)
theorem zsr_up {σ : Nat → Nat → Int32} {i : Nat} {x : Int32} (hx : x = zsv σ i) : zup (zsr σ i) 11 i x = zsr σ (i + 1) := by
  funext f k
  show (if f = 11 ∧ k = i then x else if f = 11 ∧ k < i then zsv σ k else σ f k) = if f = 11 ∧ k < i + 1 then zsv σ k else σ f k
  by_cases h : f = 11
  · by_cases e : k = i
    · rw [if_pos ⟨h, e⟩, if_pos ⟨h, by omega⟩, hx, e]
    · rw [if_neg (fun q => e q.2)]
      by_cases e2 : k < i
      · rw [if_pos ⟨h, e2⟩, if_pos ⟨h, by omega⟩]
      · rw [if_neg (fun q => e2 q.2), if_neg (fun q => e2 (by omega))]
  · rw [if_neg (fun q => h q.1), if_neg (fun q => h q.1), if_neg (fun q => h q.1)]
def zW11 (σ : Nat → Nat → Int32) (n : Nat) : Prop := ∀ s, s < 12 → σ 11 s = 0 ∨ ∃ t, t < n ∧ σ 11 s = nI (t + 1)
theorem n00 : (0 : Int32) ≤ 0 := by decide
/-- an actor comes into slot s -/
def zcm (σ : Nat → Nat → Int32) (n s : Nat) (c w sd l r : Int32) : Nat → Nat → Int32 := zup (zup (zup (zup (zup (zup (zup (zup (zup σ 12 s (σ 12 s + nI 1)) 11 s (nI (n + 1))) 1 n (nI 100 * (σ 12 s + nI 1) + nI s)) 2 n c) 3 n w) 4 n sd) 5 n l) 6 n r) 0 0 (nI (n + 1))
def zcs (σ : Nat → Nat → Int32) : Nat → Nat → Int32 := if zlo σ 12 < 0 then zsw σ else σ
/-- a link more -/
def ztie (σ : Nat → Nat → Int32) (k l : Nat) (t kd : Int32) : Nat → Nat → Int32 := zup (zup (zup σ 8 (3 * k + l) t) 9 (3 * k + l) kd) 7 k (nI (l + 1))

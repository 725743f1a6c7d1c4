/-! ===== the model: links, looks ===== -/
/-- links moved down from place a on -/
def zsh (σ : Nat → Nat → Int32) (a i : Nat) : Nat → Nat → Int32 := fun f j => if (f = 8 ∨ f = 9) ∧ a ≤ j ∧ j < i then σ f (j + 1) else σ f j
theorem zsh_n {σ : Nat → Nat → Int32} {a i f : Nat} (h : f ≠ 8) (h' : f ≠ 9) : zsh σ a i f = σ f := by funext k; exact if_neg (fun q => q.1.elim h h')
theorem zsh_8 {σ : Nat → Nat → Int32} {a i f j : Nat} (h : i ≤ j) : zsh σ a i f j = σ f j := if_neg (fun q => by omega)
theorem zsh_up {σ : Nat → Nat → Int32} {a i : Nat} (h : a ≤ i) : zup (zup (zsh σ a i) 8 i (σ 8 (i + 1))) 9 i (σ 9 (i + 1)) = zsh σ a (i + 1) := by
  funext f j
  show (if f = 9 ∧ j = i then σ 9 (i + 1) else if f = 8 ∧ j = i then σ 8 (i + 1) else if (f = 8 ∨ f = 9) ∧ a ≤ j ∧ j < i then σ f (j + 1) else σ f j) = if (f = 8 ∨ f = 9) ∧ a ≤ j ∧ j < i + 1 then σ f (j + 1) else σ f j
  by_cases e : j = i
  · subst e
    by_cases h9 : f = 9
    · subst h9; rw [if_pos ⟨rfl, rfl⟩, if_pos ⟨Or.inr rfl, h, Nat.lt_succ_self _⟩]
    · rw [if_neg (fun q => h9 q.1)]
      by_cases h8 : f = 8
      · subst h8; rw [if_pos ⟨rfl, rfl⟩, if_pos ⟨Or.inl rfl, h, Nat.lt_succ_self _⟩]
      · rw [if_neg (fun q => h8 q.1), if_neg (fun q => q.1.elim h8 h9), if_neg (fun q => q.1.elim h8 h9)]
  · rw [if_neg (fun q => e q.2), if_neg (fun q => e q.2)]
    by_cases c : (f = 8 ∨ f = 9) ∧ a ≤ j ∧ j < i
    · rw [if_pos c, if_pos ⟨c.1, c.2.1, by omega⟩]
    · rw [if_neg c, if_neg (fun q => c ⟨q.1, q.2.1, by omega⟩)]
/-- a link less: actor k had l + 1 links, the link at place p goes -/
def zun (σ : Nat → Nat → Int32) (k l p : Nat) : Nat → Nat → Int32 := zup (zsh σ (3 * k + p) (3 * k + l)) 7 k (nI l)

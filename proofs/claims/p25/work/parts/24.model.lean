/-! ===== numbers, lists of locals, counts ===== -/
theorem zx_nil {de mi y p : Nat} {Q : zRes → zM → Prop} {ls : List (Option Value)} {st : List Value} {μ : zM} : zx de mi y Q [] p ls st μ = zH de mi y p ls st μ Q := rfl
theorem zld_0 {v : Value} {l : List (Option Value)} : zld (some v :: l) 0 = some v := rfl
theorem zld_s {a : Option Value} {l : List (Option Value)} {n : Nat} : zld (a :: l) (n + 1) = zld l n := rfl
theorem zcst_0 {x : Nat} : zcst 0 x = nI x := rfl
theorem zcst_1 {x : Nat} : zcst 1 x = -nI x := rfl
theorem vrf_some {a : Nat} : va_rf (some a) = Value.ref a := rfl
theorem vrf_none : va_rf none = Value.null := rfl
theorem vrf_mid {c : Prop} [Decidable c] {a b : Option Nat} : va_rf (if c then a else b) = if c then va_rf a else va_rf b := by by_cases h : c <;> simp only [h, if_true, if_false]
/-- how many below n -/
def zcn (p : Nat → Bool) : Nat → Nat
  | 0 => 0
  | k + 1 => zcn p k + (if p k then 1 else 0)
theorem zcn_le (p : Nat → Bool) : ∀ n, zcn p n ≤ n
  | 0 => Nat.le_refl _
  | n + 1 => by have := zcn_le p n; simp only [zcn]; split <;> omega
theorem zcn_eq {p q : Nat → Bool} : ∀ {n}, (∀ k, k < n → p k = q k) → zcn p n = zcn q n
  | 0, _ => rfl
  | n + 1, h => by simp only [zcn]; rw [zcn_eq (fun k hk => h k (Nat.lt_succ_of_lt hk)), h n (Nat.lt_succ_self n)]
/-! ===== the model's memory ===== -/

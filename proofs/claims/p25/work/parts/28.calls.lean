/-! ===== the model: its calls on actors ===== -/
theorem n0t : (nI 0 = 0) = True := eq_true rfl
theorem n1t : (nI 1 = 1) = True := eq_true rfl
theorem n1p : ¬ nI 1 ≤ 0 := by decide +kernel
theorem n2p : ¬ nI 2 ≤ 0 := by decide +kernel
theorem n3p : ¬ nI 3 ≤ 0 := by decide +kernel
theorem n0p : nI 0 ≤ 0 := by decide +kernel
theorem nI_nneg {k : Nat} (h : k < 2 ^ 31) : nI k ≠ -nI 1 := by
  intro e
  have a := nI_pos' h
  rw [e] at a
  exact n1nge a
theorem zlo_th {σ : Nat → Nat → Int32} {x : Int32} : ∀ d, zlo (zth σ x) d = zlo σ d
  | 0 => rfl
  | d + 1 => by simp only [zlo, zthr (show 11 ≠ 27 by decide), zlo_th d]
theorem zW7.th {σ : Nat → Nat → Int32} {n : Nat} {x : Int32} (h : zW7 σ n) : zW7 (zth σ x) n := by
  refine ⟨fun k hk => ?_, fun j hj => ?_⟩
  · rw [zthr (by decide)]; exact h.1 k hk
  · rw [zthr (by decide), zthr (by decide)]; exact h.2 j hj
theorem zW11.th {σ : Nat → Nat → Int32} {n : Nat} {x : Int32} (h : zW11 σ n) : zW11 (zth σ x) n := by
  intro s hs
  rw [zthr (by decide)]; exact h s hs

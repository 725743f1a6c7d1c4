/-- the law's run -/
theorem zlaw {b de mi sz L : Nat} {xs : Nat → Int32} (hL : L ≤ 3072) (h1 : b ≠ de) (h2 : b < sz) (h3 : de < sz) : ∃ f μ', zrn zcode zX zHd de mi f mL_law 0 [some (.ref b), none, none, none, none, none, none] [] (zmem0 b de L sz xs) = some (.inl (some (.int 1)), μ') ∧ zC μ' ≤ 604531 ∧ zL μ' ≤ 7282511 := sorry

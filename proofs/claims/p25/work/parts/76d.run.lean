theorem zr77b : zrunT 77 391 ((List.replicate 4 none).set 1 (some (.inr 0))) (zT0, 0, 25007, 300042) (.inr 654) 30000 360000 = true := by decide +kernel
theorem zr77c : zrunT 77 662 ((List.replicate 4 none).set 2 (some (.inr 0))) (zT0, 0, 30007, 360042) (.inl 1) 35000 420000 = true := by decide +kernel

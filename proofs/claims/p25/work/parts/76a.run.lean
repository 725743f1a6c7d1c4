theorem zr75 : zrunT 75 8 ((List.replicate 1 none).set 0 (some (.inr 0))) (zT0, 0, 7, 42) (.inl 1) 5000 60000 = true := by decide +kernel

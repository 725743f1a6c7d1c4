theorem zr76a : zrunT 76 8 ((List.replicate 3 none).set 0 (some (.inr 0))) (zT0, 0, 5007, 60042) (.inr 195) 10000 120000 = true := by decide +kernel
theorem zr76b : zrunT 76 203 ((List.replicate 3 none).set 1 (some (.inr 0))) (zT0, 0, 10007, 120042) (.inr 405) 15000 180000 = true := by decide +kernel
theorem zr76c : zrunT 76 413 ((List.replicate 3 none).set 2 (some (.inr 0))) (zT0, 0, 15007, 180042) (.inl 1) 20000 240000 = true := by decide +kernel

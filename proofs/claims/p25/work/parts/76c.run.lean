theorem zr77a : zrunT 77 8 ((List.replicate 4 none).set 0 (some (.inr 0))) (zT0, 0, 20007, 240042) (.inr 383) 25000 300000 = true := by decide +kernel

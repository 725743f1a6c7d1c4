theorem zk_75_0 : zb75_0.all (zok 75) = true := by decide +kernel
theorem zk_75_1 : zb75_1.all (zok 75) = true := by decide +kernel
theorem zk_75_2 : zb75_2.all (zok 75) = true := by decide +kernel
theorem zk_75_3 : zb75_3.all (zok 75) = true := by decide +kernel

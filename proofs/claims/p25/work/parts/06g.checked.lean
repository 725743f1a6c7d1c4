theorem zk_75_4 : zb75_4.all (zok 75) = true := by decide +kernel
theorem zk_75_5 : zb75_5.all (zok 75) = true := by decide +kernel
theorem zk_75_6 : zb75_6.all (zok 75) = true := by decide +kernel
theorem zk_75_7 : zb75_7.all (zok 75) = true := by decide +kernel

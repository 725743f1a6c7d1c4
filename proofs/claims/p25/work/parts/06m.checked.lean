theorem zk_77_10 : zb77_10.all (zok 77) = true := by decide +kernel
theorem zk_77_11 : zb77_11.all (zok 77) = true := by decide +kernel
theorem zk_78_0 : zb78_0.all (zok 78) = true := by decide +kernel
theorem zk_78_1 : zb78_1.all (zok 78) = true := by decide +kernel

theorem zk_78_2 : zb78_2.all (zok 78) = true := by decide +kernel

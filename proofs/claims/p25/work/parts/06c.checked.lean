theorem zk_72_0 : zb72_0.all (zok 72) = true := by decide +kernel
theorem zk_72_1 : zb72_1.all (zok 72) = true := by decide +kernel
theorem zk_72_2 : zb72_2.all (zok 72) = true := by decide +kernel
theorem zk_73 : zb73.all (zok 73) = true := by decide +kernel
theorem zk_74_0 : zb74_0.all (zok 74) = true := by decide +kernel

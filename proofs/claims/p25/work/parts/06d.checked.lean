theorem zk_74_1 : zb74_1.all (zok 74) = true := by decide +kernel
theorem zk_74_2 : zb74_2.all (zok 74) = true := by decide +kernel
theorem zk_74_3 : zb74_3.all (zok 74) = true := by decide +kernel
theorem zk_74_4 : zb74_4.all (zok 74) = true := by decide +kernel

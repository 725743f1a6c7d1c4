theorem zk_74_5 : zb74_5.all (zok 74) = true := by decide +kernel
theorem zk_74_6 : zb74_6.all (zok 74) = true := by decide +kernel
theorem zk_74_7 : zb74_7.all (zok 74) = true := by decide +kernel
theorem zk_74_8 : zb74_8.all (zok 74) = true := by decide +kernel

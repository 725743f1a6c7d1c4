theorem zk_77_6 : zb77_6.all (zok 77) = true := by decide +kernel
theorem zk_77_7 : zb77_7.all (zok 77) = true := by decide +kernel
theorem zk_77_8 : zb77_8.all (zok 77) = true := by decide +kernel
theorem zk_77_9 : zb77_9.all (zok 77) = true := by decide +kernel

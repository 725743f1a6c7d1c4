theorem zk_77_2 : zb77_2.all (zok 77) = true := by decide +kernel
theorem zk_77_3 : zb77_3.all (zok 77) = true := by decide +kernel
theorem zk_77_4 : zb77_4.all (zok 77) = true := by decide +kernel
theorem zk_77_5 : zb77_5.all (zok 77) = true := by decide +kernel

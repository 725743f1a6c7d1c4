theorem zk_76_8 : zb76_8.all (zok 76) = true := by decide +kernel
theorem zk_76_9 : zb76_9.all (zok 76) = true := by decide +kernel
theorem zk_77_0 : zb77_0.all (zok 77) = true := by decide +kernel
theorem zk_77_1 : zb77_1.all (zok 77) = true := by decide +kernel

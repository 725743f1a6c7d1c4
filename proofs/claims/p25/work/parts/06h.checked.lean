theorem zk_76_0 : zb76_0.all (zok 76) = true := by decide +kernel
theorem zk_76_1 : zb76_1.all (zok 76) = true := by decide +kernel
theorem zk_76_2 : zb76_2.all (zok 76) = true := by decide +kernel
theorem zk_76_3 : zb76_3.all (zok 76) = true := by decide +kernel

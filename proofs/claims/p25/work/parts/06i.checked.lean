theorem zk_76_4 : zb76_4.all (zok 76) = true := by decide +kernel
theorem zk_76_5 : zb76_5.all (zok 76) = true := by decide +kernel
theorem zk_76_6 : zb76_6.all (zok 76) = true := by decide +kernel
theorem zk_76_7 : zb76_7.all (zok 76) = true := by decide +kernel

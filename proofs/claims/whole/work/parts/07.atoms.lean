theorem at1_nIO : ((vx_atS RX11 322 nIO ["java/lang/RuntimeException", "java/lang/Exception"]).filter goodWord).all (fun w => decide (w ∈ lw_tbl)) = true := by decide +kernel
theorem at2_nIO : ((vx_atS RX11 322 nIO ["java/lang/RuntimeException", "java/lang/Exception"]).filter (fun w => !goodWord w)).all (fun w => decide (w ∈ [Cond.castable nIO nIO, .declares (Bundle.initS "java/lang/RuntimeException"), .declares (Bundle.initS "java/lang/Exception"), .declares (Bundle.initS Bundle.tN)])) = true := by decide +kernel
theorem at3_nIO : (vx_atS RX11 322 nIO ["java/lang/RuntimeException", "java/lang/Exception"]).all vx_ot = true := by decide +kernel
theorem at4_nIO : Bundle.fit nIO = true := by decide +kernel
theorem at1_nIA : ((vx_atS RX11 121 nIA ["java/lang/RuntimeException", "java/lang/Exception"]).filter goodWord).all (fun w => decide (w ∈ lw_tbl)) = true := by decide +kernel
theorem at2_nIA : ((vx_atS RX11 121 nIA ["java/lang/RuntimeException", "java/lang/Exception"]).filter (fun w => !goodWord w)).all (fun w => decide (w ∈ [Cond.castable nIA nIA, .declares (Bundle.initS "java/lang/RuntimeException"), .declares (Bundle.initS "java/lang/Exception"), .declares (Bundle.initS Bundle.tN)])) = true := by decide +kernel
theorem at3_nIA : (vx_atS RX11 121 nIA ["java/lang/RuntimeException", "java/lang/Exception"]).all vx_ot = true := by decide +kernel
theorem at4_nIA : Bundle.fit nIA = true := by decide +kernel
theorem at1_nIS : ((vx_atS RX11 176 nIS ["java/lang/RuntimeException", "java/lang/Exception"]).filter goodWord).all (fun w => decide (w ∈ lw_tbl)) = true := by decide +kernel
theorem at2_nIS : ((vx_atS RX11 176 nIS ["java/lang/RuntimeException", "java/lang/Exception"]).filter (fun w => !goodWord w)).all (fun w => decide (w ∈ [Cond.castable nIS nIS, .declares (Bundle.initS "java/lang/RuntimeException"), .declares (Bundle.initS "java/lang/Exception"), .declares (Bundle.initS Bundle.tN)])) = true := by decide +kernel
theorem at3_nIS : (vx_atS RX11 176 nIS ["java/lang/RuntimeException", "java/lang/Exception"]).all vx_ot = true := by decide +kernel
theorem at4_nIS : Bundle.fit nIS = true := by decide +kernel
theorem at5 : ∀ n ∈ ["java/lang/RuntimeException", "java/lang/Exception"], Bundle.fit n = true := by decide +kernel

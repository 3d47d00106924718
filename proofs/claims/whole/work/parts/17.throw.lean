/-! ===== methods that throw ===== -/
def exN (w : Int32) : String := if w = 0 then "java/lang/IndexOutOfBoundsException" else "java/util/NoSuchElementException"
theorem at_in0 : (vx_atS RX6 89 "java/lang/IndexOutOfBoundsException" ["java/lang/RuntimeException", "java/lang/Exception"]).all (fun w => decide (w ∈ lw_tbl)) = true := by decide +kernel
theorem at_in1 : (vx_atS RX6 113 "java/util/NoSuchElementException" ["java/lang/RuntimeException", "java/lang/Exception"]).all (fun w => decide (w ∈ lw_tbl)) = true := by decide +kernel
theorem at_gd0 : (vx_atS RX6 89 "java/lang/IndexOutOfBoundsException" ["java/lang/RuntimeException", "java/lang/Exception"]).all (fun w => goodWord w || nestW w) = true := by decide +kernel
theorem at_gd1 : (vx_atS RX6 113 "java/util/NoSuchElementException" ["java/lang/RuntimeException", "java/lang/Exception"]).all (fun w => goodWord w || nestW w) = true := by decide +kernel
theorem at_ot0 : (vx_atS RX6 89 "java/lang/IndexOutOfBoundsException" ["java/lang/RuntimeException", "java/lang/Exception"]).all vx_ot = true := by decide +kernel
theorem at_ot1 : (vx_atS RX6 113 "java/util/NoSuchElementException" ["java/lang/RuntimeException", "java/lang/Exception"]).all vx_ot = true := by decide +kernel

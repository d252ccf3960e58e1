/-! the words of the throws -/
def nAI : List String := ["java/lang/IndexOutOfBoundsException", "java/lang/RuntimeException", "java/lang/Exception"]
def nAR : List String := ["java/lang/RuntimeException", "java/lang/Exception"]
theorem at_ai : (vx_atS RX6 85 "java/lang/ArrayIndexOutOfBoundsException" nAI).all (fun w => decide (w ∈ lw_tbl)) = true := by decide +kernel
theorem at_ar : (vx_atS RX6 239 "java/lang/ArithmeticException" nAR).all (fun w => decide (w ∈ lw_tbl)) = true := by decide +kernel

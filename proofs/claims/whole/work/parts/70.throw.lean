def xNm : List String := ["java/lang/RuntimeException", "java/lang/Exception"]
theorem tt_f : (vx_atS RX10 172 "java/util/NoSuchElementException" xNm).filter (fun w => !goodWord w) = [.castable "java/util/NoSuchElementException" "java/util/NoSuchElementException"] := by decide +kernel
theorem tt_h : ((vx_atS RX10 172 "java/util/NoSuchElementException" xNm).filter goodWord).all (fun w => decide (w ∈ lw_tbl)) = true := by decide +kernel
theorem tt_i : Cond.castable "java/util/NoSuchElementException" "java/util/NoSuchElementException" ∈ lw_tbl := by decide +kernel

theorem pb_1 : (vx_atS "OpeningsCabinet" 376 "java/util/NoSuchElementException" ["java/lang/RuntimeException", "java/lang/Exception"]).filter (fun w => !goodWord w) = [] := by decide +kernel
theorem pb_2 : (vx_atS "OpeningsCabinet" 376 "java/util/NoSuchElementException" ["java/lang/RuntimeException", "java/lang/Exception"]).all (fun w => vx_ot w) = true := by decide +kernel

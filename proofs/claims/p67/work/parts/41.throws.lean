/-! THE PLACES THAT THROW -/
section Thr
set_option maxRecDepth 100000 in
theorem thr_ia : gThr "MailOffice" 111 115 "java/lang/IllegalArgumentException" ["java/lang/RuntimeException", "java/lang/Exception"] := ⟨by decide +kernel, by decide +kernel, (gIn (List.mem_of_getElem? (i := 496) (by decide +kernel)) (by decide +kernel)), (gIn (List.mem_of_getElem? (i := 58) (by decide +kernel)) (by decide +kernel)), gAtOk (by decide +kernel), by decide +kernel⟩
set_option maxRecDepth 100000 in
theorem thr_io : gThr "MailOffice" 118 122 "java/lang/IndexOutOfBoundsException" ["java/lang/RuntimeException", "java/lang/Exception"] := ⟨by decide +kernel, by decide +kernel, (gIn (List.mem_of_getElem? (i := 567) (by decide +kernel)) (by decide +kernel)), (gIn (List.mem_of_getElem? (i := 49) (by decide +kernel)) (by decide +kernel)), gAtOk (by decide +kernel), by decide +kernel⟩
set_option maxRecDepth 100000 in
theorem thr_is : gThr "MailOffice" 128 132 "java/lang/IllegalStateException" ["java/lang/RuntimeException", "java/lang/Exception"] := ⟨by decide +kernel, by decide +kernel, (gIn (List.mem_of_getElem? (i := 599) (by decide +kernel)) (by decide +kernel)), (gIn (List.mem_of_getElem? (i := 60) (by decide +kernel)) (by decide +kernel)), gAtOk (by decide +kernel), by decide +kernel⟩
set_option maxRecDepth 100000 in
theorem thr_ar : gThr "MailOffice" 327 331 "java/lang/ArithmeticException" ["java/lang/RuntimeException", "java/lang/Exception"] := ⟨by decide +kernel, by decide +kernel, (gIn (List.mem_of_getElem? (i := 1571) (by decide +kernel)) (by decide +kernel)), (gIn (List.mem_of_getElem? (i := 70) (by decide +kernel)) (by decide +kernel)), gAtOk (by decide +kernel), by decide +kernel⟩
end Thr

/-! OBJECTS MADE -/
section GMk
set_option maxRecDepth 100000 in
theorem nX3_10 : gNew RX3 10 6 [.int 0, .int 0, .int 0, .int 0, .int 0, .int 0, .int 0] := ⟨RX3, TX3, 7, tyX3, rfl, inGX3, (gIn (List.mem_of_getElem? (i := 320) (by decide +kernel)) (by decide +kernel)), (gIn (List.mem_of_getElem? (i := 321) (by decide +kernel)) (by decide +kernel)), (gIn (List.mem_of_getElem? (i := 53) (by decide +kernel)) (by decide +kernel)), tyX3_ok, by decide, rfl⟩
set_option maxRecDepth 100000 in
theorem nX4_9 : gNew RX4 9 4 [.int 0, .null, .int 0] := ⟨RJx4a65c, TJx4a65c, 3, tyJx4a65c, rfl, inGJx4a65c, (gIn (List.mem_of_getElem? (i := 85) (by decide +kernel)) (by decide +kernel)), (gIn (List.mem_of_getElem? (i := 86) (by decide +kernel)) (by decide +kernel)), (gIn (List.mem_of_getElem? (i := 38) (by decide +kernel)) (by decide +kernel)), tyJx4a65c_ok, by decide, rfl⟩
set_option maxRecDepth 100000 in
theorem nX4_18 : gNew RX4 18 11 [.null, .null] := ⟨RX8, TX8, 2, tyX8, rfl, inGX8, (gIn (List.mem_of_getElem? (i := 111) (by decide +kernel)) (by decide +kernel)), (gIn (List.mem_of_getElem? (i := 112) (by decide +kernel)) (by decide +kernel)), (gIn (List.mem_of_getElem? (i := 39) (by decide +kernel)) (by decide +kernel)), tyX8_ok, by decide, rfl⟩
set_option maxRecDepth 100000 in
theorem nX4_13 : gNew RX4 13 7 [.null, .null, .null, .null, .null, .int 0, .int 0, .int 0, .int 0, .int 0, .int 0] := ⟨RX4, TX4, 11, tyX4, rfl, inGX4, (gIn (List.mem_of_getElem? (i := 295) (by decide +kernel)) (by decide +kernel)), (gIn (List.mem_of_getElem? (i := 80) (by decide +kernel)) (by decide +kernel)), (gIn (List.mem_of_getElem? (i := 35) (by decide +kernel)) (by decide +kernel)), tyX4_ok, by decide, rfl⟩
set_option maxRecDepth 100000 in
theorem nX4_63 : gNew RX4 63 6 [.int 0, .int 0, .int 0, .int 0, .int 0, .int 0, .int 0] := ⟨RX3, TX3, 7, tyX3, rfl, inGX3, (gIn (List.mem_of_getElem? (i := 315) (by decide +kernel)) (by decide +kernel)), (gIn (List.mem_of_getElem? (i := 321) (by decide +kernel)) (by decide +kernel)), (gIn (List.mem_of_getElem? (i := 53) (by decide +kernel)) (by decide +kernel)), tyX3_ok, by decide, rfl⟩
set_option maxRecDepth 100000 in
theorem nX5_15 : gNew RX5 15 4 [.int 0, .null, .int 0] := ⟨RJx4a65c, TJx4a65c, 3, tyJx4a65c, rfl, inGJx4a65c, (gIn (List.mem_of_getElem? (i := 816) (by decide +kernel)) (by decide +kernel)), (gIn (List.mem_of_getElem? (i := 86) (by decide +kernel)) (by decide +kernel)), (gIn (List.mem_of_getElem? (i := 38) (by decide +kernel)) (by decide +kernel)), tyJx4a65c_ok, by decide, rfl⟩
set_option maxRecDepth 100000 in
theorem nX5_57 : gNew RX5 57 5 [.null, .int 0, .int 0, .int 0] := ⟨RX1, TX1, 4, tyX1, rfl, inGX1, (gIn (List.mem_of_getElem? (i := 919) (by decide +kernel)) (by decide +kernel)), (gIn (List.mem_of_getElem? (i := 920) (by decide +kernel)) (by decide +kernel)), (gIn (List.mem_of_getElem? (i := 65) (by decide +kernel)) (by decide +kernel)), tyX1_ok, by decide, rfl⟩
set_option maxRecDepth 100000 in
theorem nX8_9 : gNew RX8 9 4 [.int 0, .null, .int 0] := ⟨RJx4a65c, TJx4a65c, 3, tyJx4a65c, rfl, inGJx4a65c, (gIn (List.mem_of_getElem? (i := 117) (by decide +kernel)) (by decide +kernel)), (gIn (List.mem_of_getElem? (i := 86) (by decide +kernel)) (by decide +kernel)), (gIn (List.mem_of_getElem? (i := 38) (by decide +kernel)) (by decide +kernel)), tyJx4a65c_ok, by decide, rfl⟩
set_option maxRecDepth 100000 in
theorem nX8_18 : gNew RX8 18 9 [.int 0, .int 0, .int 0, .int 0, .int 0] := ⟨RX6, TX6, 5, tyX6, rfl, inGX6, (gIn (List.mem_of_getElem? (i := 119) (by decide +kernel)) (by decide +kernel)), (gIn (List.mem_of_getElem? (i := 120) (by decide +kernel)) (by decide +kernel)), (gIn (List.mem_of_getElem? (i := 40) (by decide +kernel)) (by decide +kernel)), tyX6_ok, by decide, rfl⟩
set_option maxRecDepth 100000 in
theorem nX9_7 : gNew RX9 7 7 [.null, .null, .null, .null, .null, .int 0, .int 0, .int 0, .int 0, .int 0, .int 0] := ⟨RX4, TX4, 11, tyX4, rfl, inGX4, (gIn (List.mem_of_getElem? (i := 79) (by decide +kernel)) (by decide +kernel)), (gIn (List.mem_of_getElem? (i := 80) (by decide +kernel)) (by decide +kernel)), (gIn (List.mem_of_getElem? (i := 35) (by decide +kernel)) (by decide +kernel)), tyX4_ok, by decide, rfl⟩
set_option maxRecDepth 100000 in
theorem nX9_19 : gNew RX9 19 4 [.int 0, .null, .int 0] := ⟨RJx4a65c, TJx4a65c, 3, tyJx4a65c, rfl, inGJx4a65c, (gIn (List.mem_of_getElem? (i := 207) (by decide +kernel)) (by decide +kernel)), (gIn (List.mem_of_getElem? (i := 86) (by decide +kernel)) (by decide +kernel)), (gIn (List.mem_of_getElem? (i := 38) (by decide +kernel)) (by decide +kernel)), tyJx4a65c_ok, by decide, rfl⟩
set_option maxRecDepth 100000 in
theorem nX9_26 : gNew RX9 26 10 [.null, .null, .int 0] := ⟨RX7, TX7, 3, tyX7, rfl, inGX7, (gIn (List.mem_of_getElem? (i := 209) (by decide +kernel)) (by decide +kernel)), (gIn (List.mem_of_getElem? (i := 210) (by decide +kernel)) (by decide +kernel)), (gIn (List.mem_of_getElem? (i := 41) (by decide +kernel)) (by decide +kernel)), tyX7_ok, by decide, rfl⟩
set_option maxRecDepth 100000 in
theorem nX9_41 : gNew RX9 41 1 [.null, .int 0, .int 0, .int 0] := ⟨RJ4, TJ4, 4, tyJ4, rfl, inGJ4, (gIn (List.mem_of_getElem? (i := 225) (by decide +kernel)) (by decide +kernel)), (gIn (List.mem_of_getElem? (i := 226) (by decide +kernel)) (by decide +kernel)), (gIn (List.mem_of_getElem? (i := 43) (by decide +kernel)) (by decide +kernel)), tyJ4_ok, by decide, rfl⟩
set_option maxRecDepth 100000 in
theorem nX9_369 : gNew RX9 369 8 [.null, .int 0, .int 0, .null] := ⟨RX5, TX5, 4, tyX5, rfl, inGX5, (gIn (List.mem_of_getElem? (i := 810) (by decide +kernel)) (by decide +kernel)), (gIn (List.mem_of_getElem? (i := 811) (by decide +kernel)) (by decide +kernel)), (gIn (List.mem_of_getElem? (i := 61) (by decide +kernel)) (by decide +kernel)), tyX5_ok, by decide, rfl⟩
set_option maxRecDepth 100000 in
theorem nL_231 : gNew "MailOfficeLaw" 231 1 [.null, .int 0, .int 0, .int 0] := ⟨RJ4, TJ4, 4, tyJ4, rfl, inGJ4, (gIn (List.mem_of_getElem? (i := 1245) (by decide +kernel)) (by decide +kernel)), (gIn (List.mem_of_getElem? (i := 226) (by decide +kernel)) (by decide +kernel)), (gIn (List.mem_of_getElem? (i := 43) (by decide +kernel)) (by decide +kernel)), tyJ4_ok, by decide, rfl⟩
set_option maxRecDepth 100000 in
theorem nL_16 : gNew "MailOfficeLaw" 16 12 [.null, .null, .null, .null, .null, .int 0, .null, .int 0, .int 0] := ⟨RX9, TX9, 9, tyX9, rfl, inGX9, (gIn (List.mem_of_getElem? (i := 71) (by decide +kernel)) (by decide +kernel)), (gIn (List.mem_of_getElem? (i := 72) (by decide +kernel)) (by decide +kernel)), (gIn (List.mem_of_getElem? (i := 34) (by decide +kernel)) (by decide +kernel)), tyX9_ok, by decide, rfl⟩
theorem fin6_0 : gFin RX3 6 0 := ⟨_, _, _, rfl, rfl⟩
theorem fin6_1 : gFin RX3 6 1 := ⟨_, _, _, rfl, rfl⟩
theorem fin6_2 : gFin RX3 6 2 := ⟨_, _, _, rfl, rfl⟩
theorem fin6_3 : gFin RX3 6 3 := ⟨_, _, _, rfl, rfl⟩
theorem fin9_0 : gFin RX6 9 0 := ⟨_, _, _, rfl, rfl⟩
theorem fin9_1 : gFin RX6 9 1 := ⟨_, _, _, rfl, rfl⟩
theorem fin9_2 : gFin RX6 9 2 := ⟨_, _, _, rfl, rfl⟩
theorem fin9_3 : gFin RX6 9 3 := ⟨_, _, _, rfl, rfl⟩
theorem fin9_4 : gFin RX6 9 4 := ⟨_, _, _, rfl, rfl⟩
theorem fin11_0 : gFin RX8 11 0 := ⟨_, _, _, rfl, rfl⟩
theorem fin11_1 : gFin RX8 11 1 := ⟨_, _, _, rfl, rfl⟩
theorem fin7_0 : gFin RX4 7 0 := ⟨_, _, _, rfl, rfl⟩
theorem fin7_1 : gFin RX4 7 1 := ⟨_, _, _, rfl, rfl⟩
theorem fin7_2 : gFin RX4 7 2 := ⟨_, _, _, rfl, rfl⟩
theorem fin7_3 : gFin RX4 7 3 := ⟨_, _, _, rfl, rfl⟩
theorem fin7_4 : gFin RX4 7 4 := ⟨_, _, _, rfl, rfl⟩
theorem fin8_0 : gFin RX5 8 0 := ⟨_, _, _, rfl, rfl⟩
theorem fin8_1 : gFin RX5 8 1 := ⟨_, _, _, rfl, rfl⟩
theorem fin8_3 : gFin RX5 8 3 := ⟨_, _, _, rfl, rfl⟩
theorem fin5_0 : gFin RX1 5 0 := ⟨_, _, _, rfl, rfl⟩
theorem fin5_1 : gFin RX1 5 1 := ⟨_, _, _, rfl, rfl⟩
theorem fin5_2 : gFin RX1 5 2 := ⟨_, _, _, rfl, rfl⟩
theorem fin5_3 : gFin RX1 5 3 := ⟨_, _, _, rfl, rfl⟩
theorem fin10_0 : gFin RX7 10 0 := ⟨_, _, _, rfl, rfl⟩
theorem fin10_1 : gFin RX7 10 1 := ⟨_, _, _, rfl, rfl⟩
theorem fin12_2 : gFin RX9 12 2 := ⟨_, _, _, rfl, rfl⟩
theorem fin12_3 : gFin RX9 12 3 := ⟨_, _, _, rfl, rfl⟩
theorem fin12_4 : gFin RX9 12 4 := ⟨_, _, _, rfl, rfl⟩
theorem fin12_6 : gFin RX9 12 6 := ⟨_, _, _, rfl, rfl⟩
set_option maxRecDepth 100000 in
theorem wOIRX3 : Cond.methodLink RX3 3 Lib.objectInit ∈ lw_good := (gIn (List.mem_of_getElem? (i := 325) (by decide +kernel)) (by decide +kernel))
set_option maxRecDepth 100000 in
theorem wOIRX6 : Cond.methodLink RX6 3 Lib.objectInit ∈ lw_good := (gIn (List.mem_of_getElem? (i := 124) (by decide +kernel)) (by decide +kernel))
set_option maxRecDepth 100000 in
theorem wOIRX8 : Cond.methodLink RX8 3 Lib.objectInit ∈ lw_good := (gIn (List.mem_of_getElem? (i := 116) (by decide +kernel)) (by decide +kernel))
set_option maxRecDepth 100000 in
theorem wOIRX4 : Cond.methodLink RX4 3 Lib.objectInit ∈ lw_good := (gIn (List.mem_of_getElem? (i := 84) (by decide +kernel)) (by decide +kernel))
set_option maxRecDepth 100000 in
theorem wOIRX5 : Cond.methodLink RX5 3 Lib.objectInit ∈ lw_good := (gIn (List.mem_of_getElem? (i := 815) (by decide +kernel)) (by decide +kernel))
set_option maxRecDepth 100000 in
theorem wOIRX1 : Cond.methodLink RX1 3 Lib.objectInit ∈ lw_good := (gIn (List.mem_of_getElem? (i := 924) (by decide +kernel)) (by decide +kernel))
set_option maxRecDepth 100000 in
theorem wOIRX7 : Cond.methodLink RX7 3 Lib.objectInit ∈ lw_good := (gIn (List.mem_of_getElem? (i := 214) (by decide +kernel)) (by decide +kernel))
set_option maxRecDepth 100000 in
theorem wOIRX9 : Cond.methodLink RX9 1 Lib.objectInit ∈ lw_good := (gIn (List.mem_of_getElem? (i := 76) (by decide +kernel)) (by decide +kernel))
end GMk

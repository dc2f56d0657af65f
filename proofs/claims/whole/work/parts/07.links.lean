theorem qA_X3_55 : Cond.methodLink RX3 55 arraycopyName ∈ qv_WS := (qv_i6 (List.mem_of_getElem? (i := 63) (by decide +kernel)))
theorem qB_X8_195 : Cond.methodLink RX8 195 Lib.Math.max.name ∈ qv_WS := (qv_i7 (List.mem_of_getElem? (i := 60) (by decide +kernel)))
theorem qB_X8_200 : Cond.methodLink RX8 200 Lib.Math.min.name ∈ qv_WS := (qv_i10 (List.mem_of_getElem? (i := 9) (by decide +kernel)))
theorem qB_X3_108 : Cond.methodLink RX3 108 Lib.Math.max.name ∈ qv_WS := (qv_i7 (List.mem_of_getElem? (i := 21) (by decide +kernel)))
theorem qB_X6_80 : Cond.methodLink RX6 80 Lib.Math.max.name ∈ qv_WS := (qv_i10 (List.mem_of_getElem? (i := 54) (by decide +kernel)))
theorem qB_X6_89 : Cond.methodLink RX6 89 Lib.Math.min.name ∈ qv_WS := (qv_i11 (List.mem_of_getElem? (i := 1) (by decide +kernel)))
theorem qB_X7_79 : Cond.methodLink RX7 79 Lib.Math.min.name ∈ qv_WS := (qv_i10 (List.mem_of_getElem? (i := 8) (by decide +kernel)))
theorem qF_X8_10 : qv_F RX8 10 7 0 (.object "TrueOneWay$Text") true := ⟨RX8, TX8, 12, tyX8, rfl, by decide, (qv_i4 (List.mem_of_getElem? (i := 30) (by decide +kernel))), qin_X8, tyX8_ok, nmX8, rfl, rfl⟩
theorem qF_X8_19 : qv_F RX8 19 7 1 (.object "TrueOneWay$Land") true := ⟨RX8, TX8, 12, tyX8, rfl, by decide, (qv_i4 (List.mem_of_getElem? (i := 31) (by decide +kernel))), qin_X8, tyX8_ok, nmX8, rfl, rfl⟩
theorem qF_X8_23 : qv_F RX8 23 7 2 (.object "TrueOneWay$Land") true := ⟨RX8, TX8, 12, tyX8, rfl, by decide, (qv_i4 (List.mem_of_getElem? (i := 32) (by decide +kernel))), qin_X8, tyX8_ok, nmX8, rfl, rfl⟩
theorem qF_X8_26 : qv_F RX8 26 7 3 (.object "TrueOneWay$Land") true := ⟨RX8, TX8, 12, tyX8, rfl, by decide, (qv_i4 (List.mem_of_getElem? (i := 33) (by decide +kernel))), qin_X8, tyX8_ok, nmX8, rfl, rfl⟩
theorem qF_X8_32 : qv_F RX8 32 7 4 (.object "TrueOneWay$Finds") true := ⟨RX8, TX8, 12, tyX8, rfl, by decide, (qv_i4 (List.mem_of_getElem? (i := 34) (by decide +kernel))), qin_X8, tyX8_ok, nmX8, rfl, rfl⟩
theorem qF_X8_36 : qv_F RX8 36 7 5 (.object "TrueOneWay$Finds") true := ⟨RX8, TX8, 12, tyX8, rfl, by decide, (qv_i4 (List.mem_of_getElem? (i := 35) (by decide +kernel))), qin_X8, tyX8_ok, nmX8, rfl, rfl⟩
theorem qF_X8_42 : qv_F RX8 42 7 6 (.object "TrueOneWay$Worlds") true := ⟨RX8, TX8, 12, tyX8, rfl, by decide, (qv_i4 (List.mem_of_getElem? (i := 36) (by decide +kernel))), qin_X8, tyX8_ok, nmX8, rfl, rfl⟩
theorem qF_X8_49 : qv_F RX8 49 7 7 (.object "TrueOneWay$Clashes") true := ⟨RX8, TX8, 12, tyX8, rfl, by decide, (qv_i4 (List.mem_of_getElem? (i := 37) (by decide +kernel))), qin_X8, tyX8_ok, nmX8, rfl, rfl⟩
theorem qF_X8_56 : qv_F RX8 56 7 8 (.object "TrueOneWay$Wayfarer") true := ⟨RX8, TX8, 12, tyX8, rfl, by decide, (qv_i4 (List.mem_of_getElem? (i := 38) (by decide +kernel))), qin_X8, tyX8_ok, nmX8, rfl, rfl⟩
theorem qF_X8_63 : qv_F RX8 63 7 9 (.object "TrueOneWay$Reading") true := ⟨RX8, TX8, 12, tyX8, rfl, by decide, (qv_i4 (List.mem_of_getElem? (i := 39) (by decide +kernel))), qin_X8, tyX8_ok, nmX8, rfl, rfl⟩
theorem qF_X8_67 : qv_F RX8 67 7 10 (.array .int) true := ⟨RX8, TX8, 12, tyX8, rfl, by decide, (qv_i4 (List.mem_of_getElem? (i := 40) (by decide +kernel))), qin_X8, tyX8_ok, nmX8, rfl, rfl⟩
theorem qF_X8_71 : qv_F RX8 71 7 11 .boolean false := ⟨RX8, TX8, 12, tyX8, rfl, by decide, (qv_i4 (List.mem_of_getElem? (i := 41) (by decide +kernel))), qin_X8, tyX8_ok, nmX8, rfl, rfl⟩
theorem qF_X8_87 : qv_F RX8 87 4 0 .int false := ⟨RX5, TX5, 2, tyX5, rfl, by decide, (qv_i1 (List.mem_of_getElem? (i := 37) (by decide +kernel))), qin_X5, tyX5_ok, nmX5, rfl, rfl⟩
theorem qF_X8_106 : qv_F RX8 106 2 4 (.array .int) true := ⟨RX3, TX3, 14, tyX3, rfl, by decide, (qv_i1 (List.mem_of_getElem? (i := 61) (by decide +kernel))), qin_X3, tyX3_ok, nmX3, rfl, rfl⟩
theorem qF_X8_109 : qv_F RX8 109 2 5 (.array .int) true := ⟨RX3, TX3, 14, tyX3, rfl, by decide, (qv_i2 (List.mem_of_getElem? (i := 1) (by decide +kernel))), qin_X3, tyX3_ok, nmX3, rfl, rfl⟩
theorem qF_X8_118 : qv_F RX8 118 2 6 (.array .int) true := ⟨RX3, TX3, 14, tyX3, rfl, by decide, (qv_i2 (List.mem_of_getElem? (i := 5) (by decide +kernel))), qin_X3, tyX3_ok, nmX3, rfl, rfl⟩
theorem qF_X8_121 : qv_F RX8 121 2 7 (.array .int) true := ⟨RX3, TX3, 14, tyX3, rfl, by decide, (qv_i2 (List.mem_of_getElem? (i := 7) (by decide +kernel))), qin_X3, tyX3_ok, nmX3, rfl, rfl⟩
theorem qF_X8_124 : qv_F RX8 124 2 8 (.array .int) true := ⟨RX3, TX3, 14, tyX3, rfl, by decide, (qv_i2 (List.mem_of_getElem? (i := 10) (by decide +kernel))), qin_X3, tyX3_ok, nmX3, rfl, rfl⟩
theorem qF_X8_127 : qv_F RX8 127 2 9 (.array .int) true := ⟨RX3, TX3, 14, tyX3, rfl, by decide, (qv_i2 (List.mem_of_getElem? (i := 12) (by decide +kernel))), qin_X3, tyX3_ok, nmX3, rfl, rfl⟩
theorem qF_X8_133 : qv_F RX8 133 2 10 (.array .int) true := ⟨RX3, TX3, 14, tyX3, rfl, by decide, (qv_i2 (List.mem_of_getElem? (i := 15) (by decide +kernel))), qin_X3, tyX3_ok, nmX3, rfl, rfl⟩
theorem qF_X8_149 : qv_F RX8 149 6 2 .int false := ⟨RX7, TX7, 7, tyX7, rfl, by decide, (qv_i2 (List.mem_of_getElem? (i := 60) (by decide +kernel))), qin_X7, tyX7_ok, nmX7, rfl, rfl⟩
theorem qF_X8_152 : qv_F RX8 152 6 3 (.array .int) true := ⟨RX7, TX7, 7, tyX7, rfl, by decide, (qv_i2 (List.mem_of_getElem? (i := 63) (by decide +kernel))), qin_X7, tyX7_ok, nmX7, rfl, rfl⟩
theorem qF_X8_162 : qv_F RX8 162 1 0 .int false := ⟨RX2, TX2, 3, tyX2, rfl, by decide, (qv_i2 (List.mem_of_getElem? (i := 40) (by decide +kernel))), qin_X2, tyX2_ok, nmX2, rfl, rfl⟩
theorem qF_X8_172 : qv_F RX8 172 6 0 .int false := ⟨RX7, TX7, 7, tyX7, rfl, by decide, (qv_i2 (List.mem_of_getElem? (i := 55) (by decide +kernel))), qin_X7, tyX7_ok, nmX7, rfl, rfl⟩
theorem qF_X8_182 : qv_F RX8 182 2 3 .int false := ⟨RX3, TX3, 14, tyX3, rfl, by decide, (qv_i1 (List.mem_of_getElem? (i := 59) (by decide +kernel))), qin_X3, tyX3_ok, nmX3, rfl, rfl⟩
theorem qF_X8_214 : qv_F RX8 214 2 2 .int false := ⟨RX3, TX3, 14, tyX3, rfl, by decide, (qv_i1 (List.mem_of_getElem? (i := 56) (by decide +kernel))), qin_X3, tyX3_ok, nmX3, rfl, rfl⟩
theorem qF_X8_234 : qv_F RX8 234 3 0 .int false := ⟨RX4, TX4, 3, tyX4, rfl, by decide, (qv_i3 (List.mem_of_getElem? (i := 32) (by decide +kernel))), qin_X4, tyX4_ok, nmX4, rfl, rfl⟩
theorem qF_X8_246 : qv_F RX8 246 2 0 .int false := ⟨RX3, TX3, 14, tyX3, rfl, by decide, (qv_i1 (List.mem_of_getElem? (i := 50) (by decide +kernel))), qin_X3, tyX3_ok, nmX3, rfl, rfl⟩
theorem qF_X8_266 : qv_F RX8 266 2 1 .int false := ⟨RX3, TX3, 14, tyX3, rfl, by decide, (qv_i1 (List.mem_of_getElem? (i := 54) (by decide +kernel))), qin_X3, tyX3_ok, nmX3, rfl, rfl⟩
theorem qF_X8_269 : qv_F RX8 269 6 1 .int false := ⟨RX7, TX7, 7, tyX7, rfl, by decide, (qv_i2 (List.mem_of_getElem? (i := 57) (by decide +kernel))), qin_X7, tyX7_ok, nmX7, rfl, rfl⟩
theorem qF_X1_9 : qv_F RX1 9 0 0 (.array .boolean) true := ⟨RX1, TX1, 1, tyX1, rfl, by decide, (qv_i3 (List.mem_of_getElem? (i := 15) (by decide +kernel))), qin_X1, tyX1_ok, nmX1, rfl, rfl⟩
theorem qF_X1_15 : qv_F RX1 15 1 0 .int false := ⟨RX2, TX2, 3, tyX2, rfl, by decide, (qv_i2 (List.mem_of_getElem? (i := 39) (by decide +kernel))), qin_X2, tyX2_ok, nmX2, rfl, rfl⟩
theorem qF_X1_31 : qv_F RX1 31 6 0 .int false := ⟨RX7, TX7, 7, tyX7, rfl, by decide, (qv_i2 (List.mem_of_getElem? (i := 54) (by decide +kernel))), qin_X7, tyX7_ok, nmX7, rfl, rfl⟩
theorem qF_X2_9 : qv_F RX2 9 1 0 .int false := ⟨RX2, TX2, 3, tyX2, rfl, by decide, (qv_i2 (List.mem_of_getElem? (i := 38) (by decide +kernel))), qin_X2, tyX2_ok, nmX2, rfl, rfl⟩
theorem qF_X2_15 : qv_F RX2 15 1 1 (.array .int) true := ⟨RX2, TX2, 3, tyX2, rfl, by decide, (qv_i2 (List.mem_of_getElem? (i := 41) (by decide +kernel))), qin_X2, tyX2_ok, nmX2, rfl, rfl⟩
theorem qF_X2_19 : qv_F RX2 19 1 2 (.array .boolean) true := ⟨RX2, TX2, 3, tyX2, rfl, by decide, (qv_i2 (List.mem_of_getElem? (i := 42) (by decide +kernel))), qin_X2, tyX2_ok, nmX2, rfl, rfl⟩
theorem qF_X3_9 : qv_F RX3 9 2 0 .int false := ⟨RX3, TX3, 14, tyX3, rfl, by decide, (qv_i1 (List.mem_of_getElem? (i := 47) (by decide +kernel))), qin_X3, tyX3_ok, nmX3, rfl, rfl⟩
theorem qF_X3_15 : qv_F RX3 15 2 1 .int false := ⟨RX3, TX3, 14, tyX3, rfl, by decide, (qv_i1 (List.mem_of_getElem? (i := 51) (by decide +kernel))), qin_X3, tyX3_ok, nmX3, rfl, rfl⟩
theorem qF_X3_18 : qv_F RX3 18 2 2 .int false := ⟨RX3, TX3, 14, tyX3, rfl, by decide, (qv_i1 (List.mem_of_getElem? (i := 55) (by decide +kernel))), qin_X3, tyX3_ok, nmX3, rfl, rfl⟩
theorem qF_X3_21 : qv_F RX3 21 2 3 .int false := ⟨RX3, TX3, 14, tyX3, rfl, by decide, (qv_i1 (List.mem_of_getElem? (i := 57) (by decide +kernel))), qin_X3, tyX3_ok, nmX3, rfl, rfl⟩
theorem qF_X3_24 : qv_F RX3 24 2 4 (.array .int) true := ⟨RX3, TX3, 14, tyX3, rfl, by decide, (qv_i1 (List.mem_of_getElem? (i := 60) (by decide +kernel))), qin_X3, tyX3_ok, nmX3, rfl, rfl⟩
theorem qF_X3_28 : qv_F RX3 28 2 5 (.array .int) true := ⟨RX3, TX3, 14, tyX3, rfl, by decide, (qv_i2 (List.mem_of_getElem? (i := 0) (by decide +kernel))), qin_X3, tyX3_ok, nmX3, rfl, rfl⟩
theorem qF_X3_31 : qv_F RX3 31 2 6 (.array .int) true := ⟨RX3, TX3, 14, tyX3, rfl, by decide, (qv_i2 (List.mem_of_getElem? (i := 4) (by decide +kernel))), qin_X3, tyX3_ok, nmX3, rfl, rfl⟩
theorem qF_X3_34 : qv_F RX3 34 2 7 (.array .int) true := ⟨RX3, TX3, 14, tyX3, rfl, by decide, (qv_i2 (List.mem_of_getElem? (i := 6) (by decide +kernel))), qin_X3, tyX3_ok, nmX3, rfl, rfl⟩
theorem qF_X3_37 : qv_F RX3 37 2 8 (.array .int) true := ⟨RX3, TX3, 14, tyX3, rfl, by decide, (qv_i2 (List.mem_of_getElem? (i := 9) (by decide +kernel))), qin_X3, tyX3_ok, nmX3, rfl, rfl⟩
theorem qF_X3_40 : qv_F RX3 40 2 9 (.array .int) true := ⟨RX3, TX3, 14, tyX3, rfl, by decide, (qv_i2 (List.mem_of_getElem? (i := 11) (by decide +kernel))), qin_X3, tyX3_ok, nmX3, rfl, rfl⟩
theorem qF_X3_43 : qv_F RX3 43 2 10 (.array .int) true := ⟨RX3, TX3, 14, tyX3, rfl, by decide, (qv_i2 (List.mem_of_getElem? (i := 13) (by decide +kernel))), qin_X3, tyX3_ok, nmX3, rfl, rfl⟩
theorem qF_X3_46 : qv_F RX3 46 2 11 .int false := ⟨RX3, TX3, 14, tyX3, rfl, by decide, (qv_i2 (List.mem_of_getElem? (i := 16) (by decide +kernel))), qin_X3, tyX3_ok, nmX3, rfl, rfl⟩
theorem qF_X3_49 : qv_F RX3 49 2 12 .int false := ⟨RX3, TX3, 14, tyX3, rfl, by decide, (qv_i2 (List.mem_of_getElem? (i := 17) (by decide +kernel))), qin_X3, tyX3_ok, nmX3, rfl, rfl⟩
theorem qF_X3_52 : qv_F RX3 52 2 13 .int false := ⟨RX3, TX3, 14, tyX3, rfl, by decide, (qv_i2 (List.mem_of_getElem? (i := 18) (by decide +kernel))), qin_X3, tyX3_ok, nmX3, rfl, rfl⟩
theorem qF_X4_9 : qv_F RX4 9 3 0 .int false := ⟨RX4, TX4, 3, tyX4, rfl, by decide, (qv_i3 (List.mem_of_getElem? (i := 31) (by decide +kernel))), qin_X4, tyX4_ok, nmX4, rfl, rfl⟩
theorem qF_X4_15 : qv_F RX4 15 3 1 (.array .int) true := ⟨RX4, TX4, 3, tyX4, rfl, by decide, (qv_i3 (List.mem_of_getElem? (i := 33) (by decide +kernel))), qin_X4, tyX4_ok, nmX4, rfl, rfl⟩
theorem qF_X4_19 : qv_F RX4 19 3 2 (.array .int) true := ⟨RX4, TX4, 3, tyX4, rfl, by decide, (qv_i3 (List.mem_of_getElem? (i := 34) (by decide +kernel))), qin_X4, tyX4_ok, nmX4, rfl, rfl⟩
theorem qF_X4_22 : qv_F RX4 22 2 0 .int false := ⟨RX3, TX3, 14, tyX3, rfl, by decide, (qv_i1 (List.mem_of_getElem? (i := 48) (by decide +kernel))), qin_X3, tyX3_ok, nmX3, rfl, rfl⟩
theorem qF_X4_27 : qv_F RX4 27 2 1 .int false := ⟨RX3, TX3, 14, tyX3, rfl, by decide, (qv_i1 (List.mem_of_getElem? (i := 52) (by decide +kernel))), qin_X3, tyX3_ok, nmX3, rfl, rfl⟩
theorem qF_X4_47 : qv_F RX4 47 2 4 (.array .int) true := ⟨RX3, TX3, 14, tyX3, rfl, by decide, (qv_i1 (List.mem_of_getElem? (i := 63) (by decide +kernel))), qin_X3, tyX3_ok, nmX3, rfl, rfl⟩
theorem qF_X4_50 : qv_F RX4 50 2 5 (.array .int) true := ⟨RX3, TX3, 14, tyX3, rfl, by decide, (qv_i2 (List.mem_of_getElem? (i := 3) (by decide +kernel))), qin_X3, tyX3_ok, nmX3, rfl, rfl⟩
theorem qF_X4_53 : qv_F RX4 53 2 3 .int false := ⟨RX3, TX3, 14, tyX3, rfl, by decide, (qv_i1 (List.mem_of_getElem? (i := 58) (by decide +kernel))), qin_X3, tyX3_ok, nmX3, rfl, rfl⟩
theorem qF_X4_56 : qv_F RX4 56 2 7 (.array .int) true := ⟨RX3, TX3, 14, tyX3, rfl, by decide, (qv_i2 (List.mem_of_getElem? (i := 8) (by decide +kernel))), qin_X3, tyX3_ok, nmX3, rfl, rfl⟩
theorem qF_X5_9 : qv_F RX5 9 4 0 .int false := ⟨RX5, TX5, 2, tyX5, rfl, by decide, (qv_i1 (List.mem_of_getElem? (i := 36) (by decide +kernel))), qin_X5, tyX5_ok, nmX5, rfl, rfl⟩
theorem qF_X5_15 : qv_F RX5 15 4 1 (.array .int) true := ⟨RX5, TX5, 2, tyX5, rfl, by decide, (qv_i1 (List.mem_of_getElem? (i := 38) (by decide +kernel))), qin_X5, tyX5_ok, nmX5, rfl, rfl⟩
theorem qF_X6_9 : qv_F RX6 9 5 0 (.array .int) true := ⟨RX6, TX6, 2, tyX6, rfl, by decide, (qv_i3 (List.mem_of_getElem? (i := 22) (by decide +kernel))), qin_X6, tyX6_ok, nmX6, rfl, rfl⟩
theorem qF_X6_15 : qv_F RX6 15 5 1 (.array .boolean) true := ⟨RX6, TX6, 2, tyX6, rfl, by decide, (qv_i3 (List.mem_of_getElem? (i := 23) (by decide +kernel))), qin_X6, tyX6_ok, nmX6, rfl, rfl⟩
theorem qF_X6_19 : qv_F RX6 19 6 2 .int false := ⟨RX7, TX7, 7, tyX7, rfl, by decide, (qv_i2 (List.mem_of_getElem? (i := 59) (by decide +kernel))), qin_X7, tyX7_ok, nmX7, rfl, rfl⟩
theorem qF_X6_25 : qv_F RX6 25 6 3 (.array .int) true := ⟨RX7, TX7, 7, tyX7, rfl, by decide, (qv_i2 (List.mem_of_getElem? (i := 62) (by decide +kernel))), qin_X7, tyX7_ok, nmX7, rfl, rfl⟩
theorem qF_X6_28 : qv_F RX6 28 6 0 .int false := ⟨RX7, TX7, 7, tyX7, rfl, by decide, (qv_i2 (List.mem_of_getElem? (i := 53) (by decide +kernel))), qin_X7, tyX7_ok, nmX7, rfl, rfl⟩
theorem qF_X6_39 : qv_F RX6 39 2 10 (.array .int) true := ⟨RX3, TX3, 14, tyX3, rfl, by decide, (qv_i2 (List.mem_of_getElem? (i := 14) (by decide +kernel))), qin_X3, tyX3_ok, nmX3, rfl, rfl⟩
theorem qF_X6_48 : qv_F RX6 48 2 0 .int false := ⟨RX3, TX3, 14, tyX3, rfl, by decide, (qv_i1 (List.mem_of_getElem? (i := 49) (by decide +kernel))), qin_X3, tyX3_ok, nmX3, rfl, rfl⟩
theorem qF_X6_67 : qv_F RX6 67 2 1 .int false := ⟨RX3, TX3, 14, tyX3, rfl, by decide, (qv_i1 (List.mem_of_getElem? (i := 53) (by decide +kernel))), qin_X3, tyX3_ok, nmX3, rfl, rfl⟩
theorem qF_X6_70 : qv_F RX6 70 2 4 (.array .int) true := ⟨RX3, TX3, 14, tyX3, rfl, by decide, (qv_i1 (List.mem_of_getElem? (i := 62) (by decide +kernel))), qin_X3, tyX3_ok, nmX3, rfl, rfl⟩
theorem qF_X6_73 : qv_F RX6 73 2 5 (.array .int) true := ⟨RX3, TX3, 14, tyX3, rfl, by decide, (qv_i2 (List.mem_of_getElem? (i := 2) (by decide +kernel))), qin_X3, tyX3_ok, nmX3, rfl, rfl⟩
theorem qF_X7_9 : qv_F RX7 9 6 0 .int false := ⟨RX7, TX7, 7, tyX7, rfl, by decide, (qv_i2 (List.mem_of_getElem? (i := 52) (by decide +kernel))), qin_X7, tyX7_ok, nmX7, rfl, rfl⟩
theorem qF_X7_15 : qv_F RX7 15 6 1 .int false := ⟨RX7, TX7, 7, tyX7, rfl, by decide, (qv_i2 (List.mem_of_getElem? (i := 56) (by decide +kernel))), qin_X7, tyX7_ok, nmX7, rfl, rfl⟩
theorem qF_X7_18 : qv_F RX7 18 6 2 .int false := ⟨RX7, TX7, 7, tyX7, rfl, by decide, (qv_i2 (List.mem_of_getElem? (i := 58) (by decide +kernel))), qin_X7, tyX7_ok, nmX7, rfl, rfl⟩
theorem qF_X7_21 : qv_F RX7 21 6 3 (.array .int) true := ⟨RX7, TX7, 7, tyX7, rfl, by decide, (qv_i2 (List.mem_of_getElem? (i := 61) (by decide +kernel))), qin_X7, tyX7_ok, nmX7, rfl, rfl⟩
theorem qF_X7_25 : qv_F RX7 25 6 4 .int false := ⟨RX7, TX7, 7, tyX7, rfl, by decide, (qv_i3 (List.mem_of_getElem? (i := 0) (by decide +kernel))), qin_X7, tyX7_ok, nmX7, rfl, rfl⟩
theorem qF_X7_28 : qv_F RX7 28 6 5 .int false := ⟨RX7, TX7, 7, tyX7, rfl, by decide, (qv_i3 (List.mem_of_getElem? (i := 1) (by decide +kernel))), qin_X7, tyX7_ok, nmX7, rfl, rfl⟩
theorem qF_X7_31 : qv_F RX7 31 6 6 (.array .int) true := ⟨RX7, TX7, 7, tyX7, rfl, by decide, (qv_i3 (List.mem_of_getElem? (i := 2) (by decide +kernel))), qin_X7, tyX7_ok, nmX7, rfl, rfl⟩
theorem qF_X9_7 : qv_F RX9 7 8 0 (.array .int) true := ⟨RX9, TX9, 40, tyX9, rfl, by decide, (qv_i12 (List.mem_of_getElem? (i := 40) (by decide +kernel))), qin_X9, tyX9_ok, nmX9, rfl, rfl⟩
theorem qF_X9_13 : qv_F RX9 13 8 1 (.array .int) true := ⟨RX9, TX9, 40, tyX9, rfl, by decide, (qv_i12 (List.mem_of_getElem? (i := 41) (by decide +kernel))), qin_X9, tyX9_ok, nmX9, rfl, rfl⟩
theorem qF_X9_16 : qv_F RX9 16 8 2 (.array .int) true := ⟨RX9, TX9, 40, tyX9, rfl, by decide, (qv_i12 (List.mem_of_getElem? (i := 42) (by decide +kernel))), qin_X9, tyX9_ok, nmX9, rfl, rfl⟩
theorem qF_X9_19 : qv_F RX9 19 8 3 (.array .int) true := ⟨RX9, TX9, 40, tyX9, rfl, by decide, (qv_i12 (List.mem_of_getElem? (i := 43) (by decide +kernel))), qin_X9, tyX9_ok, nmX9, rfl, rfl⟩
theorem qF_X9_22 : qv_F RX9 22 8 4 (.array .int) true := ⟨RX9, TX9, 40, tyX9, rfl, by decide, (qv_i12 (List.mem_of_getElem? (i := 44) (by decide +kernel))), qin_X9, tyX9_ok, nmX9, rfl, rfl⟩
theorem qF_X9_25 : qv_F RX9 25 8 5 (.array .int) true := ⟨RX9, TX9, 40, tyX9, rfl, by decide, (qv_i12 (List.mem_of_getElem? (i := 45) (by decide +kernel))), qin_X9, tyX9_ok, nmX9, rfl, rfl⟩
theorem qF_X9_28 : qv_F RX9 28 8 6 (.array .int) true := ⟨RX9, TX9, 40, tyX9, rfl, by decide, (qv_i12 (List.mem_of_getElem? (i := 46) (by decide +kernel))), qin_X9, tyX9_ok, nmX9, rfl, rfl⟩
theorem qF_X9_31 : qv_F RX9 31 8 7 (.array .int) true := ⟨RX9, TX9, 40, tyX9, rfl, by decide, (qv_i12 (List.mem_of_getElem? (i := 47) (by decide +kernel))), qin_X9, tyX9_ok, nmX9, rfl, rfl⟩
theorem qF_X9_34 : qv_F RX9 34 8 8 .int false := ⟨RX9, TX9, 40, tyX9, rfl, by decide, (qv_i12 (List.mem_of_getElem? (i := 48) (by decide +kernel))), qin_X9, tyX9_ok, nmX9, rfl, rfl⟩
theorem qF_X9_38 : qv_F RX9 38 8 14 .int false := ⟨RX9, TX9, 40, tyX9, rfl, by decide, (qv_i12 (List.mem_of_getElem? (i := 54) (by decide +kernel))), qin_X9, tyX9_ok, nmX9, rfl, rfl⟩
theorem qF_X9_41 : qv_F RX9 41 8 15 (.array .int) true := ⟨RX9, TX9, 40, tyX9, rfl, by decide, (qv_i12 (List.mem_of_getElem? (i := 55) (by decide +kernel))), qin_X9, tyX9_ok, nmX9, rfl, rfl⟩
theorem qF_X9_44 : qv_F RX9 44 8 16 (.array .int) true := ⟨RX9, TX9, 40, tyX9, rfl, by decide, (qv_i12 (List.mem_of_getElem? (i := 56) (by decide +kernel))), qin_X9, tyX9_ok, nmX9, rfl, rfl⟩
theorem qF_X9_47 : qv_F RX9 47 8 18 (.array .int) true := ⟨RX9, TX9, 40, tyX9, rfl, by decide, (qv_i12 (List.mem_of_getElem? (i := 58) (by decide +kernel))), qin_X9, tyX9_ok, nmX9, rfl, rfl⟩
theorem qF_X9_50 : qv_F RX9 50 8 19 (.array .int) true := ⟨RX9, TX9, 40, tyX9, rfl, by decide, (qv_i12 (List.mem_of_getElem? (i := 59) (by decide +kernel))), qin_X9, tyX9_ok, nmX9, rfl, rfl⟩
theorem qF_X9_53 : qv_F RX9 53 8 20 (.array .int) true := ⟨RX9, TX9, 40, tyX9, rfl, by decide, (qv_i12 (List.mem_of_getElem? (i := 60) (by decide +kernel))), qin_X9, tyX9_ok, nmX9, rfl, rfl⟩
theorem qF_X9_56 : qv_F RX9 56 8 21 (.array .int) true := ⟨RX9, TX9, 40, tyX9, rfl, by decide, (qv_i12 (List.mem_of_getElem? (i := 61) (by decide +kernel))), qin_X9, tyX9_ok, nmX9, rfl, rfl⟩
theorem qF_X9_59 : qv_F RX9 59 8 22 (.array .int) true := ⟨RX9, TX9, 40, tyX9, rfl, by decide, (qv_i12 (List.mem_of_getElem? (i := 62) (by decide +kernel))), qin_X9, tyX9_ok, nmX9, rfl, rfl⟩
theorem qF_X9_62 : qv_F RX9 62 8 23 (.array .int) true := ⟨RX9, TX9, 40, tyX9, rfl, by decide, (qv_i12 (List.mem_of_getElem? (i := 63) (by decide +kernel))), qin_X9, tyX9_ok, nmX9, rfl, rfl⟩
theorem qF_X9_65 : qv_F RX9 65 8 24 (.array .int) true := ⟨RX9, TX9, 40, tyX9, rfl, by decide, (qv_i13 (List.mem_of_getElem? (i := 0) (by decide +kernel))), qin_X9, tyX9_ok, nmX9, rfl, rfl⟩
theorem qF_X9_68 : qv_F RX9 68 8 28 (.array .int) true := ⟨RX9, TX9, 40, tyX9, rfl, by decide, (qv_i13 (List.mem_of_getElem? (i := 4) (by decide +kernel))), qin_X9, tyX9_ok, nmX9, rfl, rfl⟩
theorem qF_X9_71 : qv_F RX9 71 8 32 (.array .int) true := ⟨RX9, TX9, 40, tyX9, rfl, by decide, (qv_i13 (List.mem_of_getElem? (i := 8) (by decide +kernel))), qin_X9, tyX9_ok, nmX9, rfl, rfl⟩
theorem qF_X9_74 : qv_F RX9 74 8 34 (.array .int) true := ⟨RX9, TX9, 40, tyX9, rfl, by decide, (qv_i13 (List.mem_of_getElem? (i := 10) (by decide +kernel))), qin_X9, tyX9_ok, nmX9, rfl, rfl⟩
theorem qF_X9_77 : qv_F RX9 77 8 35 (.array .int) true := ⟨RX9, TX9, 40, tyX9, rfl, by decide, (qv_i13 (List.mem_of_getElem? (i := 11) (by decide +kernel))), qin_X9, tyX9_ok, nmX9, rfl, rfl⟩
theorem qF_X9_80 : qv_F RX9 80 8 36 (.array .int) true := ⟨RX9, TX9, 40, tyX9, rfl, by decide, (qv_i13 (List.mem_of_getElem? (i := 12) (by decide +kernel))), qin_X9, tyX9_ok, nmX9, rfl, rfl⟩
theorem qF_X9_83 : qv_F RX9 83 8 37 (.array .int) true := ⟨RX9, TX9, 40, tyX9, rfl, by decide, (qv_i13 (List.mem_of_getElem? (i := 13) (by decide +kernel))), qin_X9, tyX9_ok, nmX9, rfl, rfl⟩
theorem qF_X9_86 : qv_F RX9 86 8 38 (.array .int) true := ⟨RX9, TX9, 40, tyX9, rfl, by decide, (qv_i13 (List.mem_of_getElem? (i := 14) (by decide +kernel))), qin_X9, tyX9_ok, nmX9, rfl, rfl⟩
theorem qF_X9_89 : qv_F RX9 89 8 10 .int false := ⟨RX9, TX9, 40, tyX9, rfl, by decide, (qv_i12 (List.mem_of_getElem? (i := 50) (by decide +kernel))), qin_X9, tyX9_ok, nmX9, rfl, rfl⟩
theorem qF_X9_92 : qv_F RX9 92 8 11 .int false := ⟨RX9, TX9, 40, tyX9, rfl, by decide, (qv_i12 (List.mem_of_getElem? (i := 51) (by decide +kernel))), qin_X9, tyX9_ok, nmX9, rfl, rfl⟩
theorem qF_X9_99 : qv_F RX9 99 8 25 .int false := ⟨RX9, TX9, 40, tyX9, rfl, by decide, (qv_i13 (List.mem_of_getElem? (i := 1) (by decide +kernel))), qin_X9, tyX9_ok, nmX9, rfl, rfl⟩
theorem qF_X9_106 : qv_F RX9 106 8 26 .int false := ⟨RX9, TX9, 40, tyX9, rfl, by decide, (qv_i13 (List.mem_of_getElem? (i := 2) (by decide +kernel))), qin_X9, tyX9_ok, nmX9, rfl, rfl⟩
theorem qF_X9_123 : qv_F RX9 123 8 27 .int false := ⟨RX9, TX9, 40, tyX9, rfl, by decide, (qv_i13 (List.mem_of_getElem? (i := 3) (by decide +kernel))), qin_X9, tyX9_ok, nmX9, rfl, rfl⟩
theorem qF_X9_137 : qv_F RX9 137 8 9 .int false := ⟨RX9, TX9, 40, tyX9, rfl, by decide, (qv_i12 (List.mem_of_getElem? (i := 49) (by decide +kernel))), qin_X9, tyX9_ok, nmX9, rfl, rfl⟩
theorem qF_X9_140 : qv_F RX9 140 8 12 .int false := ⟨RX9, TX9, 40, tyX9, rfl, by decide, (qv_i12 (List.mem_of_getElem? (i := 52) (by decide +kernel))), qin_X9, tyX9_ok, nmX9, rfl, rfl⟩
theorem qF_X9_143 : qv_F RX9 143 8 13 .int false := ⟨RX9, TX9, 40, tyX9, rfl, by decide, (qv_i12 (List.mem_of_getElem? (i := 53) (by decide +kernel))), qin_X9, tyX9_ok, nmX9, rfl, rfl⟩
theorem qF_X9_172 : qv_F RX9 172 8 30 .boolean false := ⟨RX9, TX9, 40, tyX9, rfl, by decide, (qv_i13 (List.mem_of_getElem? (i := 6) (by decide +kernel))), qin_X9, tyX9_ok, nmX9, rfl, rfl⟩
theorem qF_X9_176 : qv_F RX9 176 8 31 .int false := ⟨RX9, TX9, 40, tyX9, rfl, by decide, (qv_i13 (List.mem_of_getElem? (i := 7) (by decide +kernel))), qin_X9, tyX9_ok, nmX9, rfl, rfl⟩
theorem qF_X9_186 : qv_F RX9 186 8 17 .int false := ⟨RX9, TX9, 40, tyX9, rfl, by decide, (qv_i12 (List.mem_of_getElem? (i := 57) (by decide +kernel))), qin_X9, tyX9_ok, nmX9, rfl, rfl⟩
theorem qF_X9_189 : qv_F RX9 189 8 29 .boolean false := ⟨RX9, TX9, 40, tyX9, rfl, by decide, (qv_i13 (List.mem_of_getElem? (i := 5) (by decide +kernel))), qin_X9, tyX9_ok, nmX9, rfl, rfl⟩
theorem qF_X9_192 : qv_F RX9 192 8 39 .int false := ⟨RX9, TX9, 40, tyX9, rfl, by decide, (qv_i13 (List.mem_of_getElem? (i := 15) (by decide +kernel))), qin_X9, tyX9_ok, nmX9, rfl, rfl⟩
theorem qF_X9_223 : qv_F RX9 223 8 33 .int false := ⟨RX9, TX9, 40, tyX9, rfl, by decide, (qv_i13 (List.mem_of_getElem? (i := 9) (by decide +kernel))), qin_X9, tyX9_ok, nmX9, rfl, rfl⟩
theorem qK_X8_252 : Cond.constant RX8 252 (1664525 : Int32) ∈ qv_WS := (qv_i12 (List.mem_of_getElem? (i := 3) (by decide +kernel)))
theorem qK_X8_253 : Cond.constant RX8 253 (1013904223 : Int32) ∈ qv_WS := (qv_i12 (List.mem_of_getElem? (i := 4) (by decide +kernel)))
theorem qK_X8_254 : Cond.constant RX8 254 (2147483647 : Int32) ∈ qv_WS := (qv_i12 (List.mem_of_getElem? (i := 5) (by decide +kernel)))
theorem qK_X9_301 : Cond.constant RX9 301 (1664525 : Int32) ∈ qv_WS := (qv_i18 (List.mem_of_getElem? (i := 0) (by decide +kernel)))
theorem qK_X9_302 : Cond.constant RX9 302 (1013904223 : Int32) ∈ qv_WS := (qv_i18 (List.mem_of_getElem? (i := 1) (by decide +kernel)))
theorem qK_X9_303 : Cond.constant RX9 303 (2147483647 : Int32) ∈ qv_WS := (qv_i18 (List.mem_of_getElem? (i := 2) (by decide +kernel)))
theorem qK_J6_265 : Cond.constant RJ6 265 (1431655765 : Int32) ∈ qv_WS := (qv_i9 (List.mem_of_getElem? (i := 34) (by decide +kernel)))
theorem qK_J6_266 : Cond.constant RJ6 266 (858993459 : Int32) ∈ qv_WS := (qv_i9 (List.mem_of_getElem? (i := 35) (by decide +kernel)))
theorem qK_J6_267 : Cond.constant RJ6 267 (252645135 : Int32) ∈ qv_WS := (qv_i9 (List.mem_of_getElem? (i := 36) (by decide +kernel)))
theorem qM_X8_75 : Cond.methodLink RX8 75 yX7_reckon ∈ qv_WS := (qv_i3 (List.mem_of_getElem? (i := 38) (by decide +kernel)))
theorem qM_X8_79 : Cond.methodLink RX8 79 yX7_sift ∈ qv_WS := (qv_i4 (List.mem_of_getElem? (i := 8) (by decide +kernel)))
theorem qM_X8_83 : Cond.methodLink RX8 83 yX8_refuse ∈ qv_WS := (qv_i4 (List.mem_of_getElem? (i := 58) (by decide +kernel)))
theorem qM_X8_91 : Cond.methodLink RX8 91 yX5_add ∈ qv_WS := (qv_i4 (List.mem_of_getElem? (i := 61) (by decide +kernel)))
theorem qM_X8_95 : Cond.methodLink RX8 95 yX8_readText ∈ qv_WS := (qv_i5 (List.mem_of_getElem? (i := 5) (by decide +kernel)))
theorem qM_X8_99 : Cond.methodLink RX8 99 yX5_clear ∈ qv_WS := (qv_i7 (List.mem_of_getElem? (i := 61) (by decide +kernel)))
theorem qM_X8_102 : Cond.methodLink RX8 102 yX3_hasRoad ∈ qv_WS := (qv_i8 (List.mem_of_getElem? (i := 6) (by decide +kernel)))
theorem qM_X8_112 : Cond.methodLink RX8 112 yX3_signsOn ∈ qv_WS := (qv_i8 (List.mem_of_getElem? (i := 7) (by decide +kernel)))
theorem qM_X8_115 : Cond.methodLink RX8 115 yX3_hasSign ∈ qv_WS := (qv_i8 (List.mem_of_getElem? (i := 15) (by decide +kernel)))
theorem qM_X8_130 : Cond.methodLink RX8 130 yX3_hasPlace ∈ qv_WS := (qv_i8 (List.mem_of_getElem? (i := 20) (by decide +kernel)))
theorem qM_X8_136 : Cond.methodLink RX8 136 yX7_has ∈ qv_WS := (qv_i8 (List.mem_of_getElem? (i := 25) (by decide +kernel)))
theorem qM_X8_139 : Cond.methodLink RX8 139 yX7_isFitting ∈ qv_WS := (qv_i8 (List.mem_of_getElem? (i := 26) (by decide +kernel)))
theorem qM_X8_142 : Cond.methodLink RX8 142 yX7_isGood ∈ qv_WS := (qv_i8 (List.mem_of_getElem? (i := 31) (by decide +kernel)))
theorem qM_X8_145 : Cond.methodLink RX8 145 yX3_isSaidSo ∈ qv_WS := (qv_i8 (List.mem_of_getElem? (i := 36) (by decide +kernel)))
theorem qM_X8_155 : Cond.methodLink RX8 155 yX3_hasFact ∈ qv_WS := (qv_i8 (List.mem_of_getElem? (i := 45) (by decide +kernel)))
theorem qM_X8_158 : Cond.methodLink RX8 158 yX8_find ∈ qv_WS := (qv_i8 (List.mem_of_getElem? (i := 46) (by decide +kernel)))
theorem qM_X8_163 : Cond.methodLink RX8 163 yX2_dropLatest ∈ qv_WS := (qv_i8 (List.mem_of_getElem? (i := 61) (by decide +kernel)))
theorem qM_X8_166 : Cond.methodLink RX8 166 yX7_alwaysSo ∈ qv_WS := (qv_i9 (List.mem_of_getElem? (i := 5) (by decide +kernel)))
theorem qM_X8_169 : Cond.methodLink RX8 169 yX7_everSo ∈ qv_WS := (qv_i9 (List.mem_of_getElem? (i := 9) (by decide +kernel)))
theorem qM_X8_175 : Cond.methodLink RX8 175 yX1_fewestClashing ∈ qv_WS := (qv_i9 (List.mem_of_getElem? (i := 17) (by decide +kernel)))
theorem qM_X8_179 : Cond.methodLink RX8 179 yX7_openFacts ∈ qv_WS := (qv_i9 (List.mem_of_getElem? (i := 41) (by decide +kernel)))
theorem qM_X8_185 : Cond.methodLink RX8 185 yX3_comesBack ∈ qv_WS := (qv_i9 (List.mem_of_getElem? (i := 51) (by decide +kernel)))
theorem qM_X8_188 : Cond.methodLink RX8 188 yX7_sureWithJokers ∈ qv_WS := (qv_i9 (List.mem_of_getElem? (i := 59) (by decide +kernel)))
theorem qM_X8_191 : Cond.methodLink RX8 191 yX7_leastMisfits ∈ qv_WS := (qv_i10 (List.mem_of_getElem? (i := 3) (by decide +kernel)))
theorem qM_X8_203 : Cond.methodLink RX8 203 yX3_signMask ∈ qv_WS := (qv_i10 (List.mem_of_getElem? (i := 14) (by decide +kernel)))
theorem qM_X8_206 : Cond.methodLink RX8 206 yX7_fewestTelling ∈ qv_WS := (qv_i10 (List.mem_of_getElem? (i := 15) (by decide +kernel)))
theorem qM_X8_209 : Cond.methodLink RX8 209 yJ6_bitCount_0f7a4 ∈ qv_WS := (qv_i10 (List.mem_of_getElem? (i := 24) (by decide +kernel)))
theorem qM_X8_217 : Cond.methodLink RX8 217 yX7_isAlikeBy ∈ qv_WS := (qv_i10 (List.mem_of_getElem? (i := 29) (by decide +kernel)))
theorem qM_X8_220 : Cond.methodLink RX8 220 yX3_hasInn ∈ qv_WS := (qv_i10 (List.mem_of_getElem? (i := 34) (by decide +kernel)))
theorem qM_X8_224 : Cond.methodLink RX8 224 yX6_reckon ∈ qv_WS := (qv_i10 (List.mem_of_getElem? (i := 38) (by decide +kernel)))
theorem qM_X8_227 : Cond.methodLink RX8 227 yX6_leastRoads ∈ qv_WS := (qv_i11 (List.mem_of_getElem? (i := 2) (by decide +kernel)))
theorem qM_X8_230 : Cond.methodLink RX8 230 yX6_firstGoal ∈ qv_WS := (qv_i11 (List.mem_of_getElem? (i := 6) (by decide +kernel)))
theorem qM_X8_235 : Cond.methodLink RX8 235 yX4_add ∈ qv_WS := (qv_i11 (List.mem_of_getElem? (i := 19) (by decide +kernel)))
theorem qM_X8_236 : Cond.methodLink RX8 236 yX4_trace ∈ qv_WS := (qv_i11 (List.mem_of_getElem? (i := 27) (by decide +kernel)))
theorem qM_X8_239 : Cond.methodLink RX8 239 yX4_walkCount ∈ qv_WS := (qv_i11 (List.mem_of_getElem? (i := 39) (by decide +kernel)))
theorem qM_X8_242 : Cond.methodLink RX8 242 yX4_endPlaces ∈ qv_WS := (qv_i11 (List.mem_of_getElem? (i := 43) (by decide +kernel)))
theorem qM_X8_245 : Cond.methodLink RX8 245 yX4_clear ∈ qv_WS := (qv_i11 (List.mem_of_getElem? (i := 47) (by decide +kernel)))
theorem qM_X8_249 : Cond.methodLink RX8 249 yX8_leastGreaterPart ∈ qv_WS := (qv_i11 (List.mem_of_getElem? (i := 55) (by decide +kernel)))
theorem qM_X8_255 : Cond.methodLink RX8 255 yX2_firstBroken ∈ qv_WS := (qv_i12 (List.mem_of_getElem? (i := 10) (by decide +kernel)))
theorem qM_X8_258 : Cond.methodLink RX8 258 yX3_firstMisfit ∈ qv_WS := (qv_i12 (List.mem_of_getElem? (i := 14) (by decide +kernel)))
theorem qM_X8_261 : Cond.methodLink RX8 261 yX3_become ∈ qv_WS := (qv_i6 (List.mem_of_getElem? (i := 59) (by decide +kernel)))
theorem qM_X8_264 : Cond.methodLink RX8 264 yX2_become ∈ qv_WS := (qv_i12 (List.mem_of_getElem? (i := 22) (by decide +kernel)))
theorem qM_X8_272 : Cond.methodLink RX8 272 yX5_firstOdd ∈ qv_WS := (qv_i5 (List.mem_of_getElem? (i := 8) (by decide +kernel)))
theorem qM_X8_275 : Cond.methodLink RX8 275 yX3_take ∈ qv_WS := (qv_i7 (List.mem_of_getElem? (i := 2) (by decide +kernel)))
theorem qM_X8_279 : Cond.methodLink RX8 279 yX5_lengthAt ∈ qv_WS := (qv_i7 (List.mem_of_getElem? (i := 56) (by decide +kernel)))
theorem qM_X8_282 : Cond.methodLink RX8 282 yX2_add ∈ qv_WS := (qv_i8 (List.mem_of_getElem? (i := 49) (by decide +kernel)))
theorem qM_X8_285 : Cond.methodLink RX8 285 yX0_has ∈ qv_WS := (qv_i11 (List.mem_of_getElem? (i := 58) (by decide +kernel)))
theorem qM_X8_289 : Cond.methodLink RX8 289 yX7_goodWith ∈ qv_WS := (qv_i11 (List.mem_of_getElem? (i := 59) (by decide +kernel)))
theorem qM_X1_21 : Cond.methodLink RX1 21 yX1_markSetsThatCanBe ∈ qv_WS := (qv_i9 (List.mem_of_getElem? (i := 21) (by decide +kernel)))
theorem qM_X1_25 : Cond.methodLink RX1 25 yJ6_bitCount_0f7a4 ∈ qv_WS := (qv_i9 (List.mem_of_getElem? (i := 31) (by decide +kernel)))
theorem qM_X1_36 : Cond.methodLink RX1 36 yX7_isFitting ∈ qv_WS := (qv_i9 (List.mem_of_getElem? (i := 24) (by decide +kernel)))
theorem qM_X1_40 : Cond.methodLink RX1 40 yX2_keptIn ∈ qv_WS := (qv_i9 (List.mem_of_getElem? (i := 25) (by decide +kernel)))
theorem qM_X1_43 : Cond.methodLink RX1 43 yX0_has ∈ qv_WS := (qv_i9 (List.mem_of_getElem? (i := 30) (by decide +kernel)))
theorem qM_X2_23 : Cond.methodLink RX2 23 yX0_has ∈ qv_WS := (qv_i9 (List.mem_of_getElem? (i := 29) (by decide +kernel)))
theorem qM_X3_61 : Cond.methodLink RX3 61 yX3_signMask ∈ qv_WS := (qv_i3 (List.mem_of_getElem? (i := 46) (by decide +kernel)))
theorem qM_X3_65 : Cond.methodLink RX3 65 yX0_has ∈ qv_WS := (qv_i3 (List.mem_of_getElem? (i := 61) (by decide +kernel)))
theorem qM_X3_71 : Cond.methodLink RX3 71 yX5_digitAt ∈ qv_WS := (qv_i7 (List.mem_of_getElem? (i := 6) (by decide +kernel)))
theorem qM_X3_77 : Cond.methodLink RX3 77 yX5_at ∈ qv_WS := (qv_i7 (List.mem_of_getElem? (i := 14) (by decide +kernel)))
theorem qM_X3_80 : Cond.methodLink RX3 80 yX3_takePlaces ∈ qv_WS := (qv_i7 (List.mem_of_getElem? (i := 15) (by decide +kernel)))
theorem qM_X3_84 : Cond.methodLink RX3 84 yX3_takeRoad ∈ qv_WS := (qv_i7 (List.mem_of_getElem? (i := 22) (by decide +kernel)))
theorem qM_X3_87 : Cond.methodLink RX3 87 yX3_takeFact ∈ qv_WS := (qv_i7 (List.mem_of_getElem? (i := 29) (by decide +kernel)))
theorem qM_X3_91 : Cond.methodLink RX3 91 yX5_kindAt ∈ qv_WS := (qv_i7 (List.mem_of_getElem? (i := 32) (by decide +kernel)))
theorem qM_X3_94 : Cond.methodLink RX3 94 yX3_takeSign ∈ qv_WS := (qv_i7 (List.mem_of_getElem? (i := 36) (by decide +kernel)))
theorem qM_X3_98 : Cond.methodLink RX3 98 yX3_takeShown ∈ qv_WS := (qv_i7 (List.mem_of_getElem? (i := 50) (by decide +kernel)))
theorem qM_X3_101 : Cond.methodLink RX3 101 yX3_takeInn ∈ qv_WS := (qv_i7 (List.mem_of_getElem? (i := 53) (by decide +kernel)))
theorem qM_X3_105 : Cond.methodLink RX3 105 yX3_placesToldOf ∈ qv_WS := (qv_i7 (List.mem_of_getElem? (i := 18) (by decide +kernel)))
theorem qM_X3_114 : Cond.methodLink RX3 114 yX3_hasPlace ∈ qv_WS := (qv_i7 (List.mem_of_getElem? (i := 25) (by decide +kernel)))
theorem qM_X3_117 : Cond.methodLink RX3 117 yX3_hasRoad ∈ qv_WS := (qv_i7 (List.mem_of_getElem? (i := 39) (by decide +kernel)))
theorem qM_X3_120 : Cond.methodLink RX3 120 yX3_canSpeakOf ∈ qv_WS := (qv_i7 (List.mem_of_getElem? (i := 43) (by decide +kernel)))
theorem qM_X3_123 : Cond.methodLink RX3 123 yX3_hasFact ∈ qv_WS := (qv_i7 (List.mem_of_getElem? (i := 46) (by decide +kernel)))
theorem qM_X3_126 : Cond.methodLink RX3 126 yX3_hasSign ∈ qv_WS := (qv_i4 (List.mem_of_getElem? (i := 4) (by decide +kernel)))
theorem qM_X3_129 : Cond.methodLink RX3 129 yX3_isSaidSo ∈ qv_WS := (qv_i4 (List.mem_of_getElem? (i := 0) (by decide +kernel)))
theorem qM_X3_132 : Cond.methodLink RX3 132 yX3_isMisfit ∈ qv_WS := (qv_i3 (List.mem_of_getElem? (i := 58) (by decide +kernel)))
theorem qM_X4_30 : Cond.methodLink RX4 30 yX4_walk ∈ qv_WS := (qv_i11 (List.mem_of_getElem? (i := 31) (by decide +kernel)))
theorem qM_X4_34 : Cond.methodLink RX4 34 yX3_signsOn ∈ qv_WS := (qv_i11 (List.mem_of_getElem? (i := 34) (by decide +kernel)))
theorem qM_X4_38 : Cond.methodLink RX4 38 yJ6_bitCount_0f7a4 ∈ qv_WS := (qv_i11 (List.mem_of_getElem? (i := 35) (by decide +kernel)))
theorem qM_X4_43 : Cond.methodLink RX4 43 yX4_isReadNext ∈ qv_WS := (qv_i11 (List.mem_of_getElem? (i := 36) (by decide +kernel)))
theorem qM_X5_19 : Cond.methodLink RX5 19 yX5_at ∈ qv_WS := (qv_i7 (List.mem_of_getElem? (i := 10) (by decide +kernel)))
theorem qM_X5_23 : Cond.methodLink RX5 23 yX5_isDigit ∈ qv_WS := (qv_i5 (List.mem_of_getElem? (i := 61) (by decide +kernel)))
theorem qM_X5_34 : Cond.methodLink RX5 34 yX5_formOf ∈ qv_WS := (qv_i5 (List.mem_of_getElem? (i := 21) (by decide +kernel)))
theorem qM_X5_48 : Cond.methodLink RX5 48 yX5_suits ∈ qv_WS := (qv_i5 (List.mem_of_getElem? (i := 58) (by decide +kernel)))
theorem qM_X6_31 : Cond.methodLink RX6 31 yX6_reckonAt ∈ qv_WS := (qv_i10 (List.mem_of_getElem? (i := 42) (by decide +kernel)))
theorem qM_X6_35 : Cond.methodLink RX6 35 yX6_indexOf ∈ qv_WS := (qv_i10 (List.mem_of_getElem? (i := 45) (by decide +kernel)))
theorem qM_X6_44 : Cond.methodLink RX6 44 yX6_leastRoads ∈ qv_WS := (qv_i11 (List.mem_of_getElem? (i := 10) (by decide +kernel)))
theorem qM_X6_51 : Cond.methodLink RX6 51 yX3_isRoadBetween ∈ qv_WS := (qv_i11 (List.mem_of_getElem? (i := 11) (by decide +kernel)))
theorem qM_X6_55 : Cond.methodLink RX6 55 yX6_showsMore ∈ qv_WS := (qv_i10 (List.mem_of_getElem? (i := 48) (by decide +kernel)))
theorem qM_X6_59 : Cond.methodLink RX6 59 yX6_worstOf ∈ qv_WS := (qv_i10 (List.mem_of_getElem? (i := 51) (by decide +kernel)))
theorem qM_X6_63 : Cond.methodLink RX6 63 yX6_isInnSurelyAt ∈ qv_WS := (qv_i10 (List.mem_of_getElem? (i := 55) (by decide +kernel)))
theorem qM_X6_76 : Cond.methodLink RX6 76 yX6_shorten ∈ qv_WS := (qv_i10 (List.mem_of_getElem? (i := 62) (by decide +kernel)))
theorem qM_X6_86 : Cond.methodLink RX6 86 yX3_innIn ∈ qv_WS := (qv_i10 (List.mem_of_getElem? (i := 58) (by decide +kernel)))
theorem qM_X7_34 : Cond.methodLink RX7 34 yX3_worldMask ∈ qv_WS := (qv_i3 (List.mem_of_getElem? (i := 42) (by decide +kernel)))
theorem qM_X7_40 : Cond.methodLink RX7 40 yX7_has ∈ qv_WS := (qv_i3 (List.mem_of_getElem? (i := 50) (by decide +kernel)))
theorem qM_X7_44 : Cond.methodLink RX7 44 yX3_misfitsIn ∈ qv_WS := (qv_i3 (List.mem_of_getElem? (i := 54) (by decide +kernel)))
theorem qM_X7_48 : Cond.methodLink RX7 48 yX2_bitsFound ∈ qv_WS := (qv_i4 (List.mem_of_getElem? (i := 12) (by decide +kernel)))
theorem qM_X7_54 : Cond.methodLink RX7 54 yX7_isGood ∈ qv_WS := (qv_i4 (List.mem_of_getElem? (i := 16) (by decide +kernel)))
theorem qM_X7_57 : Cond.methodLink RX7 57 yX7_isFitting ∈ qv_WS := (qv_i4 (List.mem_of_getElem? (i := 20) (by decide +kernel)))
theorem qM_X7_60 : Cond.methodLink RX7 60 yX7_isAsFound ∈ qv_WS := (qv_i4 (List.mem_of_getElem? (i := 24) (by decide +kernel)))
theorem qM_X7_63 : Cond.methodLink RX7 63 yX0_allow ∈ qv_WS := (qv_i4 (List.mem_of_getElem? (i := 27) (by decide +kernel)))
theorem qM_X7_69 : Cond.methodLink RX7 69 yX7_everSo ∈ qv_WS := (qv_i9 (List.mem_of_getElem? (i := 45) (by decide +kernel)))
theorem qM_X7_73 : Cond.methodLink RX7 73 yX7_alwaysSo ∈ qv_WS := (qv_i9 (List.mem_of_getElem? (i := 46) (by decide +kernel)))
theorem qM_X7_76 : Cond.methodLink RX7 76 yX0_has ∈ qv_WS := (qv_i10 (List.mem_of_getElem? (i := 7) (by decide +kernel)))
theorem qM_X7_84 : Cond.methodLink RX7 84 yJ6_bitCount_0f7a4 ∈ qv_WS := (qv_i10 (List.mem_of_getElem? (i := 19) (by decide +kernel)))
theorem qM_X7_89 : Cond.methodLink RX7 89 yX7_isAlikeBy ∈ qv_WS := (qv_i10 (List.mem_of_getElem? (i := 20) (by decide +kernel)))
theorem qM_X9_95 : Cond.methodLink RX9 95 yX9_bound ∈ qv_WS := (qv_i13 (List.mem_of_getElem? (i := 60) (by decide +kernel)))
theorem qM_X9_102 : Cond.methodLink RX9 102 yX9_no ∈ qv_WS := (qv_i13 (List.mem_of_getElem? (i := 63) (by decide +kernel)))
theorem qM_X9_109 : Cond.methodLink RX9 109 yX9_nextLetter ∈ qv_WS := (qv_i14 (List.mem_of_getElem? (i := 9) (by decide +kernel)))
theorem qM_X9_113 : Cond.methodLink RX9 113 yX9_isIn ∈ qv_WS := (qv_i14 (List.mem_of_getElem? (i := 21) (by decide +kernel)))
theorem qM_X9_117 : Cond.methodLink RX9 117 yX9_digit ∈ qv_WS := (qv_i14 (List.mem_of_getElem? (i := 18) (by decide +kernel)))
theorem qM_X9_120 : Cond.methodLink RX9 120 yX9_kindOf ∈ qv_WS := (qv_i14 (List.mem_of_getElem? (i := 24) (by decide +kernel)))
theorem qM_X9_126 : Cond.methodLink RX9 126 yX9_digitsOf ∈ qv_WS := (qv_i14 (List.mem_of_getElem? (i := 12) (by decide +kernel)))
theorem qM_X9_129 : Cond.methodLink RX9 129 yX9_readsSign ∈ qv_WS := (qv_i14 (List.mem_of_getElem? (i := 15) (by decide +kernel)))
theorem qM_X9_133 : Cond.methodLink RX9 133 yX9_readsDigits ∈ qv_WS := (qv_i14 (List.mem_of_getElem? (i := 27) (by decide +kernel)))
theorem qM_X9_146 : Cond.methodLink RX9 146 yX9_isFact ∈ qv_WS := (qv_i14 (List.mem_of_getElem? (i := 54) (by decide +kernel)))
theorem qM_X9_149 : Cond.methodLink RX9 149 yX9_maySay ∈ qv_WS := (qv_i14 (List.mem_of_getElem? (i := 51) (by decide +kernel)))
theorem qM_X9_152 : Cond.methodLink RX9 152 yX9_toldPlaces ∈ qv_WS := (qv_i14 (List.mem_of_getElem? (i := 42) (by decide +kernel)))
theorem qM_X9_155 : Cond.methodLink RX9 155 yX9_isPlace ∈ qv_WS := (qv_i14 (List.mem_of_getElem? (i := 45) (by decide +kernel)))
theorem qM_X9_158 : Cond.methodLink RX9 158 yX9_comesSign ∈ qv_WS := (qv_i14 (List.mem_of_getElem? (i := 48) (by decide +kernel)))
theorem qM_X9_161 : Cond.methodLink RX9 161 yX9_statement ∈ qv_WS := (qv_i14 (List.mem_of_getElem? (i := 6) (by decide +kernel)))
theorem qM_X9_165 : Cond.methodLink RX9 165 yX9_passesAll ∈ qv_WS := (qv_i14 (List.mem_of_getElem? (i := 30) (by decide +kernel)))
theorem qM_X9_169 : Cond.methodLink RX9 169 yX9_comes ∈ qv_WS := (qv_i14 (List.mem_of_getElem? (i := 39) (by decide +kernel)))
theorem qM_X9_179 : Cond.methodLink RX9 179 yX9_passes ∈ qv_WS := (qv_i14 (List.mem_of_getElem? (i := 33) (by decide +kernel)))
theorem qM_X9_183 : Cond.methodLink RX9 183 yX9_passOne ∈ qv_WS := (qv_i14 (List.mem_of_getElem? (i := 36) (by decide +kernel)))
theorem qM_X9_195 : Cond.methodLink RX9 195 yX9_allFacts ∈ qv_WS := (qv_i15 (List.mem_of_getElem? (i := 23) (by decide +kernel)))
theorem qM_X9_198 : Cond.methodLink RX9 198 yX9_allSigns ∈ qv_WS := (qv_i15 (List.mem_of_getElem? (i := 26) (by decide +kernel)))
theorem qM_X9_201 : Cond.methodLink RX9 201 yX9_saysIn ∈ qv_WS := (qv_i15 (List.mem_of_getElem? (i := 35) (by decide +kernel)))
theorem qM_X9_205 : Cond.methodLink RX9 205 yX9_isRight ∈ qv_WS := (qv_i15 (List.mem_of_getElem? (i := 32) (by decide +kernel)))
theorem qM_X9_208 : Cond.methodLink RX9 208 yX9_isFoundSo ∈ qv_WS := (qv_i15 (List.mem_of_getElem? (i := 51) (by decide +kernel)))
theorem qM_X9_211 : Cond.methodLink RX9 211 yX9_isWorld ∈ qv_WS := (qv_i15 (List.mem_of_getElem? (i := 20) (by decide +kernel)))
theorem qM_X9_214 : Cond.methodLink RX9 214 yX9_wrongs ∈ qv_WS := (qv_i15 (List.mem_of_getElem? (i := 29) (by decide +kernel)))
theorem qM_X9_217 : Cond.methodLink RX9 217 yX9_allFound ∈ qv_WS := (qv_i15 (List.mem_of_getElem? (i := 45) (by decide +kernel)))
theorem qM_X9_220 : Cond.methodLink RX9 220 yX9_areFoundSo ∈ qv_WS := (qv_i15 (List.mem_of_getElem? (i := 48) (by decide +kernel)))
theorem qM_X9_226 : Cond.methodLink RX9 226 yX9_isSign ∈ qv_WS := (qv_i15 (List.mem_of_getElem? (i := 9) (by decide +kernel)))
theorem qM_X9_229 : Cond.methodLink RX9 229 yX9_isGood ∈ qv_WS := (qv_i15 (List.mem_of_getElem? (i := 42) (by decide +kernel)))
theorem qM_X9_232 : Cond.methodLink RX9 232 yX9_findWorlds ∈ qv_WS := (qv_i15 (List.mem_of_getElem? (i := 62) (by decide +kernel)))
theorem qM_X9_236 : Cond.methodLink RX9 236 yX9_finds ∈ qv_WS := (qv_i16 (List.mem_of_getElem? (i := 5) (by decide +kernel)))
theorem qM_X9_239 : Cond.methodLink RX9 239 yX9_inAll ∈ qv_WS := (qv_i16 (List.mem_of_getElem? (i := 20) (by decide +kernel)))
theorem qM_X9_242 : Cond.methodLink RX9 242 yX9_inNone ∈ qv_WS := (qv_i16 (List.mem_of_getElem? (i := 23) (by decide +kernel)))
theorem qM_X9_245 : Cond.methodLink RX9 245 yX9_bits ∈ qv_WS := (qv_i16 (List.mem_of_getElem? (i := 30) (by decide +kernel)))
theorem qM_X9_248 : Cond.methodLink RX9 248 yX9_canBe ∈ qv_WS := (qv_i16 (List.mem_of_getElem? (i := 33) (by decide +kernel)))
theorem qM_X9_251 : Cond.methodLink RX9 251 yX9_openFacts ∈ qv_WS := (qv_i16 (List.mem_of_getElem? (i := 40) (by decide +kernel)))
theorem qM_X9_254 : Cond.methodLink RX9 254 yX9_alikeBy ∈ qv_WS := (qv_i16 (List.mem_of_getElem? (i := 62) (by decide +kernel)))
theorem qM_X9_257 : Cond.methodLink RX9 257 yX9_fewestFor ∈ qv_WS := (qv_i16 (List.mem_of_getElem? (i := 59) (by decide +kernel)))
theorem qM_X9_260 : Cond.methodLink RX9 260 yX9_partOf ∈ qv_WS := (qv_i17 (List.mem_of_getElem? (i := 21) (by decide +kernel)))
theorem qM_X9_263 : Cond.methodLink RX9 263 yX9_agrees ∈ qv_WS := (qv_i17 (List.mem_of_getElem? (i := 18) (by decide +kernel)))
theorem qM_X9_266 : Cond.methodLink RX9 266 yX9_knownAt ∈ qv_WS := (qv_i17 (List.mem_of_getElem? (i := 33) (by decide +kernel)))
theorem qM_X9_269 : Cond.methodLink RX9 269 yX9_areNext ∈ qv_WS := (qv_i17 (List.mem_of_getElem? (i := 27) (by decide +kernel)))
theorem qM_X9_272 : Cond.methodLink RX9 272 yX9_worstAt ∈ qv_WS := (qv_i17 (List.mem_of_getElem? (i := 30) (by decide +kernel)))
theorem qM_X9_275 : Cond.methodLink RX9 275 yX9_findFactSets ∈ qv_WS := (qv_i17 (List.mem_of_getElem? (i := 12) (by decide +kernel)))
theorem qM_X9_278 : Cond.methodLink RX9 278 yX9_isDone ∈ qv_WS := (qv_i17 (List.mem_of_getElem? (i := 15) (by decide +kernel)))
theorem qM_X9_281 : Cond.methodLink RX9 281 yX9_bestNext ∈ qv_WS := (qv_i17 (List.mem_of_getElem? (i := 24) (by decide +kernel)))
theorem qM_X9_284 : Cond.methodLink RX9 284 yX9_findWorths ∈ qv_WS := (qv_i17 (List.mem_of_getElem? (i := 9) (by decide +kernel)))
theorem qM_X9_287 : Cond.methodLink RX9 287 yX9_signsOn ∈ qv_WS := (qv_i17 (List.mem_of_getElem? (i := 47) (by decide +kernel)))
theorem qM_X9_290 : Cond.methodLink RX9 290 yX9_nthOn ∈ qv_WS := (qv_i17 (List.mem_of_getElem? (i := 53) (by decide +kernel)))
theorem qM_X9_293 : Cond.methodLink RX9 293 yX9_doStand ∈ qv_WS := (qv_i17 (List.mem_of_getElem? (i := 50) (by decide +kernel)))
theorem qM_X9_297 : Cond.methodLink RX9 297 yX9_walksBy ∈ qv_WS := (qv_i17 (List.mem_of_getElem? (i := 44) (by decide +kernel)))
theorem qM_X9_304 : Cond.methodLink RX9 304 yX9_fitMany ∈ qv_WS := (qv_i18 (List.mem_of_getElem? (i := 11) (by decide +kernel)))
theorem qM_X5_29 : Cond.methodLink RX5 29 yJ0_indexOf_0f7a4 ∈ qv_WS := (qv_i6 (List.mem_of_getElem? (i := 0) (by decide +kernel)))
theorem qM_X5_38 : Cond.methodLink RX5 38 yJ0_length_8abf5 ∈ qv_WS := (qv_i5 (List.mem_of_getElem? (i := 12) (by decide +kernel)))
theorem qM_X5_44 : Cond.methodLink RX5 44 yJ0_charAt_5068e ∈ qv_WS := (qv_i5 (List.mem_of_getElem? (i := 24) (by decide +kernel)))

/-! facts for the constructors -/
theorem m_1_10 : Cond.instanceMethod objectInit ∈ tb := it_1 _ (List.mem_of_getElem? (i := 10) rfl)
theorem m_1_11 : Cond.code objectInit ⟨#[0xb1]⟩ 1 none ∈ tb := it_1 _ (List.mem_of_getElem? (i := 11) rfl)
theorem m_1_12 : Cond.classLink RX11 9 RX9 ∈ tb := it_1 _ (List.mem_of_getElem? (i := 12) rfl)
theorem m_1_13 : Cond.instantiable RX9 11 ∈ tb := it_1 _ (List.mem_of_getElem? (i := 13) rfl)
theorem m_1_16 : Cond.classLink RX11 16 RX10 ∈ tb := it_1 _ (List.mem_of_getElem? (i := 16) rfl)
theorem m_1_17 : Cond.instantiable RX10 20 ∈ tb := it_1 _ (List.mem_of_getElem? (i := 17) rfl)
theorem m_1_20 : Cond.classLink RX11 23 RX8 ∈ tb := it_1 _ (List.mem_of_getElem? (i := 20) rfl)
theorem m_1_21 : Cond.instantiable RX8 7 ∈ tb := it_1 _ (List.mem_of_getElem? (i := 21) rfl)
theorem m_1_9 : Cond.methodLink RX11 3 objectInit ∈ tb := it_1 _ (List.mem_of_getElem? (i := 9) rfl)
theorem m_2_0 : Cond.classLink RX11 30 RX7 ∈ tb := it_2 _ (List.mem_of_getElem? (i := 0) rfl)
theorem m_2_1 : Cond.instantiable RX7 3 ∈ tb := it_2 _ (List.mem_of_getElem? (i := 1) rfl)
theorem m_2_12 : Cond.classLink RX11 55 RX1 ∈ tb := it_2 _ (List.mem_of_getElem? (i := 12) rfl)
theorem m_2_13 : Cond.instantiable RX1 7 ∈ tb := it_2 _ (List.mem_of_getElem? (i := 13) rfl)
theorem m_2_16 : Cond.classLink RX11 64 RX3 ∈ tb := it_2 _ (List.mem_of_getElem? (i := 16) rfl)
theorem m_2_17 : Cond.instantiable RX3 4 ∈ tb := it_2 _ (List.mem_of_getElem? (i := 17) rfl)
theorem m_2_20 : Cond.classLink RX11 73 RX6 ∈ tb := it_2 _ (List.mem_of_getElem? (i := 20) rfl)
theorem m_2_21 : Cond.instantiable RX6 9 ∈ tb := it_2 _ (List.mem_of_getElem? (i := 21) rfl)
theorem m_2_4 : Cond.classLink RX11 37 RX0 ∈ tb := it_2 _ (List.mem_of_getElem? (i := 4) rfl)
theorem m_2_5 : Cond.instantiable RX0 2 ∈ tb := it_2 _ (List.mem_of_getElem? (i := 5) rfl)
theorem m_2_8 : Cond.classLink RX11 46 RX2 ∈ tb := it_2 _ (List.mem_of_getElem? (i := 8) rfl)
theorem m_2_9 : Cond.instantiable RX2 8 ∈ tb := it_2 _ (List.mem_of_getElem? (i := 9) rfl)
theorem m_3_0 : Cond.classLink RX11 80 RX5 ∈ tb := it_3 _ (List.mem_of_getElem? (i := 0) rfl)
theorem m_3_1 : Cond.instantiable RX5 7 ∈ tb := it_3 _ (List.mem_of_getElem? (i := 1) rfl)
theorem m_3_10 : Cond.instanceMethod yX10_init ∈ tb := it_3 _ (List.mem_of_getElem? (i := 10) rfl)
theorem m_3_11 : Cond.code yX10_init cX10_init 1 none ∈ tb := it_3 _ (List.mem_of_getElem? (i := 11) rfl)
theorem m_3_12 : Cond.methodLink RX10 3 objectInit ∈ tb := it_3 _ (List.mem_of_getElem? (i := 12) rfl)
theorem m_3_16 : Cond.arrayClass .long ∈ tb := it_3 _ (List.mem_of_getElem? (i := 16) rfl)
theorem m_3_20 : Cond.arrayClass .int ∈ tb := it_3 _ (List.mem_of_getElem? (i := 20) rfl)
theorem m_3_4 : Cond.instanceMethod yX9_init ∈ tb := it_3 _ (List.mem_of_getElem? (i := 4) rfl)
theorem m_3_5 : Cond.code yX9_init cX9_init 1 none ∈ tb := it_3 _ (List.mem_of_getElem? (i := 5) rfl)
theorem m_3_6 : Cond.methodLink RX9 3 objectInit ∈ tb := it_3 _ (List.mem_of_getElem? (i := 6) rfl)
theorem m_3_8 : Cond.arrayClass .byte ∈ tb := it_3 _ (List.mem_of_getElem? (i := 8) rfl)
theorem m_4_10 : Cond.methodLink RX8 3 objectInit ∈ tb := it_4 _ (List.mem_of_getElem? (i := 10) rfl)
theorem m_4_16 : Cond.classLink RX8 27 RX5 ∈ tb := it_4 _ (List.mem_of_getElem? (i := 16) rfl)
theorem m_4_18 : Cond.methodLink RX8 29 yX5_init ∈ tb := it_4 _ (List.mem_of_getElem? (i := 18) rfl)
theorem m_4_19 : Cond.instanceMethod yX5_init ∈ tb := it_4 _ (List.mem_of_getElem? (i := 19) rfl)
theorem m_4_20 : Cond.code yX5_init cX5_init 1 none ∈ tb := it_4 _ (List.mem_of_getElem? (i := 20) rfl)
theorem m_4_21 : Cond.methodLink RX5 3 objectInit ∈ tb := it_4 _ (List.mem_of_getElem? (i := 21) rfl)
theorem m_4_8 : Cond.instanceMethod yX8_init ∈ tb := it_4 _ (List.mem_of_getElem? (i := 8) rfl)
theorem m_4_9 : Cond.code yX8_init cX8_init 1 none ∈ tb := it_4 _ (List.mem_of_getElem? (i := 9) rfl)
theorem m_5_13 : Cond.methodLink RX11 32 yX7_init ∈ tb := it_5 _ (List.mem_of_getElem? (i := 13) rfl)
theorem m_5_14 : Cond.instanceMethod yX7_init ∈ tb := it_5 _ (List.mem_of_getElem? (i := 14) rfl)
theorem m_5_15 : Cond.code yX7_init cX7_init 2 none ∈ tb := it_5 _ (List.mem_of_getElem? (i := 15) rfl)
theorem m_5_16 : Cond.methodLink RX7 3 objectInit ∈ tb := it_5 _ (List.mem_of_getElem? (i := 16) rfl)
theorem m_5_17 : Cond.classLink RX7 9 RX8 ∈ tb := it_5 _ (List.mem_of_getElem? (i := 17) rfl)
theorem m_5_19 : Cond.methodLink RX11 39 yX0_init ∈ tb := it_5 _ (List.mem_of_getElem? (i := 19) rfl)
theorem m_5_20 : Cond.instanceMethod yX0_init ∈ tb := it_5 _ (List.mem_of_getElem? (i := 20) rfl)
theorem m_5_21 : Cond.code yX0_init cX0_init 2 none ∈ tb := it_5 _ (List.mem_of_getElem? (i := 21) rfl)
theorem m_5_22 : Cond.methodLink RX0 3 objectInit ∈ tb := it_5 _ (List.mem_of_getElem? (i := 22) rfl)
theorem m_5_23 : Cond.classLink RX0 9 RX10 ∈ tb := it_5 _ (List.mem_of_getElem? (i := 23) rfl)
theorem m_5_4 : Cond.methodLink RX5 31 yX5_clear ∈ tb := it_5 _ (List.mem_of_getElem? (i := 4) rfl)
theorem m_6_11 : Cond.methodLink RX11 57 yX1_init ∈ tb := it_6 _ (List.mem_of_getElem? (i := 11) rfl)
theorem m_6_12 : Cond.instanceMethod yX1_init ∈ tb := it_6 _ (List.mem_of_getElem? (i := 12) rfl)
theorem m_6_13 : Cond.code yX1_init cX1_init 3 none ∈ tb := it_6 _ (List.mem_of_getElem? (i := 13) rfl)
theorem m_6_14 : Cond.methodLink RX1 3 objectInit ∈ tb := it_6 _ (List.mem_of_getElem? (i := 14) rfl)
theorem m_6_16 : Cond.classLink RX1 15 RX4 ∈ tb := it_6 _ (List.mem_of_getElem? (i := 16) rfl)
theorem m_6_17 : Cond.instantiable RX4 5 ∈ tb := it_6 _ (List.mem_of_getElem? (i := 17) rfl)
theorem m_6_2 : Cond.methodLink RX11 48 yX2_init ∈ tb := it_6 _ (List.mem_of_getElem? (i := 2) rfl)
theorem m_6_3 : Cond.instanceMethod yX2_init ∈ tb := it_6 _ (List.mem_of_getElem? (i := 3) rfl)
theorem m_6_4 : Cond.code yX2_init cX2_init 3 none ∈ tb := it_6 _ (List.mem_of_getElem? (i := 4) rfl)
theorem m_6_5 : Cond.methodLink RX2 3 objectInit ∈ tb := it_6 _ (List.mem_of_getElem? (i := 5) rfl)
theorem m_7_1 : Cond.instanceMethod yX4_init ∈ tb := it_7 _ (List.mem_of_getElem? (i := 1) rfl)
theorem m_7_10 : Cond.methodLink RX3 3 objectInit ∈ tb := it_7 _ (List.mem_of_getElem? (i := 10) rfl)
theorem m_7_11 : Cond.classLink RX3 9 RX4 ∈ tb := it_7 _ (List.mem_of_getElem? (i := 11) rfl)
theorem m_7_16 : Cond.methodLink RX11 75 yX6_init ∈ tb := it_7 _ (List.mem_of_getElem? (i := 16) rfl)
theorem m_7_17 : Cond.instanceMethod yX6_init ∈ tb := it_7 _ (List.mem_of_getElem? (i := 17) rfl)
theorem m_7_18 : Cond.code yX6_init cX6_init 4 none ∈ tb := it_7 _ (List.mem_of_getElem? (i := 18) rfl)
theorem m_7_19 : Cond.methodLink RX6 3 objectInit ∈ tb := it_7 _ (List.mem_of_getElem? (i := 19) rfl)
theorem m_7_2 : Cond.code yX4_init cX4_init 1 none ∈ tb := it_7 _ (List.mem_of_getElem? (i := 2) rfl)
theorem m_7_3 : Cond.methodLink RX4 3 objectInit ∈ tb := it_7 _ (List.mem_of_getElem? (i := 3) rfl)
theorem m_7_7 : Cond.methodLink RX11 66 yX3_init ∈ tb := it_7 _ (List.mem_of_getElem? (i := 7) rfl)
theorem m_7_8 : Cond.instanceMethod yX3_init ∈ tb := it_7 _ (List.mem_of_getElem? (i := 8) rfl)
theorem m_7_9 : Cond.code yX3_init cX3_init 4 none ∈ tb := it_7 _ (List.mem_of_getElem? (i := 9) rfl)
theorem m_8_21 : Cond.methodLink RX12 1 objectInit ∈ tb := it_8 _ (List.mem_of_getElem? (i := 21) rfl)
theorem m_8_4 : Cond.methodLink RX11 82 yX5_init ∈ tb := it_8 _ (List.mem_of_getElem? (i := 4) rfl)
theorem cvX5_31 : gCV RX5 31 5 1 yX5_clear cX5_clear 2 none := ⟨RX5, TX5, 7, rfl, gi_V m_5_4 m_5_5 m_5_6 m_3_2 m_5_7, rfl, by decide +kernel, by decide +kernel, by decide +kernel⟩
theorem pf_X4_2 : gPF RX4 4 2 (.array .long) := ⟨RX4, TX4, 5, rfl, rfl, rfl, by decide +kernel, fun _ => rfl, fun _ => rfl⟩
theorem pf_X4_3 : gPF RX4 4 3 (.array .long) := ⟨RX4, TX4, 5, rfl, rfl, rfl, by decide +kernel, fun _ => rfl, fun _ => rfl⟩
theorem pf_X4_4 : gPF RX4 4 4 (.array .long) := ⟨RX4, TX4, 5, rfl, rfl, rfl, by decide +kernel, fun _ => rfl, fun _ => rfl⟩
theorem pf_X5_2 : gPF RX5 5 2 (.array .int) := ⟨RX5, TX5, 7, rfl, rfl, rfl, by decide +kernel, fun _ => rfl, fun _ => rfl⟩
theorem pf_X5_3 : gPF RX5 5 3 (.array .int) := ⟨RX5, TX5, 7, rfl, rfl, rfl, by decide +kernel, fun _ => rfl, fun _ => rfl⟩
theorem pf_X5_4 : gPF RX5 5 4 (.array .int) := ⟨RX5, TX5, 7, rfl, rfl, rfl, by decide +kernel, fun _ => rfl, fun _ => rfl⟩
theorem pf_X5_5 : gPF RX5 5 5 (.array .int) := ⟨RX5, TX5, 7, rfl, rfl, rfl, by decide +kernel, fun _ => rfl, fun _ => rfl⟩
theorem pf_X5_6 : gPF RX5 5 6 (.array .int) := ⟨RX5, TX5, 7, rfl, rfl, rfl, by decide +kernel, fun _ => rfl, fun _ => rfl⟩
theorem pf_X8_1 : gPF RX8 8 1 (.array .int) := ⟨RX8, TX8, 7, rfl, rfl, rfl, by decide +kernel, fun _ => rfl, fun _ => rfl⟩
theorem pf_X8_2 : gPF RX8 8 2 (.array .int) := ⟨RX8, TX8, 7, rfl, rfl, rfl, by decide +kernel, fun _ => rfl, fun _ => rfl⟩
theorem pf_X8_3 : gPF RX8 8 3 (.array .int) := ⟨RX8, TX8, 7, rfl, rfl, rfl, by decide +kernel, fun _ => rfl, fun _ => rfl⟩
theorem pf_X8_4 : gPF RX8 8 4 (.array .int) := ⟨RX8, TX8, 7, rfl, rfl, rfl, by decide +kernel, fun _ => rfl, fun _ => rfl⟩
theorem pf_X8_5 : gPF RX8 8 5 (.array .int) := ⟨RX8, TX8, 7, rfl, rfl, rfl, by decide +kernel, fun _ => rfl, fun _ => rfl⟩
theorem ne_X8_27 : gNe RX8 27 5 7 [0, 1, 2, 2, 2, 2, 2] := ⟨RX5, TX5, tyX5, rfl, inlX5, tyX5_ok, m_4_16, m_3_1, m_3_2, rfl, by decide⟩
theorem ci_X8_29 : gCI RX8 29 0 yX5_init cX5_init 1 := ⟨m_4_20, m_3_2, m_4_19, rfl, ⟨by decide +kernel, by decide +kernel, by decide +kernel⟩, Or.inl m_4_18⟩
theorem pf_X8_6 : gPF RX8 8 6 (.object "CoverDesk$Failing") := ⟨RX8, TX8, 7, rfl, rfl, rfl, by decide +kernel, fun _ => rfl, fun _ => rfl⟩
theorem pf_X9_8 : gPF RX9 9 8 (.array .byte) := ⟨RX9, TX9, 11, rfl, rfl, rfl, by decide +kernel, fun _ => rfl, fun _ => rfl⟩
theorem pf_X10_6 : gPF RX10 10 6 (.array .long) := ⟨RX10, TX10, 20, rfl, rfl, rfl, by decide +kernel, fun _ => rfl, fun _ => rfl⟩
theorem pf_X10_7 : gPF RX10 10 7 (.array .long) := ⟨RX10, TX10, 20, rfl, rfl, rfl, by decide +kernel, fun _ => rfl, fun _ => rfl⟩
theorem pf_X10_8 : gPF RX10 10 8 (.array .long) := ⟨RX10, TX10, 20, rfl, rfl, rfl, by decide +kernel, fun _ => rfl, fun _ => rfl⟩
theorem pf_X10_9 : gPF RX10 10 9 (.array .int) := ⟨RX10, TX10, 20, rfl, rfl, rfl, by decide +kernel, fun _ => rfl, fun _ => rfl⟩
theorem pf_X10_10 : gPF RX10 10 10 (.array .int) := ⟨RX10, TX10, 20, rfl, rfl, rfl, by decide +kernel, fun _ => rfl, fun _ => rfl⟩
theorem pf_X10_11 : gPF RX10 10 11 (.array .int) := ⟨RX10, TX10, 20, rfl, rfl, rfl, by decide +kernel, fun _ => rfl, fun _ => rfl⟩
theorem pf_X10_12 : gPF RX10 10 12 (.array .int) := ⟨RX10, TX10, 20, rfl, rfl, rfl, by decide +kernel, fun _ => rfl, fun _ => rfl⟩
theorem pf_X10_13 : gPF RX10 10 13 (.array .int) := ⟨RX10, TX10, 20, rfl, rfl, rfl, by decide +kernel, fun _ => rfl, fun _ => rfl⟩
theorem pf_X10_14 : gPF RX10 10 14 (.array .int) := ⟨RX10, TX10, 20, rfl, rfl, rfl, by decide +kernel, fun _ => rfl, fun _ => rfl⟩
theorem pf_X10_15 : gPF RX10 10 15 (.array .int) := ⟨RX10, TX10, 20, rfl, rfl, rfl, by decide +kernel, fun _ => rfl, fun _ => rfl⟩
theorem pf_X10_16 : gPF RX10 10 16 (.array .long) := ⟨RX10, TX10, 20, rfl, rfl, rfl, by decide +kernel, fun _ => rfl, fun _ => rfl⟩
theorem pf_X10_17 : gPF RX10 10 17 (.array .int) := ⟨RX10, TX10, 20, rfl, rfl, rfl, by decide +kernel, fun _ => rfl, fun _ => rfl⟩
theorem pf_X10_18 : gPF RX10 10 18 (.array .int) := ⟨RX10, TX10, 20, rfl, rfl, rfl, by decide +kernel, fun _ => rfl, fun _ => rfl⟩
theorem pf_X10_19 : gPF RX10 10 19 (.array .int) := ⟨RX10, TX10, 20, rfl, rfl, rfl, by decide +kernel, fun _ => rfl, fun _ => rfl⟩
theorem pf_X7_2 : gPF RX7 7 2 (.array (.object "CoverDesk$State")) := ⟨RX7, TX7, 3, rfl, rfl, rfl, by decide +kernel, fun _ => rfl, fun _ => rfl⟩
theorem ne_X7_9 : gNe RX7 9 8 7 [0, 2, 2, 2, 2, 2, 2] := ⟨RX8, TX8, tyX8, rfl, inlX8, tyX8_ok, m_5_17, m_1_21, m_1_22, rfl, by decide⟩
theorem ci_X7_17 : gCI RX7 17 0 yX8_init cX8_init 1 := ⟨m_4_9, m_1_22, m_4_8, rfl, ⟨by decide +kernel, by decide +kernel, by decide +kernel⟩, Or.inr ⟨"CoverDesk", List.mem_of_getElem? (i := 3) rfl⟩⟩
theorem ne_X0_9 : gNe RX0 9 10 20 [0, 0, 0, 0, 0, 0, 2, 2, 2, 2, 2, 2, 2, 2, 2, 2, 2, 2, 2, 2] := ⟨RX10, TX10, tyX10, rfl, inlX10, tyX10_ok, m_5_23, m_1_17, m_1_18, rfl, by decide⟩
theorem ci_X0_11 : gCI RX0 11 0 yX10_init cX10_init 1 := ⟨m_3_11, m_1_18, m_3_10, rfl, ⟨by decide +kernel, by decide +kernel, by decide +kernel⟩, Or.inr ⟨"CoverDesk", List.mem_of_getElem? (i := 4) rfl⟩⟩
theorem pf_X0_0 : gPF RX0 0 0 (.object "CoverDesk$Told") := ⟨RX0, TX0, 2, rfl, rfl, rfl, by decide +kernel, fun _ => rfl, fun _ => rfl⟩
theorem pf_X0_1 : gPF RX0 0 1 (.object "CoverDesk$Tape") := ⟨RX0, TX0, 2, rfl, rfl, rfl, by decide +kernel, fun _ => rfl, fun _ => rfl⟩
theorem pf_X2_1 : gPF RX2 2 1 (.array .int) := ⟨RX2, TX2, 8, rfl, rfl, rfl, by decide +kernel, fun _ => rfl, fun _ => rfl⟩
theorem pf_X2_2 : gPF RX2 2 2 (.array .int) := ⟨RX2, TX2, 8, rfl, rfl, rfl, by decide +kernel, fun _ => rfl, fun _ => rfl⟩
theorem pf_X2_3 : gPF RX2 2 3 (.array .int) := ⟨RX2, TX2, 8, rfl, rfl, rfl, by decide +kernel, fun _ => rfl, fun _ => rfl⟩
theorem pf_X2_4 : gPF RX2 2 4 (.object "CoverDesk$Tape") := ⟨RX2, TX2, 8, rfl, rfl, rfl, by decide +kernel, fun _ => rfl, fun _ => rfl⟩
theorem pf_X2_5 : gPF RX2 2 5 (.object "CoverDesk$Told") := ⟨RX2, TX2, 8, rfl, rfl, rfl, by decide +kernel, fun _ => rfl, fun _ => rfl⟩
theorem pf_X1_0 : gPF RX1 1 0 (.array .int) := ⟨RX1, TX1, 7, rfl, rfl, rfl, by decide +kernel, fun _ => rfl, fun _ => rfl⟩
theorem ne_X1_15 : gNe RX1 15 4 5 [0, 1, 2, 2, 2] := ⟨RX4, TX4, tyX4, rfl, inlX4, tyX4_ok, m_6_16, m_6_17, m_6_18, rfl, by decide⟩
theorem ci_X1_17 : gCI RX1 17 0 yX4_init cX4_init 1 := ⟨m_7_2, m_6_18, m_7_1, rfl, ⟨by decide +kernel, by decide +kernel, by decide +kernel⟩, Or.inr ⟨"CoverDesk", List.mem_of_getElem? (i := 5) rfl⟩⟩
theorem pf_X1_1 : gPF RX1 1 1 (.object "CoverDesk$Division") := ⟨RX1, TX1, 7, rfl, rfl, rfl, by decide +kernel, fun _ => rfl, fun _ => rfl⟩
theorem pf_X1_4 : gPF RX1 1 4 (.array .int) := ⟨RX1, TX1, 7, rfl, rfl, rfl, by decide +kernel, fun _ => rfl, fun _ => rfl⟩
theorem pf_X1_5 : gPF RX1 1 5 (.array .int) := ⟨RX1, TX1, 7, rfl, rfl, rfl, by decide +kernel, fun _ => rfl, fun _ => rfl⟩
theorem pf_X1_6 : gPF RX1 1 6 (.array .long) := ⟨RX1, TX1, 7, rfl, rfl, rfl, by decide +kernel, fun _ => rfl, fun _ => rfl⟩
theorem pf_X1_2 : gPF RX1 1 2 (.object "CoverDesk$Told") := ⟨RX1, TX1, 7, rfl, rfl, rfl, by decide +kernel, fun _ => rfl, fun _ => rfl⟩
theorem pf_X1_3 : gPF RX1 1 3 (.object "CoverDesk$State") := ⟨RX1, TX1, 7, rfl, rfl, rfl, by decide +kernel, fun _ => rfl, fun _ => rfl⟩
theorem ne_X3_9 : gNe RX3 9 4 5 [0, 1, 2, 2, 2] := ⟨RX4, TX4, tyX4, rfl, inlX4, tyX4_ok, m_7_11, m_6_17, m_6_18, rfl, by decide⟩
theorem ci_X3_11 : gCI RX3 11 0 yX4_init cX4_init 1 := ⟨m_7_2, m_6_18, m_7_1, rfl, ⟨by decide +kernel, by decide +kernel, by decide +kernel⟩, Or.inr ⟨"CoverDesk", List.mem_of_getElem? (i := 6) rfl⟩⟩
theorem pf_X3_3 : gPF RX3 3 3 (.object "CoverDesk$Division") := ⟨RX3, TX3, 4, rfl, rfl, rfl, by decide +kernel, fun _ => rfl, fun _ => rfl⟩
theorem pf_X3_0 : gPF RX3 3 0 (.object "CoverDesk$Told") := ⟨RX3, TX3, 4, rfl, rfl, rfl, by decide +kernel, fun _ => rfl, fun _ => rfl⟩
theorem pf_X3_1 : gPF RX3 3 1 (.object "CoverDesk$State") := ⟨RX3, TX3, 4, rfl, rfl, rfl, by decide +kernel, fun _ => rfl, fun _ => rfl⟩
theorem pf_X3_2 : gPF RX3 3 2 (.object "CoverDesk$Cover") := ⟨RX3, TX3, 4, rfl, rfl, rfl, by decide +kernel, fun _ => rfl, fun _ => rfl⟩
theorem pf_X6_1 : gPF RX6 6 1 (.array .long) := ⟨RX6, TX6, 9, rfl, rfl, rfl, by decide +kernel, fun _ => rfl, fun _ => rfl⟩
theorem pf_X6_2 : gPF RX6 6 2 (.array .long) := ⟨RX6, TX6, 9, rfl, rfl, rfl, by decide +kernel, fun _ => rfl, fun _ => rfl⟩
theorem pf_X6_3 : gPF RX6 6 3 (.array .int) := ⟨RX6, TX6, 9, rfl, rfl, rfl, by decide +kernel, fun _ => rfl, fun _ => rfl⟩
theorem pf_X6_4 : gPF RX6 6 4 (.array .int) := ⟨RX6, TX6, 9, rfl, rfl, rfl, by decide +kernel, fun _ => rfl, fun _ => rfl⟩
theorem pf_X6_5 : gPF RX6 6 5 (.array .long) := ⟨RX6, TX6, 9, rfl, rfl, rfl, by decide +kernel, fun _ => rfl, fun _ => rfl⟩
theorem pf_X6_6 : gPF RX6 6 6 (.object "CoverDesk$Told") := ⟨RX6, TX6, 9, rfl, rfl, rfl, by decide +kernel, fun _ => rfl, fun _ => rfl⟩
theorem pf_X6_7 : gPF RX6 6 7 (.object "CoverDesk$State") := ⟨RX6, TX6, 9, rfl, rfl, rfl, by decide +kernel, fun _ => rfl, fun _ => rfl⟩
theorem pf_X6_8 : gPF RX6 6 8 (.object "CoverDesk$Cover") := ⟨RX6, TX6, 9, rfl, rfl, rfl, by decide +kernel, fun _ => rfl, fun _ => rfl⟩
theorem ne_X11_9 : gNe RX11 9 9 11 [0, 0, 0, 0, 0, 0, 0, 1, 2, 0, 0] := ⟨RX9, TX9, tyX9, rfl, inlX9, tyX9_ok, m_1_12, m_1_13, m_1_14, rfl, by decide⟩
theorem ci_X11_11 : gCI RX11 11 0 yX9_init cX9_init 1 := ⟨m_3_5, m_1_14, m_3_4, rfl, ⟨by decide +kernel, by decide +kernel, by decide +kernel⟩, Or.inr ⟨"CoverDesk", List.mem_of_getElem? (i := 0) rfl⟩⟩
theorem pf_X11_0 : gPF RX11 11 0 (.object "CoverDesk$Tape") := ⟨RX11, TX11, 11, rfl, rfl, rfl, by decide +kernel, fun _ => rfl, fun _ => rfl⟩
theorem ne_X11_16 : gNe RX11 16 10 20 [0, 0, 0, 0, 0, 0, 2, 2, 2, 2, 2, 2, 2, 2, 2, 2, 2, 2, 2, 2] := ⟨RX10, TX10, tyX10, rfl, inlX10, tyX10_ok, m_1_16, m_1_17, m_1_18, rfl, by decide⟩
theorem ci_X11_18 : gCI RX11 18 0 yX10_init cX10_init 1 := ⟨m_3_11, m_1_18, m_3_10, rfl, ⟨by decide +kernel, by decide +kernel, by decide +kernel⟩, Or.inr ⟨"CoverDesk", List.mem_of_getElem? (i := 1) rfl⟩⟩
theorem pf_X11_1 : gPF RX11 11 1 (.object "CoverDesk$Told") := ⟨RX11, TX11, 11, rfl, rfl, rfl, by decide +kernel, fun _ => rfl, fun _ => rfl⟩
theorem ne_X11_23 : gNe RX11 23 8 7 [0, 2, 2, 2, 2, 2, 2] := ⟨RX8, TX8, tyX8, rfl, inlX8, tyX8_ok, m_1_20, m_1_21, m_1_22, rfl, by decide⟩
theorem ci_X11_25 : gCI RX11 25 0 yX8_init cX8_init 1 := ⟨m_4_9, m_1_22, m_4_8, rfl, ⟨by decide +kernel, by decide +kernel, by decide +kernel⟩, Or.inr ⟨"CoverDesk", List.mem_of_getElem? (i := 2) rfl⟩⟩
theorem pf_X11_2 : gPF RX11 11 2 (.object "CoverDesk$State") := ⟨RX11, TX11, 11, rfl, rfl, rfl, by decide +kernel, fun _ => rfl, fun _ => rfl⟩
theorem ne_X11_30 : gNe RX11 30 7 3 [0, 0, 2] := ⟨RX7, TX7, tyX7, rfl, inlX7, tyX7_ok, m_2_0, m_2_1, m_2_2, rfl, by decide⟩
theorem ci_X11_32 : gCI RX11 32 0 yX7_init cX7_init 2 := ⟨m_5_15, m_2_2, m_5_14, rfl, ⟨by decide +kernel, by decide +kernel, by decide +kernel⟩, Or.inl m_5_13⟩
theorem pf_X11_3 : gPF RX11 11 3 (.object "CoverDesk$Past") := ⟨RX11, TX11, 11, rfl, rfl, rfl, by decide +kernel, fun _ => rfl, fun _ => rfl⟩
theorem ne_X11_37 : gNe RX11 37 0 2 [2, 2] := ⟨RX0, TX0, tyX0, rfl, inlX0, tyX0_ok, m_2_4, m_2_5, m_2_6, rfl, by decide⟩
theorem ci_X11_39 : gCI RX11 39 1 yX0_init cX0_init 2 := ⟨m_5_21, m_2_6, m_5_20, rfl, ⟨by decide +kernel, by decide +kernel, by decide +kernel⟩, Or.inl m_5_19⟩
theorem pf_X11_4 : gPF RX11 11 4 (.object "CoverDesk$BookReader") := ⟨RX11, TX11, 11, rfl, rfl, rfl, by decide +kernel, fun _ => rfl, fun _ => rfl⟩
theorem ne_X11_46 : gNe RX11 46 2 8 [0, 2, 2, 2, 2, 2, 0, 0] := ⟨RX2, TX2, tyX2, rfl, inlX2, tyX2_ok, m_2_8, m_2_9, m_2_10, rfl, by decide⟩
theorem ci_X11_48 : gCI RX11 48 2 yX2_init cX2_init 3 := ⟨m_6_4, m_2_10, m_6_3, rfl, ⟨by decide +kernel, by decide +kernel, by decide +kernel⟩, Or.inl m_6_2⟩
theorem pf_X11_5 : gPF RX11 11 5 (.object "CoverDesk$DayReader") := ⟨RX11, TX11, 11, rfl, rfl, rfl, by decide +kernel, fun _ => rfl, fun _ => rfl⟩
theorem ne_X11_55 : gNe RX11 55 1 7 [2, 2, 2, 2, 2, 2, 2] := ⟨RX1, TX1, tyX1, rfl, inlX1, tyX1_ok, m_2_12, m_2_13, m_2_14, rfl, by decide⟩
theorem ci_X11_57 : gCI RX11 57 2 yX1_init cX1_init 3 := ⟨m_6_13, m_2_14, m_6_12, rfl, ⟨by decide +kernel, by decide +kernel, by decide +kernel⟩, Or.inl m_6_11⟩
theorem pf_X11_6 : gPF RX11 11 6 (.object "CoverDesk$Cover") := ⟨RX11, TX11, 11, rfl, rfl, rfl, by decide +kernel, fun _ => rfl, fun _ => rfl⟩
theorem ne_X11_64 : gNe RX11 64 3 4 [2, 2, 2, 2] := ⟨RX3, TX3, tyX3, rfl, inlX3, tyX3_ok, m_2_16, m_2_17, m_2_18, rfl, by decide⟩
theorem ci_X11_66 : gCI RX11 66 3 yX3_init cX3_init 4 := ⟨m_7_9, m_2_18, m_7_8, rfl, ⟨by decide +kernel, by decide +kernel, by decide +kernel⟩, Or.inl m_7_7⟩
theorem pf_X11_7 : gPF RX11 11 7 (.object "CoverDesk$Deeds") := ⟨RX11, TX11, 11, rfl, rfl, rfl, by decide +kernel, fun _ => rfl, fun _ => rfl⟩
theorem ne_X11_73 : gNe RX11 73 6 9 [0, 2, 2, 2, 2, 2, 2, 2, 2] := ⟨RX6, TX6, tyX6, rfl, inlX6, tyX6_ok, m_2_20, m_2_21, m_2_22, rfl, by decide⟩
theorem ci_X11_75 : gCI RX11 75 3 yX6_init cX6_init 4 := ⟨m_7_18, m_2_22, m_7_17, rfl, ⟨by decide +kernel, by decide +kernel, by decide +kernel⟩, Or.inl m_7_16⟩
theorem pf_X11_8 : gPF RX11 11 8 (.object "CoverDesk$Moves") := ⟨RX11, TX11, 11, rfl, rfl, rfl, by decide +kernel, fun _ => rfl, fun _ => rfl⟩
theorem ne_X11_80 : gNe RX11 80 5 7 [0, 1, 2, 2, 2, 2, 2] := ⟨RX5, TX5, tyX5, rfl, inlX5, tyX5_ok, m_3_0, m_3_1, m_3_2, rfl, by decide⟩
theorem ci_X11_82 : gCI RX11 82 0 yX5_init cX5_init 1 := ⟨m_4_20, m_3_2, m_4_19, rfl, ⟨by decide +kernel, by decide +kernel, by decide +kernel⟩, Or.inl m_8_4⟩
theorem pf_X11_9 : gPF RX11 11 9 (.object "CoverDesk$Failing") := ⟨RX11, TX11, 11, rfl, rfl, rfl, by decide +kernel, fun _ => rfl, fun _ => rfl⟩
theorem pf_X12_0 : gPF RX12 12 0 (.array .int) := ⟨RX12, TX12, 48, rfl, rfl, rfl, by decide +kernel, fun _ => rfl, fun _ => rfl⟩
theorem pf_X12_1 : gPF RX12 12 1 (.array .long) := ⟨RX12, TX12, 48, rfl, rfl, rfl, by decide +kernel, fun _ => rfl, fun _ => rfl⟩
theorem pf_X12_2 : gPF RX12 12 2 (.array .long) := ⟨RX12, TX12, 48, rfl, rfl, rfl, by decide +kernel, fun _ => rfl, fun _ => rfl⟩
theorem pf_X12_3 : gPF RX12 12 3 (.array .long) := ⟨RX12, TX12, 48, rfl, rfl, rfl, by decide +kernel, fun _ => rfl, fun _ => rfl⟩
theorem pf_X12_4 : gPF RX12 12 4 (.array .int) := ⟨RX12, TX12, 48, rfl, rfl, rfl, by decide +kernel, fun _ => rfl, fun _ => rfl⟩
theorem pf_X12_5 : gPF RX12 12 5 (.array .int) := ⟨RX12, TX12, 48, rfl, rfl, rfl, by decide +kernel, fun _ => rfl, fun _ => rfl⟩
theorem pf_X12_6 : gPF RX12 12 6 (.array .int) := ⟨RX12, TX12, 48, rfl, rfl, rfl, by decide +kernel, fun _ => rfl, fun _ => rfl⟩
theorem pf_X12_7 : gPF RX12 12 7 (.array .int) := ⟨RX12, TX12, 48, rfl, rfl, rfl, by decide +kernel, fun _ => rfl, fun _ => rfl⟩
theorem pf_X12_8 : gPF RX12 12 8 (.array .int) := ⟨RX12, TX12, 48, rfl, rfl, rfl, by decide +kernel, fun _ => rfl, fun _ => rfl⟩
theorem pf_X12_9 : gPF RX12 12 9 (.array .long) := ⟨RX12, TX12, 48, rfl, rfl, rfl, by decide +kernel, fun _ => rfl, fun _ => rfl⟩
theorem pf_X12_10 : gPF RX12 12 10 (.array .int) := ⟨RX12, TX12, 48, rfl, rfl, rfl, by decide +kernel, fun _ => rfl, fun _ => rfl⟩
theorem pf_X12_11 : gPF RX12 12 11 (.array .int) := ⟨RX12, TX12, 48, rfl, rfl, rfl, by decide +kernel, fun _ => rfl, fun _ => rfl⟩
theorem pf_X12_12 : gPF RX12 12 12 (.array .int) := ⟨RX12, TX12, 48, rfl, rfl, rfl, by decide +kernel, fun _ => rfl, fun _ => rfl⟩
theorem pf_X12_13 : gPF RX12 12 13 (.array .int) := ⟨RX12, TX12, 48, rfl, rfl, rfl, by decide +kernel, fun _ => rfl, fun _ => rfl⟩
theorem pf_X12_14 : gPF RX12 12 14 (.array .int) := ⟨RX12, TX12, 48, rfl, rfl, rfl, by decide +kernel, fun _ => rfl, fun _ => rfl⟩
theorem pf_X12_15 : gPF RX12 12 15 (.array .int) := ⟨RX12, TX12, 48, rfl, rfl, rfl, by decide +kernel, fun _ => rfl, fun _ => rfl⟩
theorem pf_X12_16 : gPF RX12 12 16 (.array .int) := ⟨RX12, TX12, 48, rfl, rfl, rfl, by decide +kernel, fun _ => rfl, fun _ => rfl⟩
theorem pf_X12_18 : gPF RX12 12 18 (.array .int) := ⟨RX12, TX12, 48, rfl, rfl, rfl, by decide +kernel, fun _ => rfl, fun _ => rfl⟩
theorem pf_X12_19 : gPF RX12 12 19 (.array .int) := ⟨RX12, TX12, 48, rfl, rfl, rfl, by decide +kernel, fun _ => rfl, fun _ => rfl⟩
theorem pf_X12_35 : gPF RX12 12 35 (.array .long) := ⟨RX12, TX12, 48, rfl, rfl, rfl, by decide +kernel, fun _ => rfl, fun _ => rfl⟩
theorem pf_X12_36 : gPF RX12 12 36 (.array .long) := ⟨RX12, TX12, 48, rfl, rfl, rfl, by decide +kernel, fun _ => rfl, fun _ => rfl⟩
theorem pf_X12_37 : gPF RX12 12 37 (.array .long) := ⟨RX12, TX12, 48, rfl, rfl, rfl, by decide +kernel, fun _ => rfl, fun _ => rfl⟩
theorem pf_X12_38 : gPF RX12 12 38 (.array .long) := ⟨RX12, TX12, 48, rfl, rfl, rfl, by decide +kernel, fun _ => rfl, fun _ => rfl⟩
theorem pf_X12_39 : gPF RX12 12 39 (.array .long) := ⟨RX12, TX12, 48, rfl, rfl, rfl, by decide +kernel, fun _ => rfl, fun _ => rfl⟩
theorem pf_X12_40 : gPF RX12 12 40 (.array .long) := ⟨RX12, TX12, 48, rfl, rfl, rfl, by decide +kernel, fun _ => rfl, fun _ => rfl⟩
theorem pf_X12_41 : gPF RX12 12 41 (.array .long) := ⟨RX12, TX12, 48, rfl, rfl, rfl, by decide +kernel, fun _ => rfl, fun _ => rfl⟩
theorem pf_X12_42 : gPF RX12 12 42 (.array .int) := ⟨RX12, TX12, 48, rfl, rfl, rfl, by decide +kernel, fun _ => rfl, fun _ => rfl⟩
theorem pf_X12_45 : gPF RX12 12 45 (.array .long) := ⟨RX12, TX12, 48, rfl, rfl, rfl, by decide +kernel, fun _ => rfl, fun _ => rfl⟩
theorem pf_X12_46 : gPF RX12 12 46 (.array .long) := ⟨RX12, TX12, 48, rfl, rfl, rfl, by decide +kernel, fun _ => rfl, fun _ => rfl⟩
theorem pf_X12_47 : gPF RX12 12 47 (.array .long) := ⟨RX12, TX12, 48, rfl, rfl, rfl, by decide +kernel, fun _ => rfl, fun _ => rfl⟩
section JX
variable {κ : gK} {cc : ByteArray} {nL : Nat} {own : String} {ret : Option FieldType} {fr lo mc ms B : Nat} {Q : State → Prop} {c0 w0 : Nat} {pc : Nat} {lv : List (Option Value)} {st : List Value} {u : gM} {pre tl tl' : List gE}
theorem j_iincv {A : Nat → Prop} {Wd : va_G → (Nat → ClassId) → Heap → Prop} (X : gXJ κ A cc nL own ret fr lo mc ms) {i : Nat} {n : Int} {d x v : Int32} (lv2 : List (Option Value)) (hdg : decode cc pc = .ok (.iinc i n, 3)) (hd : Int32.ofInt n = d) (hk : lv[i]? = some (some (.int x))) (hn : i < nL) (hv : x + d = v) (hl2 : gS1 lv i (.int v) = lv2) (k : gJ κ nL A Q c0 w0 Wd (pc + 3) lv2 st) : gJ κ nL A Q c0 w0 Wd pc lv st := j_iinc X lv2 hdg hd hk hn (by rw [hv]; exact hl2) k
theorem j_astq2 (X : gXJ κ (gAb B) cc nL own ret fr lo mc ms) {i N q kk : Nat} {rs : List Nat} {cs : List Nat} {x : Int32} (hi : tl[i]? = some (.inr (3, N, rs))) (hq : tl[q]? = some (.inl (8, cs))) (hrs : rs.length = N) (hin : vp_in x N) (hkk : x.toNatClampNeg = kk) (htl : tl.set i (.inr (3, N, rs.set kk (pre.length + q + 3))) = tl') (hdg : decode cc pc = .ok (.aastore, 1)) (k : gJ κ nL (gAb B) Q c0 w0 (gWd B (pre ++ tl') u) (pc + 1) lv st) : gJ κ nL (gAb B) Q c0 w0 (gWd B (pre ++ tl) u) pc lv (.ref (B + (pre.length + q)) :: .int x :: .ref (B + (pre.length + i)) :: st) := j_astq X hi hq hrs hin (by rw [hkk]; exact htl) hdg k
theorem j_iast2 (X : gXJ κ (gAb B) cc nL own ret fr lo mc ms) {i N kk : Nat} {x v : Int32} (hi : tl[i]? = some (.inr (0, N, []))) (hin : vp_in x N) (hkk : x.toNatClampNeg = kk) (hdg : decode cc pc = .ok (.iastore, 1)) (k : gJ κ nL (gAb B) Q c0 w0 (gWd B (pre ++ tl) (upI u (pre.length + i) kk v)) (pc + 1) lv st) : gJ κ nL (gAb B) Q c0 w0 (gWd B (pre ++ tl) u) pc lv (.int v :: .int x :: .ref (B + (pre.length + i)) :: st) := j_iast X hi hin hdg (by rw [hkk]; exact k)
end JX
